section
-- ===== PART A: goes FIRST, ahead of the names: the tables' words, and 'selects' of the private methods out of them =====
/-- a private method of a class that the tables say can be made, by its rows of tables_1 -/
def lw_okq (q : MethodName × Nat) : Prop := (q.1.cls ≠ "java/lang/invoke/MethodHandle" ∧ q.1.cls ≠ "java/lang/invoke/VarHandle") ∧ Cond.instantiable q.1.cls q.2 ∈ tables_1 ∧ Cond.privateMethod q.1 ∈ tables_1 ∧ Cond.instanceMethod q.1 ∈ tables_1
theorem lw_p0 : lw_okq (⟨"TouchedAndStands", "refuse", "(I)I"⟩, 9) := ⟨⟨by decide +kernel, by decide +kernel⟩, List.mem_of_getElem? (i := 14) (by decide +kernel), List.mem_of_getElem? (i := 111) (by decide +kernel), List.mem_of_getElem? (i := 112) (by decide +kernel)⟩
theorem lw_p1 : lw_okq (⟨"TouchedAndStands", "readLetters", "()I"⟩, 9) := ⟨⟨by decide +kernel, by decide +kernel⟩, List.mem_of_getElem? (i := 14) (by decide +kernel), List.mem_of_getElem? (i := 128) (by decide +kernel), List.mem_of_getElem? (i := 129) (by decide +kernel)⟩
theorem lw_p2 : lw_okq (⟨"TouchedAndStands$Letters", "shapeAt", "(I)Ljava/lang/String;"⟩, 3) := ⟨⟨by decide +kernel, by decide +kernel⟩, List.mem_of_getElem? (i := 63) (by decide +kernel), List.mem_of_getElem? (i := 147) (by decide +kernel), List.mem_of_getElem? (i := 148) (by decide +kernel)⟩
theorem lw_p3 : lw_okq (⟨"TouchedAndStands$Letters", "signAt", "(I)I"⟩, 3) := ⟨⟨by decide +kernel, by decide +kernel⟩, List.mem_of_getElem? (i := 63) (by decide +kernel), List.mem_of_getElem? (i := 151) (by decide +kernel), List.mem_of_getElem? (i := 152) (by decide +kernel)⟩
theorem lw_p4 : lw_okq (⟨"TouchedAndStands$Letters", "tellStatement", "(LTouchedAndStands$Yard;I)Z"⟩, 3) := ⟨⟨by decide +kernel, by decide +kernel⟩, List.mem_of_getElem? (i := 63) (by decide +kernel), List.mem_of_getElem? (i := 271) (by decide +kernel), List.mem_of_getElem? (i := 272) (by decide +kernel)⟩
theorem lw_p5 : lw_okq (⟨"TouchedAndStands$Letters", "kindAt", "(I)I"⟩, 3) := ⟨⟨by decide +kernel, by decide +kernel⟩, List.mem_of_getElem? (i := 63) (by decide +kernel), List.mem_of_getElem? (i := 275) (by decide +kernel), List.mem_of_getElem? (i := 276) (by decide +kernel)⟩
theorem lw_p6 : lw_okq (⟨"TouchedAndStands$Letters", "cellAt", "(I)I"⟩, 3) := ⟨⟨by decide +kernel, by decide +kernel⟩, List.mem_of_getElem? (i := 63) (by decide +kernel), List.mem_of_getElem? (i := 279) (by decide +kernel), List.mem_of_getElem? (i := 280) (by decide +kernel)⟩
theorem lw_p7 : lw_okq (⟨"TouchedAndStands$Letters", "digitAt", "(I)I"⟩, 3) := ⟨⟨by decide +kernel, by decide +kernel⟩, List.mem_of_getElem? (i := 63) (by decide +kernel), List.mem_of_getElem? (i := 283) (by decide +kernel), List.mem_of_getElem? (i := 284) (by decide +kernel)⟩
theorem lw_p8 : lw_okq (⟨"TouchedAndStands$Yard", "catcherActs", "(I)V"⟩, 11) := ⟨⟨by decide +kernel, by decide +kernel⟩, List.mem_of_getElem? (i := 22) (by decide +kernel), List.mem_of_getElem? (i := 397) (by decide +kernel), List.mem_of_getElem? (i := 398) (by decide +kernel)⟩
theorem lw_p9 : lw_okq (⟨"TouchedAndStands$Yard", "runningBits", "()I"⟩, 11) := ⟨⟨by decide +kernel, by decide +kernel⟩, List.mem_of_getElem? (i := 22) (by decide +kernel), List.mem_of_getElem? (i := 401) (by decide +kernel), List.mem_of_getElem? (i := 402) (by decide +kernel)⟩
theorem lw_p10 : lw_okq (⟨"TouchedAndStands$Yard", "playerBits", "()I"⟩, 11) := ⟨⟨by decide +kernel, by decide +kernel⟩, List.mem_of_getElem? (i := 22) (by decide +kernel), List.mem_of_getElem? (i := 405) (by decide +kernel), List.mem_of_getElem? (i := 406) (by decide +kernel)⟩
theorem lw_p11 : lw_okq (⟨"TouchedAndStands$Yard", "safeBits", "()I"⟩, 11) := ⟨⟨by decide +kernel, by decide +kernel⟩, List.mem_of_getElem? (i := 22) (by decide +kernel), List.mem_of_getElem? (i := 409) (by decide +kernel), List.mem_of_getElem? (i := 410) (by decide +kernel)⟩
theorem lw_p12 : lw_okq (⟨"TouchedAndStands$Yard", "leastBeside", "(II)I"⟩, 11) := ⟨⟨by decide +kernel, by decide +kernel⟩, List.mem_of_getElem? (i := 22) (by decide +kernel), List.mem_of_getElem? (i := 416) (by decide +kernel), List.mem_of_getElem? (i := 417) (by decide +kernel)⟩
theorem lw_p13 : lw_okq (⟨"TouchedAndStands$Yard", "guards", "(I)V"⟩, 11) := ⟨⟨by decide +kernel, by decide +kernel⟩, List.mem_of_getElem? (i := 22) (by decide +kernel), List.mem_of_getElem? (i := 421) (by decide +kernel), List.mem_of_getElem? (i := 422) (by decide +kernel)⟩
theorem lw_p14 : lw_okq (⟨"TouchedAndStands$Yard", "nearest", "(II)I"⟩, 11) := ⟨⟨by decide +kernel, by decide +kernel⟩, List.mem_of_getElem? (i := 22) (by decide +kernel), List.mem_of_getElem? (i := 425) (by decide +kernel), List.mem_of_getElem? (i := 426) (by decide +kernel)⟩
theorem lw_p15 : lw_okq (⟨"TouchedAndStands$Yard", "stepToward", "(II)V"⟩, 11) := ⟨⟨by decide +kernel, by decide +kernel⟩, List.mem_of_getElem? (i := 22) (by decide +kernel), List.mem_of_getElem? (i := 429) (by decide +kernel), List.mem_of_getElem? (i := 430) (by decide +kernel)⟩
def lw_privs_1 : List (MethodName × Nat) := [(⟨"TouchedAndStands", "refuse", "(I)I"⟩, 9), (⟨"TouchedAndStands", "readLetters", "()I"⟩, 9), (⟨"TouchedAndStands$Letters", "shapeAt", "(I)Ljava/lang/String;"⟩, 3), (⟨"TouchedAndStands$Letters", "signAt", "(I)I"⟩, 3), (⟨"TouchedAndStands$Letters", "tellStatement", "(LTouchedAndStands$Yard;I)Z"⟩, 3), (⟨"TouchedAndStands$Letters", "kindAt", "(I)I"⟩, 3), (⟨"TouchedAndStands$Letters", "cellAt", "(I)I"⟩, 3), (⟨"TouchedAndStands$Letters", "digitAt", "(I)I"⟩, 3), (⟨"TouchedAndStands$Yard", "catcherActs", "(I)V"⟩, 11), (⟨"TouchedAndStands$Yard", "runningBits", "()I"⟩, 11), (⟨"TouchedAndStands$Yard", "playerBits", "()I"⟩, 11), (⟨"TouchedAndStands$Yard", "safeBits", "()I"⟩, 11), (⟨"TouchedAndStands$Yard", "leastBeside", "(II)I"⟩, 11), (⟨"TouchedAndStands$Yard", "guards", "(I)V"⟩, 11), (⟨"TouchedAndStands$Yard", "nearest", "(II)I"⟩, 11), (⟨"TouchedAndStands$Yard", "stepToward", "(II)V"⟩, 11)]
theorem lw_r1 : ∀ q ∈ lw_privs_1, lw_okq q := List.forall_mem_cons.mpr ⟨lw_p0, List.forall_mem_cons.mpr ⟨lw_p1, List.forall_mem_cons.mpr ⟨lw_p2, List.forall_mem_cons.mpr ⟨lw_p3, List.forall_mem_cons.mpr ⟨lw_p4, List.forall_mem_cons.mpr ⟨lw_p5, List.forall_mem_cons.mpr ⟨lw_p6, List.forall_mem_cons.mpr ⟨lw_p7, List.forall_mem_cons.mpr ⟨lw_p8, List.forall_mem_cons.mpr ⟨lw_p9, List.forall_mem_cons.mpr ⟨lw_p10, List.forall_mem_cons.mpr ⟨lw_p11, List.forall_mem_cons.mpr ⟨lw_p12, List.forall_mem_cons.mpr ⟨lw_p13, List.forall_mem_cons.mpr ⟨lw_p14, List.forall_mem_cons.mpr ⟨lw_p15, fun _ h => absurd h List.not_mem_nil⟩⟩⟩⟩⟩⟩⟩⟩⟩⟩⟩⟩⟩⟩⟩⟩
theorem lw_p16 : lw_okq (⟨"TouchedAndStands$Yard", "playerActs", "(I)V"⟩, 11) := ⟨⟨by decide +kernel, by decide +kernel⟩, List.mem_of_getElem? (i := 22) (by decide +kernel), List.mem_of_getElem? (i := 436) (by decide +kernel), List.mem_of_getElem? (i := 437) (by decide +kernel)⟩
theorem lw_p17 : lw_okq (⟨"TouchedAndStands$Yard", "tire", "(II)V"⟩, 11) := ⟨⟨by decide +kernel, by decide +kernel⟩, List.mem_of_getElem? (i := 22) (by decide +kernel), List.mem_of_getElem? (i := 441) (by decide +kernel), List.mem_of_getElem? (i := 442) (by decide +kernel)⟩
theorem lw_p18 : lw_okq (⟨"TouchedAndStands$Yard", "freesOrFetches", "(I)Z"⟩, 11) := ⟨⟨by decide +kernel, by decide +kernel⟩, List.mem_of_getElem? (i := 22) (by decide +kernel), List.mem_of_getElem? (i := 447) (by decide +kernel), List.mem_of_getElem? (i := 448) (by decide +kernel)⟩
theorem lw_p19 : lw_okq (⟨"TouchedAndStands$Yard", "freeableBits", "(I)I"⟩, 11) := ⟨⟨by decide +kernel, by decide +kernel⟩, List.mem_of_getElem? (i := 22) (by decide +kernel), List.mem_of_getElem? (i := 451) (by decide +kernel), List.mem_of_getElem? (i := 452) (by decide +kernel)⟩
theorem lw_p20 : lw_okq (⟨"TouchedAndStands$Yard", "setFree", "(II)V"⟩, 11) := ⟨⟨by decide +kernel, by decide +kernel⟩, List.mem_of_getElem? (i := 22) (by decide +kernel), List.mem_of_getElem? (i := 455) (by decide +kernel), List.mem_of_getElem? (i := 456) (by decide +kernel)⟩
theorem lw_p21 : lw_okq (⟨"TouchedAndStands$Yard", "letRun", "(I)V"⟩, 11) := ⟨⟨by decide +kernel, by decide +kernel⟩, List.mem_of_getElem? (i := 22) (by decide +kernel), List.mem_of_getElem? (i := 459) (by decide +kernel), List.mem_of_getElem? (i := 460) (by decide +kernel)⟩
theorem lw_p22 : lw_okq (⟨"TouchedAndStands$Yard", "stepAway", "(I)V"⟩, 11) := ⟨⟨by decide +kernel, by decide +kernel⟩, List.mem_of_getElem? (i := 22) (by decide +kernel), List.mem_of_getElem? (i := 467) (by decide +kernel), List.mem_of_getElem? (i := 468) (by decide +kernel)⟩
theorem lw_p23 : lw_okq (⟨"TouchedAndStands", "secondsTillOver", "()I"⟩, 9) := ⟨⟨by decide +kernel, by decide +kernel⟩, List.mem_of_getElem? (i := 14) (by decide +kernel), List.mem_of_getElem? (i := 491) (by decide +kernel), List.mem_of_getElem? (i := 492) (by decide +kernel)⟩
theorem lw_p24 : lw_okq (⟨"TouchedAndStands", "standingOver", "(I)I"⟩, 9) := ⟨⟨by decide +kernel, by decide +kernel⟩, List.mem_of_getElem? (i := 14) (by decide +kernel), List.mem_of_getElem? (i := 516) (by decide +kernel), List.mem_of_getElem? (i := 517) (by decide +kernel)⟩
theorem lw_p25 : lw_okq (⟨"TouchedAndStands", "othersStanding", "(I)I"⟩, 9) := ⟨⟨by decide +kernel, by decide +kernel⟩, List.mem_of_getElem? (i := 14) (by decide +kernel), List.mem_of_getElem? (i := 549) (by decide +kernel), List.mem_of_getElem? (i := 550) (by decide +kernel)⟩
theorem lw_p26 : lw_okq (⟨"TouchedAndStands", "addCatchers", "(I)Z"⟩, 9) := ⟨⟨by decide +kernel, by decide +kernel⟩, List.mem_of_getElem? (i := 14) (by decide +kernel), List.mem_of_getElem? (i := 569) (by decide +kernel), List.mem_of_getElem? (i := 570) (by decide +kernel)⟩
theorem lw_p27 : lw_okq (⟨"TouchedAndStands", "firstUntrue", "()I"⟩, 9) := ⟨⟨by decide +kernel, by decide +kernel⟩, List.mem_of_getElem? (i := 14) (by decide +kernel), List.mem_of_getElem? (i := 615) (by decide +kernel), List.mem_of_getElem? (i := 616) (by decide +kernel)⟩
theorem lw_p28 : lw_okq (⟨"TouchedAndStandsModel", "no", "(I)I"⟩, 30) := ⟨⟨by decide +kernel, by decide +kernel⟩, List.mem_of_getElem? (i := 666) (by decide +kernel), List.mem_of_getElem? (i := 770) (by decide +kernel), List.mem_of_getElem? (i := 771) (by decide +kernel)⟩
theorem lw_p29 : lw_okq (⟨"TouchedAndStandsModel", "statement", "()Z"⟩, 30) := ⟨⟨by decide +kernel, by decide +kernel⟩, List.mem_of_getElem? (i := 666) (by decide +kernel), List.mem_of_getElem? (i := 778) (by decide +kernel), List.mem_of_getElem? (i := 779) (by decide +kernel)⟩
theorem lw_p30 : lw_okq (⟨"TouchedAndStandsModel", "next", "()I"⟩, 30) := ⟨⟨by decide +kernel, by decide +kernel⟩, List.mem_of_getElem? (i := 666) (by decide +kernel), List.mem_of_getElem? (i := 782) (by decide +kernel), List.mem_of_getElem? (i := 783) (by decide +kernel)⟩
theorem lw_p31 : lw_okq (⟨"TouchedAndStandsModel", "readsChild", "(I)Z"⟩, 30) := ⟨⟨by decide +kernel, by decide +kernel⟩, List.mem_of_getElem? (i := 666) (by decide +kernel), List.mem_of_getElem? (i := 786) (by decide +kernel), List.mem_of_getElem? (i := 787) (by decide +kernel)⟩
def lw_privs_2 : List (MethodName × Nat) := [(⟨"TouchedAndStands$Yard", "playerActs", "(I)V"⟩, 11), (⟨"TouchedAndStands$Yard", "tire", "(II)V"⟩, 11), (⟨"TouchedAndStands$Yard", "freesOrFetches", "(I)Z"⟩, 11), (⟨"TouchedAndStands$Yard", "freeableBits", "(I)I"⟩, 11), (⟨"TouchedAndStands$Yard", "setFree", "(II)V"⟩, 11), (⟨"TouchedAndStands$Yard", "letRun", "(I)V"⟩, 11), (⟨"TouchedAndStands$Yard", "stepAway", "(I)V"⟩, 11), (⟨"TouchedAndStands", "secondsTillOver", "()I"⟩, 9), (⟨"TouchedAndStands", "standingOver", "(I)I"⟩, 9), (⟨"TouchedAndStands", "othersStanding", "(I)I"⟩, 9), (⟨"TouchedAndStands", "addCatchers", "(I)Z"⟩, 9), (⟨"TouchedAndStands", "firstUntrue", "()I"⟩, 9), (⟨"TouchedAndStandsModel", "no", "(I)I"⟩, 30), (⟨"TouchedAndStandsModel", "statement", "()Z"⟩, 30), (⟨"TouchedAndStandsModel", "next", "()I"⟩, 30), (⟨"TouchedAndStandsModel", "readsChild", "(I)Z"⟩, 30)]
theorem lw_r2 : ∀ q ∈ lw_privs_2, lw_okq q := List.forall_mem_cons.mpr ⟨lw_p16, List.forall_mem_cons.mpr ⟨lw_p17, List.forall_mem_cons.mpr ⟨lw_p18, List.forall_mem_cons.mpr ⟨lw_p19, List.forall_mem_cons.mpr ⟨lw_p20, List.forall_mem_cons.mpr ⟨lw_p21, List.forall_mem_cons.mpr ⟨lw_p22, List.forall_mem_cons.mpr ⟨lw_p23, List.forall_mem_cons.mpr ⟨lw_p24, List.forall_mem_cons.mpr ⟨lw_p25, List.forall_mem_cons.mpr ⟨lw_p26, List.forall_mem_cons.mpr ⟨lw_p27, List.forall_mem_cons.mpr ⟨lw_p28, List.forall_mem_cons.mpr ⟨lw_p29, List.forall_mem_cons.mpr ⟨lw_p30, List.forall_mem_cons.mpr ⟨lw_p31, fun _ h => absurd h List.not_mem_nil⟩⟩⟩⟩⟩⟩⟩⟩⟩⟩⟩⟩⟩⟩⟩⟩
theorem lw_p32 : lw_okq (⟨"TouchedAndStandsModel", "readsDigits", "(II)Z"⟩, 30) := ⟨⟨by decide +kernel, by decide +kernel⟩, List.mem_of_getElem? (i := 666) (by decide +kernel), List.mem_of_getElem? (i := 793) (by decide +kernel), List.mem_of_getElem? (i := 794) (by decide +kernel)⟩
theorem lw_p33 : lw_okq (⟨"TouchedAndStandsModel", "passesAll", "(IZ)V"⟩, 30) := ⟨⟨by decide +kernel, by decide +kernel⟩, List.mem_of_getElem? (i := 666) (by decide +kernel), List.mem_of_getElem? (i := 800) (by decide +kernel), List.mem_of_getElem? (i := 801) (by decide +kernel)⟩
theorem lw_p34 : lw_okq (⟨"TouchedAndStandsModel", "passes", "([I)V"⟩, 30) := ⟨⟨by decide +kernel, by decide +kernel⟩, List.mem_of_getElem? (i := 666) (by decide +kernel), List.mem_of_getElem? (i := 804) (by decide +kernel), List.mem_of_getElem? (i := 805) (by decide +kernel)⟩
theorem lw_p35 : lw_okq (⟨"TouchedAndStandsModel", "passOne", "(I)I"⟩, 30) := ⟨⟨by decide +kernel, by decide +kernel⟩, List.mem_of_getElem? (i := 666) (by decide +kernel), List.mem_of_getElem? (i := 808) (by decide +kernel), List.mem_of_getElem? (i := 809) (by decide +kernel)⟩
theorem lw_p36 : lw_okq (⟨"TouchedAndStandsModel", "comes", "(I)Z"⟩, 30) := ⟨⟨by decide +kernel, by decide +kernel⟩, List.mem_of_getElem? (i := 666) (by decide +kernel), List.mem_of_getElem? (i := 812) (by decide +kernel), List.mem_of_getElem? (i := 813) (by decide +kernel)⟩
theorem lw_p37 : lw_okq (⟨"TouchedAndStandsModel", "comesChild", "(III)V"⟩, 30) := ⟨⟨by decide +kernel, by decide +kernel⟩, List.mem_of_getElem? (i := 666) (by decide +kernel), List.mem_of_getElem? (i := 819) (by decide +kernel), List.mem_of_getElem? (i := 820) (by decide +kernel)⟩
theorem lw_p38 : lw_okq (⟨"TouchedAndStandsModel", "isChild", "(I)Z"⟩, 30) := ⟨⟨by decide +kernel, by decide +kernel⟩, List.mem_of_getElem? (i := 666) (by decide +kernel), List.mem_of_getElem? (i := 823) (by decide +kernel), List.mem_of_getElem? (i := 824) (by decide +kernel)⟩
theorem lw_p39 : lw_okq (⟨"TouchedAndStandsModel", "isCatcher", "(I)Z"⟩, 30) := ⟨⟨by decide +kernel, by decide +kernel⟩, List.mem_of_getElem? (i := 666) (by decide +kernel), List.mem_of_getElem? (i := 827) (by decide +kernel), List.mem_of_getElem? (i := 828) (by decide +kernel)⟩
theorem lw_p40 : lw_okq (⟨"TouchedAndStandsModel", "goes", "()V"⟩, 30) := ⟨⟨by decide +kernel, by decide +kernel⟩, List.mem_of_getElem? (i := 666) (by decide +kernel), List.mem_of_getElem? (i := 869) (by decide +kernel), List.mem_of_getElem? (i := 870) (by decide +kernel)⟩
theorem lw_p41 : lw_okq (⟨"TouchedAndStandsModel", "goesOn", "(I)V"⟩, 30) := ⟨⟨by decide +kernel, by decide +kernel⟩, List.mem_of_getElem? (i := 666) (by decide +kernel), List.mem_of_getElem? (i := 873) (by decide +kernel), List.mem_of_getElem? (i := 874) (by decide +kernel)⟩
theorem lw_p42 : lw_okq (⟨"TouchedAndStandsModel", "catches", "(I)V"⟩, 30) := ⟨⟨by decide +kernel, by decide +kernel⟩, List.mem_of_getElem? (i := 666) (by decide +kernel), List.mem_of_getElem? (i := 877) (by decide +kernel), List.mem_of_getElem? (i := 878) (by decide +kernel)⟩
theorem lw_p43 : lw_okq (⟨"TouchedAndStandsModel", "touches", "(I)Z"⟩, 30) := ⟨⟨by decide +kernel, by decide +kernel⟩, List.mem_of_getElem? (i := 666) (by decide +kernel), List.mem_of_getElem? (i := 881) (by decide +kernel), List.mem_of_getElem? (i := 882) (by decide +kernel)⟩
theorem lw_p44 : lw_okq (⟨"TouchedAndStandsModel", "isRunner", "(I)Z"⟩, 30) := ⟨⟨by decide +kernel, by decide +kernel⟩, List.mem_of_getElem? (i := 666) (by decide +kernel), List.mem_of_getElem? (i := 885) (by decide +kernel), List.mem_of_getElem? (i := 886) (by decide +kernel)⟩
theorem lw_p45 : lw_okq (⟨"TouchedAndStandsModel", "nearest", "(II)I"⟩, 30) := ⟨⟨by decide +kernel, by decide +kernel⟩, List.mem_of_getElem? (i := 666) (by decide +kernel), List.mem_of_getElem? (i := 892) (by decide +kernel), List.mem_of_getElem? (i := 893) (by decide +kernel)⟩
theorem lw_p46 : lw_okq (⟨"TouchedAndStandsModel", "hunts", "(I)I"⟩, 30) := ⟨⟨by decide +kernel, by decide +kernel⟩, List.mem_of_getElem? (i := 666) (by decide +kernel), List.mem_of_getElem? (i := 896) (by decide +kernel), List.mem_of_getElem? (i := 897) (by decide +kernel)⟩
theorem lw_p47 : lw_okq (⟨"TouchedAndStandsModel", "runsTo", "(I)I"⟩, 30) := ⟨⟨by decide +kernel, by decide +kernel⟩, List.mem_of_getElem? (i := 666) (by decide +kernel), List.mem_of_getElem? (i := 909) (by decide +kernel), List.mem_of_getElem? (i := 910) (by decide +kernel)⟩
def lw_privs_3 : List (MethodName × Nat) := [(⟨"TouchedAndStandsModel", "readsDigits", "(II)Z"⟩, 30), (⟨"TouchedAndStandsModel", "passesAll", "(IZ)V"⟩, 30), (⟨"TouchedAndStandsModel", "passes", "([I)V"⟩, 30), (⟨"TouchedAndStandsModel", "passOne", "(I)I"⟩, 30), (⟨"TouchedAndStandsModel", "comes", "(I)Z"⟩, 30), (⟨"TouchedAndStandsModel", "comesChild", "(III)V"⟩, 30), (⟨"TouchedAndStandsModel", "isChild", "(I)Z"⟩, 30), (⟨"TouchedAndStandsModel", "isCatcher", "(I)Z"⟩, 30), (⟨"TouchedAndStandsModel", "goes", "()V"⟩, 30), (⟨"TouchedAndStandsModel", "goesOn", "(I)V"⟩, 30), (⟨"TouchedAndStandsModel", "catches", "(I)V"⟩, 30), (⟨"TouchedAndStandsModel", "touches", "(I)Z"⟩, 30), (⟨"TouchedAndStandsModel", "isRunner", "(I)Z"⟩, 30), (⟨"TouchedAndStandsModel", "nearest", "(II)I"⟩, 30), (⟨"TouchedAndStandsModel", "hunts", "(I)I"⟩, 30), (⟨"TouchedAndStandsModel", "runsTo", "(I)I"⟩, 30)]
theorem lw_r3 : ∀ q ∈ lw_privs_3, lw_okq q := List.forall_mem_cons.mpr ⟨lw_p32, List.forall_mem_cons.mpr ⟨lw_p33, List.forall_mem_cons.mpr ⟨lw_p34, List.forall_mem_cons.mpr ⟨lw_p35, List.forall_mem_cons.mpr ⟨lw_p36, List.forall_mem_cons.mpr ⟨lw_p37, List.forall_mem_cons.mpr ⟨lw_p38, List.forall_mem_cons.mpr ⟨lw_p39, List.forall_mem_cons.mpr ⟨lw_p40, List.forall_mem_cons.mpr ⟨lw_p41, List.forall_mem_cons.mpr ⟨lw_p42, List.forall_mem_cons.mpr ⟨lw_p43, List.forall_mem_cons.mpr ⟨lw_p44, List.forall_mem_cons.mpr ⟨lw_p45, List.forall_mem_cons.mpr ⟨lw_p46, List.forall_mem_cons.mpr ⟨lw_p47, fun _ h => absurd h List.not_mem_nil⟩⟩⟩⟩⟩⟩⟩⟩⟩⟩⟩⟩⟩⟩⟩⟩
theorem lw_p48 : lw_okq (⟨"TouchedAndStandsModel", "farFromCatchers", "(I)I"⟩, 30) := ⟨⟨by decide +kernel, by decide +kernel⟩, List.mem_of_getElem? (i := 666) (by decide +kernel), List.mem_of_getElem? (i := 913) (by decide +kernel), List.mem_of_getElem? (i := 914) (by decide +kernel)⟩
theorem lw_p49 : lw_okq (⟨"TouchedAndStandsModel", "away", "(I)I"⟩, 30) := ⟨⟨by decide +kernel, by decide +kernel⟩, List.mem_of_getElem? (i := 666) (by decide +kernel), List.mem_of_getElem? (i := 917) (by decide +kernel), List.mem_of_getElem? (i := 918) (by decide +kernel)⟩
theorem lw_p50 : lw_okq (⟨"TouchedAndStandsModel", "nearMay", "(I)I"⟩, 30) := ⟨⟨by decide +kernel, by decide +kernel⟩, List.mem_of_getElem? (i := 666) (by decide +kernel), List.mem_of_getElem? (i := 921) (by decide +kernel), List.mem_of_getElem? (i := 922) (by decide +kernel)⟩
theorem lw_p51 : lw_okq (⟨"TouchedAndStandsModel", "doesMay", "(II)Z"⟩, 30) := ⟨⟨by decide +kernel, by decide +kernel⟩, List.mem_of_getElem? (i := 666) (by decide +kernel), List.mem_of_getElem? (i := 925) (by decide +kernel), List.mem_of_getElem? (i := 926) (by decide +kernel)⟩
theorem lw_p52 : lw_okq (⟨"TouchedAndStandsModel", "freesAll", "(II)V"⟩, 30) := ⟨⟨by decide +kernel, by decide +kernel⟩, List.mem_of_getElem? (i := 666) (by decide +kernel), List.mem_of_getElem? (i := 929) (by decide +kernel), List.mem_of_getElem? (i := 930) (by decide +kernel)⟩
theorem lw_p53 : lw_okq (⟨"TouchedAndStandsModel", "free", "(II)V"⟩, 30) := ⟨⟨by decide +kernel, by decide +kernel⟩, List.mem_of_getElem? (i := 666) (by decide +kernel), List.mem_of_getElem? (i := 933) (by decide +kernel), List.mem_of_getElem? (i := 934) (by decide +kernel)⟩
theorem lw_p54 : lw_okq (⟨"TouchedAndStandsModel", "nearestMay", "(I)I"⟩, 30) := ⟨⟨by decide +kernel, by decide +kernel⟩, List.mem_of_getElem? (i := 666) (by decide +kernel), List.mem_of_getElem? (i := 937) (by decide +kernel), List.mem_of_getElem? (i := 938) (by decide +kernel)⟩
theorem lw_p55 : lw_okq (⟨"TouchedAndStandsModel", "goesInMind", "(II)V"⟩, 30) := ⟨⟨by decide +kernel, by decide +kernel⟩, List.mem_of_getElem? (i := 666) (by decide +kernel), List.mem_of_getElem? (i := 945) (by decide +kernel), List.mem_of_getElem? (i := 946) (by decide +kernel)⟩
theorem lw_p56 : lw_okq (⟨"TouchedAndStandsModel", "standBits", "()I"⟩, 30) := ⟨⟨by decide +kernel, by decide +kernel⟩, List.mem_of_getElem? (i := 666) (by decide +kernel), List.mem_of_getElem? (i := 949) (by decide +kernel), List.mem_of_getElem? (i := 950) (by decide +kernel)⟩
theorem lw_p57 : lw_okq (⟨"TouchedAndStandsModel", "runnersMany", "()I"⟩, 30) := ⟨⟨by decide +kernel, by decide +kernel⟩, List.mem_of_getElem? (i := 666) (by decide +kernel), List.mem_of_getElem? (i := 964) (by decide +kernel), List.mem_of_getElem? (i := 965) (by decide +kernel)⟩
theorem lw_p58 : lw_okq (⟨"TouchedAndStandsModel", "overIn", "()I"⟩, 30) := ⟨⟨by decide +kernel, by decide +kernel⟩, List.mem_of_getElem? (i := 666) (by decide +kernel), List.mem_of_getElem? (i := 968) (by decide +kernel), List.mem_of_getElem? (i := 969) (by decide +kernel)⟩
theorem lw_p59 : lw_okq (⟨"TouchedAndStandsModel", "lowest", "(I)J"⟩, 30) := ⟨⟨by decide +kernel, by decide +kernel⟩, List.mem_of_getElem? (i := 666) (by decide +kernel), List.mem_of_getElem? (i := 976) (by decide +kernel), List.mem_of_getElem? (i := 977) (by decide +kernel)⟩
theorem lw_p60 : lw_okq (⟨"TouchedAndStandsModel", "lower", "(I)I"⟩, 30) := ⟨⟨by decide +kernel, by decide +kernel⟩, List.mem_of_getElem? (i := 666) (by decide +kernel), List.mem_of_getElem? (i := 1000) (by decide +kernel), List.mem_of_getElem? (i := 1001) (by decide +kernel)⟩
theorem lw_p61 : lw_okq (⟨"TouchedAndStandsModel", "othersStand", "(I)I"⟩, 30) := ⟨⟨by decide +kernel, by decide +kernel⟩, List.mem_of_getElem? (i := 666) (by decide +kernel), List.mem_of_getElem? (i := 1005) (by decide +kernel), List.mem_of_getElem? (i := 1006) (by decide +kernel)⟩
theorem lw_p62 : lw_okq (⟨"TouchedAndStandsModel", "standAfterChange", "(III)I"⟩, 30) := ⟨⟨by decide +kernel, by decide +kernel⟩, List.mem_of_getElem? (i := 666) (by decide +kernel), List.mem_of_getElem? (i := 1021) (by decide +kernel), List.mem_of_getElem? (i := 1022) (by decide +kernel)⟩
theorem lw_p63 : lw_okq (⟨"TouchedAndStandsModel", "changes", "(II)V"⟩, 30) := ⟨⟨by decide +kernel, by decide +kernel⟩, List.mem_of_getElem? (i := 666) (by decide +kernel), List.mem_of_getElem? (i := 1025) (by decide +kernel), List.mem_of_getElem? (i := 1026) (by decide +kernel)⟩
def lw_privs_4 : List (MethodName × Nat) := [(⟨"TouchedAndStandsModel", "farFromCatchers", "(I)I"⟩, 30), (⟨"TouchedAndStandsModel", "away", "(I)I"⟩, 30), (⟨"TouchedAndStandsModel", "nearMay", "(I)I"⟩, 30), (⟨"TouchedAndStandsModel", "doesMay", "(II)Z"⟩, 30), (⟨"TouchedAndStandsModel", "freesAll", "(II)V"⟩, 30), (⟨"TouchedAndStandsModel", "free", "(II)V"⟩, 30), (⟨"TouchedAndStandsModel", "nearestMay", "(I)I"⟩, 30), (⟨"TouchedAndStandsModel", "goesInMind", "(II)V"⟩, 30), (⟨"TouchedAndStandsModel", "standBits", "()I"⟩, 30), (⟨"TouchedAndStandsModel", "runnersMany", "()I"⟩, 30), (⟨"TouchedAndStandsModel", "overIn", "()I"⟩, 30), (⟨"TouchedAndStandsModel", "lowest", "(I)J"⟩, 30), (⟨"TouchedAndStandsModel", "lower", "(I)I"⟩, 30), (⟨"TouchedAndStandsModel", "othersStand", "(I)I"⟩, 30), (⟨"TouchedAndStandsModel", "standAfterChange", "(III)I"⟩, 30), (⟨"TouchedAndStandsModel", "changes", "(II)V"⟩, 30)]
theorem lw_r4 : ∀ q ∈ lw_privs_4, lw_okq q := List.forall_mem_cons.mpr ⟨lw_p48, List.forall_mem_cons.mpr ⟨lw_p49, List.forall_mem_cons.mpr ⟨lw_p50, List.forall_mem_cons.mpr ⟨lw_p51, List.forall_mem_cons.mpr ⟨lw_p52, List.forall_mem_cons.mpr ⟨lw_p53, List.forall_mem_cons.mpr ⟨lw_p54, List.forall_mem_cons.mpr ⟨lw_p55, List.forall_mem_cons.mpr ⟨lw_p56, List.forall_mem_cons.mpr ⟨lw_p57, List.forall_mem_cons.mpr ⟨lw_p58, List.forall_mem_cons.mpr ⟨lw_p59, List.forall_mem_cons.mpr ⟨lw_p60, List.forall_mem_cons.mpr ⟨lw_p61, List.forall_mem_cons.mpr ⟨lw_p62, List.forall_mem_cons.mpr ⟨lw_p63, fun _ h => absurd h List.not_mem_nil⟩⟩⟩⟩⟩⟩⟩⟩⟩⟩⟩⟩⟩⟩⟩⟩
theorem lw_p64 : lw_okq (⟨"TouchedAndStandsModel", "isMayed", "(I)Z"⟩, 30) := ⟨⟨by decide +kernel, by decide +kernel⟩, List.mem_of_getElem? (i := 666) (by decide +kernel), List.mem_of_getElem? (i := 1045) (by decide +kernel), List.mem_of_getElem? (i := 1046) (by decide +kernel)⟩
theorem lw_p65 : lw_okq (⟨"TouchedAndStandsModel", "isWatched", "(II)Z"⟩, 30) := ⟨⟨by decide +kernel, by decide +kernel⟩, List.mem_of_getElem? (i := 666) (by decide +kernel), List.mem_of_getElem? (i := 1049) (by decide +kernel), List.mem_of_getElem? (i := 1050) (by decide +kernel)⟩
theorem lw_p66 : lw_okq (⟨"TouchedAndStandsModel", "wrongAt", "()I"⟩, 30) := ⟨⟨by decide +kernel, by decide +kernel⟩, List.mem_of_getElem? (i := 666) (by decide +kernel), List.mem_of_getElem? (i := 1061) (by decide +kernel), List.mem_of_getElem? (i := 1062) (by decide +kernel)⟩
def lw_privs_5 : List (MethodName × Nat) := [(⟨"TouchedAndStandsModel", "isMayed", "(I)Z"⟩, 30), (⟨"TouchedAndStandsModel", "isWatched", "(II)Z"⟩, 30), (⟨"TouchedAndStandsModel", "wrongAt", "()I"⟩, 30)]
theorem lw_r5 : ∀ q ∈ lw_privs_5, lw_okq q := List.forall_mem_cons.mpr ⟨lw_p64, List.forall_mem_cons.mpr ⟨lw_p65, List.forall_mem_cons.mpr ⟨lw_p66, fun _ h => absurd h List.not_mem_nil⟩⟩⟩
def lw_privs : List (MethodName × Nat) := lw_privs_1 ++ (lw_privs_2 ++ (lw_privs_3 ++ (lw_privs_4 ++ (lw_privs_5))))
def lw_tbl : List Cond := k2_sels lw_privs ++ tables_1
theorem lw_privs_ok : ∀ q ∈ lw_privs, lw_okq q := by
  show ∀ q ∈ lw_privs_1 ++ (lw_privs_2 ++ (lw_privs_3 ++ (lw_privs_4 ++ (lw_privs_5)))), lw_okq q
  exact List.forall_mem_append.mpr ⟨lw_r1, List.forall_mem_append.mpr ⟨lw_r2, List.forall_mem_append.mpr ⟨lw_r3, List.forall_mem_append.mpr ⟨lw_r4, lw_r5⟩⟩⟩⟩
end
section
theorem goodIn_r {big : List Cond} (ws : List Cond) (ps : List Nat) (hp : ws = ps.filterMap (fun i => big[i]?)) (h : ws.all goodWord = true) : GoodIn big ws := by
  intro w hw
  have h1 := List.all_eq_true.mp h w hw
  rw [hp] at hw
  obtain ⟨i, -, hi⟩ := List.mem_filterMap.mp hw
  have hm : w ∈ big := by first | exact List.mem_of_getElem? hi | exact List.getElem?_mem hi
  exact ⟨hm, good_of_word h1⟩
theorem goodIn_app {big a b : List Cond} (ha : GoodIn big a) (hb : GoodIn big b) : GoodIn big (a ++ b) := fun w h => (List.mem_append.mp h).elim (ha w) (hb w)
theorem goodIn_ca {big a b : List Cond} {c : Cond} (ha : GoodIn big (c :: a)) (hb : GoodIn big b) : GoodIn big (c :: (a ++ b)) := fun w h => (List.mem_cons.mp h).elim (fun e => ha w (List.mem_cons.mpr (Or.inl e))) (fun h => (List.mem_append.mp h).elim (fun h => ha w (List.mem_cons.mpr (Or.inr h))) (hb w))
theorem goodIn_sub {big ws : List Cond} (hm : ∀ w ∈ ws, w ∈ big) (h : ws.all goodWord = true) : GoodIn big ws := fun w hw => ⟨hm w hw, good_of_word (List.all_eq_true.mp h w hw)⟩
def RX0 : String := "TouchedAndStands$Letters"
def TX0 : u_T := fun k => match k with
  | 0 => ("TouchedAndStands$Letters", "signs", "[I", true)
  | 1 => ("TouchedAndStands$Letters", "heard", "I", false)
  | _ => ("TouchedAndStands$Letters", "statements", "I", false)
def tyX0 : Nat → FieldType := fun k => match k with
  | 0 => .array .int
  | 1 => .int
  | _ => .int
abbrev wsX00 : List Cond := u_ws RX0 TX0 3
theorem nmX0 : ∀ a, a < 3 → ∀ b, b < 3 → a ≠ b → (TX0 a).2.1 ≠ (TX0 b).2.1 := by decide +kernel
theorem tyX0_ok : ∀ k, k < 3 → parseFieldDescriptor (TX0 k).2.2.1 = some (tyX0 k) := by decide +kernel
abbrev cX0_init : ByteArray := prog_2_method_1_code
def yX0_init : MethodName := ⟨RX0, "<init>", "()V"⟩
abbrev cX0_hasRoom : ByteArray := prog_2_method_2_code
def yX0_hasRoom : MethodName := ⟨RX0, "hasRoom", "()Z"⟩
abbrev cX0_size : ByteArray := prog_2_method_3_code
def yX0_size : MethodName := ⟨RX0, "size", "()I"⟩
abbrev cX0_statementCount : ByteArray := prog_2_method_4_code
def yX0_statementCount : MethodName := ⟨RX0, "statementCount", "()I"⟩
abbrev cX0_hear : ByteArray := prog_2_method_5_code
def yX0_hear : MethodName := ⟨RX0, "hear", "(I)I"⟩
abbrev cX0_forget : ByteArray := prog_2_method_6_code
def yX0_forget : MethodName := ⟨RX0, "forget", "()V"⟩
abbrev cX0_firstMisfit : ByteArray := prog_2_method_7_code
def yX0_firstMisfit : MethodName := ⟨RX0, "firstMisfit", "()I"⟩
abbrev cX0_tellTo : ByteArray := prog_2_method_8_code
def yX0_tellTo : MethodName := ⟨RX0, "tellTo", "(LTouchedAndStands$Yard;)I"⟩
abbrev cX0_tellStatement : ByteArray := prog_2_method_9_code
def yX0_tellStatement : MethodName := ⟨RX0, "tellStatement", "(LTouchedAndStands$Yard;I)Z"⟩
abbrev cX0_shapeAt : ByteArray := prog_2_method_10_code
def yX0_shapeAt : MethodName := ⟨RX0, "shapeAt", "(I)Ljava/lang/String;"⟩
abbrev cX0_fitsShape : ByteArray := prog_2_method_11_code
def yX0_fitsShape : MethodName := ⟨RX0, "fitsShape", "(IC)Z"⟩
abbrev cX0_signAt : ByteArray := prog_2_method_12_code
def yX0_signAt : MethodName := ⟨RX0, "signAt", "(I)I"⟩
abbrev cX0_kindAt : ByteArray := prog_2_method_13_code
def yX0_kindAt : MethodName := ⟨RX0, "kindAt", "(I)I"⟩
abbrev cX0_digitAt : ByteArray := prog_2_method_14_code
def yX0_digitAt : MethodName := ⟨RX0, "digitAt", "(I)I"⟩
abbrev cX0_cellAt : ByteArray := prog_2_method_15_code
def yX0_cellAt : MethodName := ⟨RX0, "cellAt", "(I)I"⟩
def RX1 : String := "TouchedAndStands$Yard"
def TX1 : u_T := fun k => match k with
  | 0 => ("TouchedAndStands$Yard", "kinds", "[I", true)
  | 1 => ("TouchedAndStands$Yard", "cells", "[I", true)
  | 2 => ("TouchedAndStands$Yard", "friends", "[I", true)
  | 3 => ("TouchedAndStands$Yard", "tired", "[I", true)
  | 4 => ("TouchedAndStands$Yard", "freed", "[I", true)
  | 5 => ("TouchedAndStands$Yard", "children", "I", false)
  | 6 => ("TouchedAndStands$Yard", "standing", "I", false)
  | 7 => ("TouchedAndStands$Yard", "law", "I", false)
  | 8 => ("TouchedAndStands$Yard", "second", "I", false)
  | 9 => ("TouchedAndStands$Yard", "freeings", "I", false)
  | _ => ("TouchedAndStands$Yard", "aside", "I", false)
def tyX1 : Nat → FieldType := fun k => match k with
  | 0 => .array .int
  | 1 => .array .int
  | 2 => .array .int
  | 3 => .array .int
  | 4 => .array .int
  | 5 => .int
  | 6 => .int
  | 7 => .int
  | 8 => .int
  | 9 => .int
  | _ => .int
abbrev wsX10 : List Cond := u_ws RX1 TX1 11
theorem nmX1 : ∀ a, a < 11 → ∀ b, b < 11 → a ≠ b → (TX1 a).2.1 ≠ (TX1 b).2.1 := by decide +kernel
theorem tyX1_ok : ∀ k, k < 11 → parseFieldDescriptor (TX1 k).2.2.1 = some (tyX1 k) := by decide +kernel
abbrev cX1_init : ByteArray := prog_3_method_1_code
def yX1_init : MethodName := ⟨RX1, "<init>", "()V"⟩
abbrev cX1_copyFrom : ByteArray := prog_3_method_2_code
def yX1_copyFrom : MethodName := ⟨RX1, "copyFrom", "(LTouchedAndStands$Yard;)V"⟩
abbrev cX1_isCell : ByteArray := prog_3_method_3_code
def yX1_isCell : MethodName := ⟨RX1, "isCell", "(I)Z"⟩
abbrev cX1_apart : ByteArray := prog_3_method_4_code
def yX1_apart : MethodName := ⟨RX1, "apart", "(II)I"⟩
abbrev cX1_has : ByteArray := prog_3_method_5_code
def yX1_has : MethodName := ⟨RX1, "has", "(I)Z"⟩
abbrev cX1_kindOf : ByteArray := prog_3_method_6_code
def yX1_kindOf : MethodName := ⟨RX1, "kindOf", "(I)I"⟩
abbrev cX1_cellOf : ByteArray := prog_3_method_7_code
def yX1_cellOf : MethodName := ⟨RX1, "cellOf", "(I)I"⟩
abbrev cX1_friendOf : ByteArray := prog_3_method_8_code
def yX1_friendOf : MethodName := ⟨RX1, "friendOf", "(I)I"⟩
abbrev cX1_tiredOf : ByteArray := prog_3_method_9_code
def yX1_tiredOf : MethodName := ⟨RX1, "tiredOf", "(I)I"⟩
abbrev cX1_isStanding : ByteArray := prog_3_method_10_code
def yX1_isStanding : MethodName := ⟨RX1, "isStanding", "(I)Z"⟩
abbrev cX1_isCatcher : ByteArray := prog_3_method_11_code
def yX1_isCatcher : MethodName := ⟨RX1, "isCatcher", "(I)Z"⟩
abbrev cX1_freedBy : ByteArray := prog_3_method_12_code
def yX1_freedBy : MethodName := ⟨RX1, "freedBy", "(II)I"⟩
abbrev cX1_childrenCount : ByteArray := prog_3_method_13_code
def yX1_childrenCount : MethodName := ⟨RX1, "childrenCount", "()I"⟩
abbrev cX1_standingBits : ByteArray := prog_3_method_14_code
def yX1_standingBits : MethodName := ⟨RX1, "standingBits", "()I"⟩
abbrev cX1_standingCount : ByteArray := prog_3_method_15_code
def yX1_standingCount : MethodName := ⟨RX1, "standingCount", "()I"⟩
abbrev cX1_lawNow : ByteArray := prog_3_method_16_code
def yX1_lawNow : MethodName := ⟨RX1, "lawNow", "()I"⟩
abbrev cX1_secondNow : ByteArray := prog_3_method_17_code
def yX1_secondNow : MethodName := ⟨RX1, "secondNow", "()I"⟩
abbrev cX1_freeingsSinceCopied : ByteArray := prog_3_method_18_code
def yX1_freeingsSinceCopied : MethodName := ⟨RX1, "freeingsSinceCopied", "()I"⟩
abbrev cX1_catcherCount : ByteArray := prog_3_method_19_code
def yX1_catcherCount : MethodName := ⟨RX1, "catcherCount", "()I"⟩
abbrev cX1_tiredSum : ByteArray := prog_3_method_20_code
def yX1_tiredSum : MethodName := ⟨RX1, "tiredSum", "()I"⟩
abbrev cX1_freedSum : ByteArray := prog_3_method_21_code
def yX1_freedSum : MethodName := ⟨RX1, "freedSum", "()I"⟩
abbrev cX1_hasPlayers : ByteArray := prog_3_method_22_code
def yX1_hasPlayers : MethodName := ⟨RX1, "hasPlayers", "()Z"⟩
abbrev cX1_isOver : ByteArray := prog_3_method_23_code
def yX1_isOver : MethodName := ⟨RX1, "isOver", "()Z"⟩
abbrev cX1_add : ByteArray := prog_3_method_24_code
def yX1_add : MethodName := ⟨RX1, "add", "(III)Z"⟩
abbrev cX1_turnOver : ByteArray := prog_3_method_25_code
def yX1_turnOver : MethodName := ⟨RX1, "turnOver", "(I)Z"⟩
abbrev cX1_setLaw : ByteArray := prog_3_method_26_code
def yX1_setLaw : MethodName := ⟨RX1, "setLaw", "(I)Z"⟩
abbrev cX1_put : ByteArray := prog_3_method_27_code
def yX1_put : MethodName := ⟨RX1, "put", "(II)Z"⟩
abbrev cX1_setKind : ByteArray := prog_3_method_28_code
def yX1_setKind : MethodName := ⟨RX1, "setKind", "(II)V"⟩
abbrev cX1_setAside : ByteArray := prog_3_method_29_code
def yX1_setAside : MethodName := ⟨RX1, "setAside", "(I)V"⟩
abbrev cX1_exchange : ByteArray := prog_3_method_30_code
def yX1_exchange : MethodName := ⟨RX1, "exchange", "(II)V"⟩
abbrev cX1_scatter : ByteArray := prog_3_method_31_code
def yX1_scatter : MethodName := ⟨RX1, "scatter", "(I)I"⟩
abbrev cX1_couldFree : ByteArray := prog_3_method_32_code
def yX1_couldFree : MethodName := ⟨RX1, "couldFree", "(I)I"⟩
abbrev cX1_hasFreerFor : ByteArray := prog_3_method_33_code
def yX1_hasFreerFor : MethodName := ⟨RX1, "hasFreerFor", "(I)Z"⟩
abbrev cX1_catcherApart : ByteArray := prog_3_method_34_code
def yX1_catcherApart : MethodName := ⟨RX1, "catcherApart", "(I)I"⟩
abbrev cX1_passMany : ByteArray := prog_3_method_35_code
def yX1_passMany : MethodName := ⟨RX1, "passMany", "(I)V"⟩
abbrev cX1_pass : ByteArray := prog_3_method_36_code
def yX1_pass : MethodName := ⟨RX1, "pass", "()V"⟩
abbrev cX1_playerActs : ByteArray := prog_3_method_37_code
def yX1_playerActs : MethodName := ⟨RX1, "playerActs", "(I)V"⟩
abbrev cX1_tire : ByteArray := prog_3_method_38_code
def yX1_tire : MethodName := ⟨RX1, "tire", "(II)V"⟩
abbrev cX1_freesOrFetches : ByteArray := prog_3_method_39_code
def yX1_freesOrFetches : MethodName := ⟨RX1, "freesOrFetches", "(I)Z"⟩
abbrev cX1_setFree : ByteArray := prog_3_method_40_code
def yX1_setFree : MethodName := ⟨RX1, "setFree", "(II)V"⟩
abbrev cX1_catcherActs : ByteArray := prog_3_method_41_code
def yX1_catcherActs : MethodName := ⟨RX1, "catcherActs", "(I)V"⟩
abbrev cX1_guards : ByteArray := prog_3_method_42_code
def yX1_guards : MethodName := ⟨RX1, "guards", "(I)V"⟩
abbrev cX1_letRun : ByteArray := prog_3_method_43_code
def yX1_letRun : MethodName := ⟨RX1, "letRun", "(I)V"⟩
abbrev cX1_leastBeside : ByteArray := prog_3_method_44_code
def yX1_leastBeside : MethodName := ⟨RX1, "leastBeside", "(II)I"⟩
abbrev cX1_nearest : ByteArray := prog_3_method_45_code
def yX1_nearest : MethodName := ⟨RX1, "nearest", "(II)I"⟩
abbrev cX1_playerBits : ByteArray := prog_3_method_46_code
def yX1_playerBits : MethodName := ⟨RX1, "playerBits", "()I"⟩
abbrev cX1_runningBits : ByteArray := prog_3_method_47_code
def yX1_runningBits : MethodName := ⟨RX1, "runningBits", "()I"⟩
abbrev cX1_safeBits : ByteArray := prog_3_method_48_code
def yX1_safeBits : MethodName := ⟨RX1, "safeBits", "()I"⟩
abbrev cX1_freeableBits : ByteArray := prog_3_method_49_code
def yX1_freeableBits : MethodName := ⟨RX1, "freeableBits", "(I)I"⟩
abbrev cX1_isEdge : ByteArray := prog_3_method_50_code
def yX1_isEdge : MethodName := ⟨RX1, "isEdge", "(I)Z"⟩
abbrev cX1_stepAway : ByteArray := prog_3_method_51_code
def yX1_stepAway : MethodName := ⟨RX1, "stepAway", "(I)V"⟩
abbrev cX1_stepToward : ByteArray := prog_3_method_52_code
def yX1_stepToward : MethodName := ⟨RX1, "stepToward", "(II)V"⟩
abbrev cX1_cellBehind : ByteArray := prog_3_method_53_code
def yX1_cellBehind : MethodName := ⟨RX1, "cellBehind", "(II)I"⟩
def RX2 : String := "TouchedAndStands"
def TX2 : u_T := fun k => match k with
  | 0 => ("TouchedAndStands", "now", "LTouchedAndStands$Yard;", true)
  | 1 => ("TouchedAndStands", "mind", "LTouchedAndStands$Yard;", true)
  | 2 => ("TouchedAndStands", "branch", "LTouchedAndStands$Yard;", true)
  | 3 => ("TouchedAndStands", "kept", "LTouchedAndStands$Yard;", true)
  | 4 => ("TouchedAndStands", "isKept", "Z", false)
  | 5 => ("TouchedAndStands", "told", "LTouchedAndStands$Letters;", true)
  | 6 => ("TouchedAndStands", "numbers", "[I", true)
  | 7 => ("TouchedAndStands", "numbersTold", "I", false)
  | _ => ("TouchedAndStands", "refused", "[I", true)
def tyX2 : Nat → FieldType := fun k => match k with
  | 0 => .object "TouchedAndStands$Yard"
  | 1 => .object "TouchedAndStands$Yard"
  | 2 => .object "TouchedAndStands$Yard"
  | 3 => .object "TouchedAndStands$Yard"
  | 4 => .boolean
  | 5 => .object "TouchedAndStands$Letters"
  | 6 => .array .int
  | 7 => .int
  | _ => .array .int
abbrev wsX20 : List Cond := u_ws RX2 TX2 9
theorem nmX2 : ∀ a, a < 9 → ∀ b, b < 9 → a ≠ b → (TX2 a).2.1 ≠ (TX2 b).2.1 := by decide +kernel
theorem tyX2_ok : ∀ k, k < 9 → parseFieldDescriptor (TX2 k).2.2.1 = some (tyX2 k) := by decide +kernel
abbrev cX2_init : ByteArray := prog_1_method_1_code
def yX2_init : MethodName := ⟨RX2, "<init>", "()V"⟩
abbrev cX2_letter : ByteArray := prog_1_method_2_code
def yX2_letter : MethodName := ⟨RX2, "letter", "(I)I"⟩
abbrev cX2_yard : ByteArray := prog_1_method_3_code
def yX2_yard : MethodName := ⟨RX2, "yard", "()I"⟩
abbrev cX2_child : ByteArray := prog_1_method_4_code
def yX2_child : MethodName := ⟨RX2, "child", "(II)I"⟩
abbrev cX2_go : ByteArray := prog_1_method_5_code
def yX2_go : MethodName := ⟨RX2, "go", "(II)I"⟩
abbrev cX2_touch : ByteArray := prog_1_method_6_code
def yX2_touch : MethodName := ⟨RX2, "touch", "(I)I"⟩
abbrev cX2_law : ByteArray := prog_1_method_7_code
def yX2_law : MethodName := ⟨RX2, "law", "(I)I"⟩
abbrev cX2_far : ByteArray := prog_1_method_8_code
def yX2_far : MethodName := ⟨RX2, "far", "(II)I"⟩
abbrev cX2_seconds : ByteArray := prog_1_method_9_code
def yX2_seconds : MethodName := ⟨RX2, "seconds", "(I)I"⟩
abbrev cX2_stand : ByteArray := prog_1_method_10_code
def yX2_stand : MethodName := ⟨RX2, "stand", "(I)I"⟩
abbrev cX2_where : ByteArray := prog_1_method_11_code
def yX2_where : MethodName := ⟨RX2, "where", "(II)I"⟩
abbrev cX2_over : ByteArray := prog_1_method_12_code
def yX2_over : MethodName := ⟨RX2, "over", "()I"⟩
abbrev cX2_mean : ByteArray := prog_1_method_13_code
def yX2_mean : MethodName := ⟨RX2, "mean", "(II)J"⟩
abbrev cX2_frees : ByteArray := prog_1_method_14_code
def yX2_frees : MethodName := ⟨RX2, "frees", "(I)I"⟩
abbrev cX2_never : ByteArray := prog_1_method_15_code
def yX2_never : MethodName := ⟨RX2, "never", "(I)I"⟩
abbrev cX2_mayFree : ByteArray := prog_1_method_16_code
def yX2_mayFree : MethodName := ⟨RX2, "mayFree", "(I)I"⟩
abbrev cX2_worth : ByteArray := prog_1_method_17_code
def yX2_worth : MethodName := ⟨RX2, "worth", "(I)I"⟩
abbrev cX2_hunt : ByteArray := prog_1_method_18_code
def yX2_hunt : MethodName := ⟨RX2, "hunt", "(III)I"⟩
abbrev cX2_enough : ByteArray := prog_1_method_19_code
def yX2_enough : MethodName := ⟨RX2, "enough", "()I"⟩
abbrev cX2_change : ByteArray := prog_1_method_20_code
def yX2_change : MethodName := ⟨RX2, "change", "(III)I"⟩
abbrev cX2_longest : ByteArray := prog_1_method_21_code
def yX2_longest : MethodName := ⟨RX2, "longest", "()I"⟩
abbrev cX2_owes : ByteArray := prog_1_method_22_code
def yX2_owes : MethodName := ⟨RX2, "owes", "(II)I"⟩
abbrev cX2_debt : ByteArray := prog_1_method_23_code
def yX2_debt : MethodName := ⟨RX2, "debt", "(I)I"⟩
abbrev cX2_why : ByteArray := prog_1_method_24_code
def yX2_why : MethodName := ⟨RX2, "why", "(II)I"⟩
abbrev cX2_row : ByteArray := prog_1_method_25_code
def yX2_row : MethodName := ⟨RX2, "row", "(I)I"⟩
abbrev cX2_fits : ByteArray := prog_1_method_26_code
def yX2_fits : MethodName := ⟨RX2, "fits", "(I)I"⟩
abbrev cX2_judge : ByteArray := prog_1_method_27_code
def yX2_judge : MethodName := ⟨RX2, "judge", "()I"⟩
abbrev cX2_lots : ByteArray := prog_1_method_28_code
def yX2_lots : MethodName := ⟨RX2, "lots", "(II)I"⟩
abbrev cX2_image : ByteArray := prog_1_method_29_code
def yX2_image : MethodName := ⟨RX2, "image", "()I"⟩
abbrev cX2_on : ByteArray := prog_1_method_30_code
def yX2_on : MethodName := ⟨RX2, "on", "()I"⟩
abbrev cX2_count : ByteArray := prog_1_method_31_code
def yX2_count : MethodName := ⟨RX2, "count", "(I)I"⟩
abbrev cX2_refuse : ByteArray := prog_1_method_32_code
def yX2_refuse : MethodName := ⟨RX2, "refuse", "(I)I"⟩
abbrev cX2_outside : ByteArray := prog_1_method_33_code
def yX2_outside : MethodName := ⟨RX2, "outside", "(III)I"⟩
abbrev cX2_readLetters : ByteArray := prog_1_method_34_code
def yX2_readLetters : MethodName := ⟨RX2, "readLetters", "()I"⟩
abbrev cX2_secondsTillOver : ByteArray := prog_1_method_35_code
def yX2_secondsTillOver : MethodName := ⟨RX2, "secondsTillOver", "()I"⟩
abbrev cX2_standingOver : ByteArray := prog_1_method_36_code
def yX2_standingOver : MethodName := ⟨RX2, "standingOver", "(I)I"⟩
abbrev cX2_othersStanding : ByteArray := prog_1_method_37_code
def yX2_othersStanding : MethodName := ⟨RX2, "othersStanding", "(I)I"⟩
abbrev cX2_addCatchers : ByteArray := prog_1_method_38_code
def yX2_addCatchers : MethodName := ⟨RX2, "addCatchers", "(I)Z"⟩
abbrev cX2_firstUntrue : ByteArray := prog_1_method_39_code
def yX2_firstUntrue : MethodName := ⟨RX2, "firstUntrue", "()I"⟩
abbrev cX2_greatestShared : ByteArray := prog_1_method_40_code
def yX2_greatestShared : MethodName := ⟨RX2, "greatestShared", "(II)I"⟩
def RX3 : String := "TouchedAndStandsModel"
def TX3 : u_T := fun k => match k with
  | 0 => ("TouchedAndStandsModel", "refused", "[I", true)
  | 1 => ("TouchedAndStandsModel", "kind", "[I", true)
  | 2 => ("TouchedAndStandsModel", "cell", "[I", true)
  | 3 => ("TouchedAndStandsModel", "pal", "[I", true)
  | 4 => ("TouchedAndStandsModel", "stands", "[I", true)
  | 5 => ("TouchedAndStandsModel", "tired", "[I", true)
  | 6 => ("TouchedAndStandsModel", "freed", "[I", true)
  | 7 => ("TouchedAndStandsModel", "children", "I", false)
  | 8 => ("TouchedAndStandsModel", "law", "I", false)
  | 9 => ("TouchedAndStandsModel", "second", "I", false)
  | 10 => ("TouchedAndStandsModel", "tape", "[I", true)
  | 11 => ("TouchedAndStandsModel", "letter", "[I", true)
  | 12 => ("TouchedAndStandsModel", "letterAt", "[I", true)
  | 13 => ("TouchedAndStandsModel", "told", "[I", true)
  | 14 => ("TouchedAndStandsModel", "taped", "I", false)
  | 15 => ("TouchedAndStandsModel", "at", "I", false)
  | 16 => ("TouchedAndStandsModel", "statements", "I", false)
  | 17 => ("TouchedAndStandsModel", "kept", "[I", true)
  | 18 => ("TouchedAndStandsModel", "hasImage", "Z", false)
  | 19 => ("TouchedAndStandsModel", "isKeeping", "Z", false)
  | 20 => ("TouchedAndStandsModel", "cursor", "I", false)
  | 21 => ("TouchedAndStandsModel", "idle", "I", false)
  | 22 => ("TouchedAndStandsModel", "freesMany", "I", false)
  | 23 => ("TouchedAndStandsModel", "sum", "I", false)
  | 24 => ("TouchedAndStandsModel", "all", "I", false)
  | 25 => ("TouchedAndStandsModel", "standing", "I", false)
  | 26 => ("TouchedAndStandsModel", "freesThen", "I", false)
  | 27 => ("TouchedAndStandsModel", "whereThen", "I", false)
  | 28 => ("TouchedAndStandsModel", "row", "[I", true)
  | _ => ("TouchedAndStandsModel", "rowMany", "I", false)
def tyX3 : Nat → FieldType := fun k => match k with
  | 0 => .array .int
  | 1 => .array .int
  | 2 => .array .int
  | 3 => .array .int
  | 4 => .array .int
  | 5 => .array .int
  | 6 => .array .int
  | 7 => .int
  | 8 => .int
  | 9 => .int
  | 10 => .array .int
  | 11 => .array .int
  | 12 => .array .int
  | 13 => .array .int
  | 14 => .int
  | 15 => .int
  | 16 => .int
  | 17 => .array .int
  | 18 => .boolean
  | 19 => .boolean
  | 20 => .int
  | 21 => .int
  | 22 => .int
  | 23 => .int
  | 24 => .int
  | 25 => .int
  | 26 => .int
  | 27 => .int
  | 28 => .array .int
  | _ => .int
abbrev wsX30 : List Cond := u_ws RX3 TX3 30
theorem nmX3 : ∀ a, a < 30 → ∀ b, b < 30 → a ≠ b → (TX3 a).2.1 ≠ (TX3 b).2.1 := by decide +kernel
theorem tyX3_ok : ∀ k, k < 30 → parseFieldDescriptor (TX3 k).2.2.1 = some (tyX3 k) := by decide +kernel
abbrev cX3_init : ByteArray := prog_5_method_1_code
def yX3_init : MethodName := ⟨RX3, "<init>", "()V"⟩
abbrev cX3_no : ByteArray := prog_5_method_2_code
def yX3_no : MethodName := ⟨RX3, "no", "(I)I"⟩
abbrev cX3_lower : ByteArray := prog_5_method_3_code
def yX3_lower : MethodName := ⟨RX3, "lower", "(I)I"⟩
abbrev cX3_lowest : ByteArray := prog_5_method_4_code
def yX3_lowest : MethodName := ⟨RX3, "lowest", "(I)J"⟩
abbrev cX3_isIn : ByteArray := prog_5_method_5_code
def yX3_isIn : MethodName := ⟨RX3, "isIn", "(III)Z"⟩
abbrev cX3_bound : ByteArray := prog_5_method_6_code
def yX3_bound : MethodName := ⟨RX3, "bound", "(III)I"⟩
abbrev cX3_bits : ByteArray := prog_5_method_7_code
def yX3_bits : MethodName := ⟨RX3, "bits", "(I)I"⟩
abbrev cX3_apart : ByteArray := prog_5_method_8_code
def yX3_apart : MethodName := ⟨RX3, "apart", "(II)I"⟩
abbrev cX3_isCell : ByteArray := prog_5_method_9_code
def yX3_isCell : MethodName := ⟨RX3, "isCell", "(I)Z"⟩
abbrev cX3_farOf : ByteArray := prog_5_method_10_code
def yX3_farOf : MethodName := ⟨RX3, "farOf", "(II)I"⟩
abbrev cX3_isEdge : ByteArray := prog_5_method_11_code
def yX3_isEdge : MethodName := ⟨RX3, "isEdge", "(I)Z"⟩
abbrev cX3_isChild : ByteArray := prog_5_method_12_code
def yX3_isChild : MethodName := ⟨RX3, "isChild", "(I)Z"⟩
abbrev cX3_isCatcher : ByteArray := prog_5_method_13_code
def yX3_isCatcher : MethodName := ⟨RX3, "isCatcher", "(I)Z"⟩
abbrev cX3_letter : ByteArray := prog_5_method_14_code
def yX3_letter : MethodName := ⟨RX3, "letter", "(I)I"⟩
abbrev cX3_next : ByteArray := prog_5_method_15_code
def yX3_next : MethodName := ⟨RX3, "next", "()I"⟩
abbrev cX3_readsDigits : ByteArray := prog_5_method_16_code
def yX3_readsDigits : MethodName := ⟨RX3, "readsDigits", "(II)Z"⟩
abbrev cX3_kindOf : ByteArray := prog_5_method_17_code
def yX3_kindOf : MethodName := ⟨RX3, "kindOf", "(I)I"⟩
abbrev cX3_readsChild : ByteArray := prog_5_method_18_code
def yX3_readsChild : MethodName := ⟨RX3, "readsChild", "(I)Z"⟩
abbrev cX3_statement : ByteArray := prog_5_method_19_code
def yX3_statement : MethodName := ⟨RX3, "statement", "()Z"⟩
abbrev cX3_comesChild : ByteArray := prog_5_method_20_code
def yX3_comesChild : MethodName := ⟨RX3, "comesChild", "(III)V"⟩
abbrev cX3_comes : ByteArray := prog_5_method_21_code
def yX3_comes : MethodName := ⟨RX3, "comes", "(I)Z"⟩
abbrev cX3_yard : ByteArray := prog_5_method_22_code
def yX3_yard : MethodName := ⟨RX3, "yard", "()I"⟩
abbrev cX3_passes : ByteArray := prog_5_method_23_code
def yX3_passes : MethodName := ⟨RX3, "passes", "([I)V"⟩
abbrev cX3_passOne : ByteArray := prog_5_method_24_code
def yX3_passOne : MethodName := ⟨RX3, "passOne", "(I)I"⟩
abbrev cX3_passesAll : ByteArray := prog_5_method_25_code
def yX3_passesAll : MethodName := ⟨RX3, "passesAll", "(IZ)V"⟩
abbrev cX3_image : ByteArray := prog_5_method_26_code
def yX3_image : MethodName := ⟨RX3, "image", "()I"⟩
abbrev cX3_on : ByteArray := prog_5_method_27_code
def yX3_on : MethodName := ⟨RX3, "on", "()I"⟩
abbrev cX3_stepOf : ByteArray := prog_5_method_28_code
def yX3_stepOf : MethodName := ⟨RX3, "stepOf", "(II)I"⟩
abbrev cX3_farFromCatchers : ByteArray := prog_5_method_29_code
def yX3_farFromCatchers : MethodName := ⟨RX3, "farFromCatchers", "(I)I"⟩
abbrev cX3_away : ByteArray := prog_5_method_30_code
def yX3_away : MethodName := ⟨RX3, "away", "(I)I"⟩
abbrev cX3_toward : ByteArray := prog_5_method_31_code
def yX3_toward : MethodName := ⟨RX3, "toward", "(II)I"⟩
abbrev cX3_doesMay : ByteArray := prog_5_method_32_code
def yX3_doesMay : MethodName := ⟨RX3, "doesMay", "(II)Z"⟩
abbrev cX3_nearMay : ByteArray := prog_5_method_33_code
def yX3_nearMay : MethodName := ⟨RX3, "nearMay", "(I)I"⟩
abbrev cX3_nearestMay : ByteArray := prog_5_method_34_code
def yX3_nearestMay : MethodName := ⟨RX3, "nearestMay", "(I)I"⟩
abbrev cX3_free : ByteArray := prog_5_method_35_code
def yX3_free : MethodName := ⟨RX3, "free", "(II)V"⟩
abbrev cX3_freesAll : ByteArray := prog_5_method_36_code
def yX3_freesAll : MethodName := ⟨RX3, "freesAll", "(II)V"⟩
abbrev cX3_runsTo : ByteArray := prog_5_method_37_code
def yX3_runsTo : MethodName := ⟨RX3, "runsTo", "(I)I"⟩
abbrev cX3_isRunner : ByteArray := prog_5_method_38_code
def yX3_isRunner : MethodName := ⟨RX3, "isRunner", "(I)Z"⟩
abbrev cX3_touches : ByteArray := prog_5_method_39_code
def yX3_touches : MethodName := ⟨RX3, "touches", "(I)Z"⟩
abbrev cX3_nearest : ByteArray := prog_5_method_40_code
def yX3_nearest : MethodName := ⟨RX3, "nearest", "(II)I"⟩
abbrev cX3_hunts : ByteArray := prog_5_method_41_code
def yX3_hunts : MethodName := ⟨RX3, "hunts", "(I)I"⟩
abbrev cX3_catches : ByteArray := prog_5_method_42_code
def yX3_catches : MethodName := ⟨RX3, "catches", "(I)V"⟩
abbrev cX3_less : ByteArray := prog_5_method_43_code
def yX3_less : MethodName := ⟨RX3, "less", "(I)I"⟩
abbrev cX3_goesOn : ByteArray := prog_5_method_44_code
def yX3_goesOn : MethodName := ⟨RX3, "goesOn", "(I)V"⟩
abbrev cX3_goes : ByteArray := prog_5_method_45_code
def yX3_goes : MethodName := ⟨RX3, "goes", "()V"⟩
abbrev cX3_standBits : ByteArray := prog_5_method_46_code
def yX3_standBits : MethodName := ⟨RX3, "standBits", "()I"⟩
abbrev cX3_runnersMany : ByteArray := prog_5_method_47_code
def yX3_runnersMany : MethodName := ⟨RX3, "runnersMany", "()I"⟩
abbrev cX3_child : ByteArray := prog_5_method_48_code
def yX3_child : MethodName := ⟨RX3, "child", "(II)I"⟩
abbrev cX3_go : ByteArray := prog_5_method_49_code
def yX3_go : MethodName := ⟨RX3, "go", "(II)I"⟩
abbrev cX3_touch : ByteArray := prog_5_method_50_code
def yX3_touch : MethodName := ⟨RX3, "touch", "(I)I"⟩
abbrev cX3_law : ByteArray := prog_5_method_51_code
def yX3_law : MethodName := ⟨RX3, "law", "(I)I"⟩
abbrev cX3_far : ByteArray := prog_5_method_52_code
def yX3_far : MethodName := ⟨RX3, "far", "(II)I"⟩
abbrev cX3_seconds : ByteArray := prog_5_method_53_code
def yX3_seconds : MethodName := ⟨RX3, "seconds", "(I)I"⟩
abbrev cX3_goesInMind : ByteArray := prog_5_method_54_code
def yX3_goesInMind : MethodName := ⟨RX3, "goesInMind", "(II)V"⟩
abbrev cX3_stand : ByteArray := prog_5_method_55_code
def yX3_stand : MethodName := ⟨RX3, "stand", "(I)I"⟩
abbrev cX3_where : ByteArray := prog_5_method_56_code
def yX3_where : MethodName := ⟨RX3, "where", "(II)I"⟩
abbrev cX3_overIn : ByteArray := prog_5_method_57_code
def yX3_overIn : MethodName := ⟨RX3, "overIn", "()I"⟩
abbrev cX3_over : ByteArray := prog_5_method_58_code
def yX3_over : MethodName := ⟨RX3, "over", "()I"⟩
abbrev cX3_divisor : ByteArray := prog_5_method_59_code
def yX3_divisor : MethodName := ⟨RX3, "divisor", "(JJ)J"⟩
abbrev cX3_mean : ByteArray := prog_5_method_60_code
def yX3_mean : MethodName := ⟨RX3, "mean", "(II)J"⟩
abbrev cX3_frees : ByteArray := prog_5_method_61_code
def yX3_frees : MethodName := ⟨RX3, "frees", "(I)I"⟩
abbrev cX3_never : ByteArray := prog_5_method_62_code
def yX3_never : MethodName := ⟨RX3, "never", "(I)I"⟩
abbrev cX3_mayFree : ByteArray := prog_5_method_63_code
def yX3_mayFree : MethodName := ⟨RX3, "mayFree", "(I)I"⟩
abbrev cX3_othersStand : ByteArray := prog_5_method_64_code
def yX3_othersStand : MethodName := ⟨RX3, "othersStand", "(I)I"⟩
abbrev cX3_worth : ByteArray := prog_5_method_65_code
def yX3_worth : MethodName := ⟨RX3, "worth", "(I)I"⟩
abbrev cX3_hunt : ByteArray := prog_5_method_66_code
def yX3_hunt : MethodName := ⟨RX3, "hunt", "(III)I"⟩
abbrev cX3_enough : ByteArray := prog_5_method_67_code
def yX3_enough : MethodName := ⟨RX3, "enough", "()I"⟩
abbrev cX3_standAfterChange : ByteArray := prog_5_method_68_code
def yX3_standAfterChange : MethodName := ⟨RX3, "standAfterChange", "(III)I"⟩
abbrev cX3_changes : ByteArray := prog_5_method_69_code
def yX3_changes : MethodName := ⟨RX3, "changes", "(II)V"⟩
abbrev cX3_change : ByteArray := prog_5_method_70_code
def yX3_change : MethodName := ⟨RX3, "change", "(III)I"⟩
abbrev cX3_longest : ByteArray := prog_5_method_71_code
def yX3_longest : MethodName := ⟨RX3, "longest", "()I"⟩
abbrev cX3_owes : ByteArray := prog_5_method_72_code
def yX3_owes : MethodName := ⟨RX3, "owes", "(II)I"⟩
abbrev cX3_debt : ByteArray := prog_5_method_73_code
def yX3_debt : MethodName := ⟨RX3, "debt", "(I)I"⟩
abbrev cX3_isMayed : ByteArray := prog_5_method_74_code
def yX3_isMayed : MethodName := ⟨RX3, "isMayed", "(I)Z"⟩
abbrev cX3_isWatched : ByteArray := prog_5_method_75_code
def yX3_isWatched : MethodName := ⟨RX3, "isWatched", "(II)Z"⟩
abbrev cX3_why : ByteArray := prog_5_method_76_code
def yX3_why : MethodName := ⟨RX3, "why", "(II)I"⟩
abbrev cX3_row : ByteArray := prog_5_method_77_code
def yX3_row : MethodName := ⟨RX3, "row", "(I)I"⟩
abbrev cX3_wrongAt : ByteArray := prog_5_method_78_code
def yX3_wrongAt : MethodName := ⟨RX3, "wrongAt", "()I"⟩
abbrev cX3_fits : ByteArray := prog_5_method_79_code
def yX3_fits : MethodName := ⟨RX3, "fits", "(I)I"⟩
abbrev cX3_judge : ByteArray := prog_5_method_80_code
def yX3_judge : MethodName := ⟨RX3, "judge", "()I"⟩
abbrev cX3_lots : ByteArray := prog_5_method_81_code
def yX3_lots : MethodName := ⟨RX3, "lots", "(II)I"⟩
abbrev cX3_count : ByteArray := prog_5_method_82_code
def yX3_count : MethodName := ⟨RX3, "count", "(I)I"⟩
def RJ11 : String := "java/lang/Character"
def TJ11 : u_T := fun k => match k with
  | _ => ("", "", "", false)
def tyJ11 : Nat → FieldType := fun k => match k with
  | _ => .int
abbrev wsJ110 : List Cond := u_ws RJ11 TJ11 0
theorem nmJ11 : ∀ a, a < 0 → ∀ b, b < 0 → a ≠ b → (TJ11 a).2.1 ≠ (TJ11 b).2.1 := by decide +kernel
theorem tyJ11_ok : ∀ k, k < 0 → parseFieldDescriptor (TJ11 k).2.2.1 = some (tyJ11 k) := by decide +kernel
abbrev cJ11_isValidCodePoint_9a6ad : ByteArray := prog_6_method_11_code
def yJ11_isValidCodePoint_9a6ad : MethodName := ⟨RJ11, "isValidCodePoint", "(I)Z"⟩
abbrev cJ11_highSurrogate_5068e : ByteArray := prog_6_method_28_code
def yJ11_highSurrogate_5068e : MethodName := ⟨RJ11, "highSurrogate", "(I)C"⟩
abbrev cJ11_lowSurrogate_5068e : ByteArray := prog_6_method_29_code
def yJ11_lowSurrogate_5068e : MethodName := ⟨RJ11, "lowSurrogate", "(I)C"⟩
def RJ6 : String := "java/lang/Integer"
def TJ6 : u_T := fun k => match k with
  | _ => ("", "", "", false)
def tyJ6 : Nat → FieldType := fun k => match k with
  | _ => .int
abbrev wsJ60 : List Cond := u_ws RJ6 TJ6 0
theorem nmJ6 : ∀ a, a < 0 → ∀ b, b < 0 → a ≠ b → (TJ6 a).2.1 ≠ (TJ6 b).2.1 := by decide +kernel
theorem tyJ6_ok : ∀ k, k < 0 → parseFieldDescriptor (TJ6 k).2.2.1 = some (tyJ6 k) := by decide +kernel
abbrev cJ6_bitCount_0f7a4 : ByteArray := prog_7_method_49_code
def yJ6_bitCount_0f7a4 : MethodName := ⟨RJ6, "bitCount", "(I)I"⟩
def RJ9 : String := "java/lang/Math"
def TJ9 : u_T := fun k => match k with
  | _ => ("", "", "", false)
def tyJ9 : Nat → FieldType := fun k => match k with
  | _ => .int
abbrev wsJ90 : List Cond := u_ws RJ9 TJ9 0
theorem nmJ9 : ∀ a, a < 0 → ∀ b, b < 0 → a ≠ b → (TJ9 a).2.1 ≠ (TJ9 b).2.1 := by decide +kernel
theorem tyJ9_ok : ∀ k, k < 0 → parseFieldDescriptor (TJ9 k).2.2.1 = some (tyJ9 k) := by decide +kernel
abbrev cJ9_max_7cf53 : ByteArray := prog_8_method_65_code
def yJ9_max_7cf53 : MethodName := ⟨RJ9, "max", "(II)I"⟩
abbrev cJ9_min_7cf53 : ByteArray := prog_8_method_69_code
def yJ9_min_7cf53 : MethodName := ⟨RJ9, "min", "(II)I"⟩
def RJ0 : String := "java/lang/String"
def TJ0 : u_T := fun k => match k with
  | _ => ("", "", "", false)
def tyJ0 : Nat → FieldType := fun k => match k with
  | _ => .int
abbrev wsJ00 : List Cond := u_ws RJ0 TJ0 0
theorem nmJ0 : ∀ a, a < 0 → ∀ b, b < 0 → a ≠ b → (TJ0 a).2.1 ≠ (TJ0 b).2.1 := by decide +kernel
theorem tyJ0_ok : ∀ k, k < 0 → parseFieldDescriptor (TJ0 k).2.2.1 = some (tyJ0 k) := by decide +kernel
abbrev cJ0_length_8abf5 : ByteArray := prog_9_method_54_code
def yJ0_length_8abf5 : MethodName := ⟨RJ0, "length", "()I"⟩
abbrev cJ0_charAt_5068e : ByteArray := prog_9_method_56_code
def yJ0_charAt_5068e : MethodName := ⟨RJ0, "charAt", "(I)C"⟩
abbrev cJ0_indexOf_0f7a4 : ByteArray := prog_9_method_79_code
def yJ0_indexOf_0f7a4 : MethodName := ⟨RJ0, "indexOf", "(I)I"⟩
abbrev cJ0_indexOf_7cf53 : ByteArray := prog_9_method_80_code
def yJ0_indexOf_7cf53 : MethodName := ⟨RJ0, "indexOf", "(II)I"⟩
abbrev cJ0_coder_7d493 : ByteArray := prog_9_method_152_code
def yJ0_coder_7d493 : MethodName := ⟨RJ0, "coder", "()B"⟩
abbrev cJ0_isLatin1_aae02 : ByteArray := prog_9_method_154_code
def yJ0_isLatin1_aae02 : MethodName := ⟨RJ0, "isLatin1", "()Z"⟩
abbrev cJ0_checkIndex_df160 : ByteArray := prog_9_method_155_code
def yJ0_checkIndex_df160 : MethodName := ⟨RJ0, "checkIndex", "(II)V"⟩
abbrev cJ0_checkBoundsBeginEnd_23922 : ByteArray := prog_9_method_158_code
def yJ0_checkBoundsBeginEnd_23922 : MethodName := ⟨RJ0, "checkBoundsBeginEnd", "(III)V"⟩
def RJ1 : String := "java/lang/StringLatin1"
def TJ1 : u_T := fun k => match k with
  | _ => ("", "", "", false)
def tyJ1 : Nat → FieldType := fun k => match k with
  | _ => .int
abbrev wsJ10 : List Cond := u_ws RJ1 TJ1 0
theorem nmJ1 : ∀ a, a < 0 → ∀ b, b < 0 → a ≠ b → (TJ1 a).2.1 ≠ (TJ1 b).2.1 := by decide +kernel
theorem tyJ1_ok : ∀ k, k < 0 → parseFieldDescriptor (TJ1 k).2.2.1 = some (tyJ1 k) := by decide +kernel
abbrev cJ1_charAt_3b067 : ByteArray := prog_10_method_2_code
def yJ1_charAt_3b067 : MethodName := ⟨RJ1, "charAt", "([BI)C"⟩
abbrev cJ1_canEncode_9a6ad : ByteArray := prog_10_method_4_code
def yJ1_canEncode_9a6ad : MethodName := ⟨RJ1, "canEncode", "(I)Z"⟩
abbrev cJ1_indexOf_4cfef : ByteArray := prog_10_method_22_code
def yJ1_indexOf_4cfef : MethodName := ⟨RJ1, "indexOf", "([BIII)I"⟩
abbrev cJ1_indexOfChar_4cfef : ByteArray := prog_10_method_23_code
def yJ1_indexOfChar_4cfef : MethodName := ⟨RJ1, "indexOfChar", "([BIII)I"⟩
def RJ2 : String := "java/lang/StringUTF16"
def TJ2 : u_T := fun k => match k with
  | _ => ("", "", "", false)
def tyJ2 : Nat → FieldType := fun k => match k with
  | _ => .int
abbrev wsJ20 : List Cond := u_ws RJ2 TJ2 0
theorem nmJ2 : ∀ a, a < 0 → ∀ b, b < 0 → a ≠ b → (TJ2 a).2.1 ≠ (TJ2 b).2.1 := by decide +kernel
theorem tyJ2_ok : ∀ k, k < 0 → parseFieldDescriptor (TJ2 k).2.2.1 = some (tyJ2 k) := by decide +kernel
abbrev cJ2_getChar_3b067 : ByteArray := prog_11_method_5_code
def yJ2_getChar_3b067 : MethodName := ⟨RJ2, "getChar", "([BI)C"⟩
abbrev cJ2_length_9d52b : ByteArray := prog_11_method_6_code
def yJ2_length_9d52b : MethodName := ⟨RJ2, "length", "([B)I"⟩
abbrev cJ2_indexOf_4cfef : ByteArray := prog_11_method_40_code
def yJ2_indexOf_4cfef : MethodName := ⟨RJ2, "indexOf", "([BIII)I"⟩
abbrev cJ2_indexOfChar_4cfef : ByteArray := prog_11_method_47_code
def yJ2_indexOfChar_4cfef : MethodName := ⟨RJ2, "indexOfChar", "([BIII)I"⟩
abbrev cJ2_indexOfCharUnsafe_4cfef : ByteArray := prog_11_method_48_code
def yJ2_indexOfCharUnsafe_4cfef : MethodName := ⟨RJ2, "indexOfCharUnsafe", "([BIII)I"⟩
abbrev cJ2_indexOfSupplementary_4cfef : ByteArray := prog_11_method_49_code
def yJ2_indexOfSupplementary_4cfef : MethodName := ⟨RJ2, "indexOfSupplementary", "([BIII)I"⟩
abbrev cJ2_charAt_3b067 : ByteArray := prog_11_method_83_code
def yJ2_charAt_3b067 : MethodName := ⟨RJ2, "charAt", "([BI)C"⟩
abbrev cJ2_checkIndex_2214a : ByteArray := prog_11_method_91_code
def yJ2_checkIndex_2214a : MethodName := ⟨RJ2, "checkIndex", "(I[B)V"⟩
abbrev cJ2_checkBoundsBeginEnd_d044e : ByteArray := prog_11_method_93_code
def yJ2_checkBoundsBeginEnd_d044e : MethodName := ⟨RJ2, "checkBoundsBeginEnd", "(II[B)V"⟩
def RJ10 : String := "java/lang/System"
def TJ10 : u_T := fun k => match k with
  | _ => ("", "", "", false)
def tyJ10 : Nat → FieldType := fun k => match k with
  | _ => .int
abbrev wsJ100 : List Cond := u_ws RJ10 TJ10 0
theorem nmJ10 : ∀ a, a < 0 → ∀ b, b < 0 → a ≠ b → (TJ10 a).2.1 ≠ (TJ10 b).2.1 := by decide +kernel
theorem tyJ10_ok : ∀ k, k < 0 → parseFieldDescriptor (TJ10 k).2.2.1 = some (tyJ10 k) := by decide +kernel
def RJ3 : String := "jdk/internal/util/Preconditions"
def TJ3 : u_T := fun k => match k with
  | _ => ("", "", "", false)
def tyJ3 : Nat → FieldType := fun k => match k with
  | _ => .int
abbrev wsJ30 : List Cond := u_ws RJ3 TJ3 0
theorem nmJ3 : ∀ a, a < 0 → ∀ b, b < 0 → a ≠ b → (TJ3 a).2.1 ≠ (TJ3 b).2.1 := by decide +kernel
theorem tyJ3_ok : ∀ k, k < 0 → parseFieldDescriptor (TJ3 k).2.2.1 = some (tyJ3 k) := by decide +kernel
abbrev cJ3_checkIndex_8e157 : ByteArray := prog_13_method_11_code
def yJ3_checkIndex_8e157 : MethodName := ⟨RJ3, "checkIndex", "(IILjava/util/function/BiFunction;)I"⟩
abbrev cJ3_checkFromToIndex_8c36e : ByteArray := prog_13_method_12_code
def yJ3_checkFromToIndex_8c36e : MethodName := ⟨RJ3, "checkFromToIndex", "(IIILjava/util/function/BiFunction;)I"⟩
def RL : String := "TouchedAndStandsLaw"
abbrev cL_law : ByteArray := code
def yL_law : MethodName := ⟨RL, "law", "([I)Z"⟩
abbrev vwCl : List vw_C := [(RX0, TX0, 3), (RX1, TX1, 11), (RX2, TX2, 9), (RX3, TX3, 30)]
end
section
/-! ===== THE MINI MACHINE: values (int, long, reference by tag and instance), worlds (int fields, int arrays), layout ===== -/
abbrev mV : Type := Int32 ⊕ (Int64 ⊕ (Nat × Nat))
abbrev mI (x : Int32) : mV := Sum.inl x
abbrev mJ (x : Int64) : mV := Sum.inr (Sum.inl x)
abbrev mR (t i : Nat) : mV := Sum.inr (Sum.inr (t, i))
abbrev mW : Type := (Nat → Nat → Nat → Int32) × (Nat → Nat → Nat → Int32)
def mgf (w : mW) (t i k : Nat) : Int32 := w.1 t i k
def mga (w : mW) (t i : Nat) : Nat → Int32 := w.2 t i
def mpf (w : mW) (t i k : Nat) (v : Int32) : mW := (fun t' i' k' => if t' = t ∧ i' = i ∧ k' = k then v else w.1 t' i' k', w.2)
def mpA (w : mW) (t i : Nat) (f : Nat → Int32) : mW := (w.1, fun t' i' => if t' = t ∧ i' = i then f else w.2 t' i')
/-- tags: 0 the class, 1 a yard, 2 .. 6 its rows, 7 letters, 8 their signs, 9 numbers, 10 refused, 11 the model, 12 .. 24 its rows, 30 a String constant, 31 its bytes, 32 the formatter, 40 the script -/
def oC : Nat → Option (Nat × Nat)
  | 0 => some (2, 9)
  | 1 => some (1, 11)
  | 7 => some (0, 3)
  | 11 => some (3, 30)
  | _ => none
def oR : Nat → Nat → Nat → Option (Nat × Nat)
  | 0, _, 0 => some (1, 0)
  | 0, _, 1 => some (1, 1)
  | 0, _, 2 => some (1, 2)
  | 0, _, 3 => some (1, 3)
  | 0, _, 5 => some (7, 0)
  | 0, _, 6 => some (9, 0)
  | 0, _, 8 => some (10, 0)
  | 1, i, 0 => some (2, i)
  | 1, i, 1 => some (3, i)
  | 1, i, 2 => some (4, i)
  | 1, i, 3 => some (5, i)
  | 1, i, 4 => some (6, i)
  | 7, _, 0 => some (8, 0)
  | 11, _, 0 => some (12, 0)
  | 11, _, 1 => some (13, 0)
  | 11, _, 2 => some (14, 0)
  | 11, _, 3 => some (15, 0)
  | 11, _, 4 => some (16, 0)
  | 11, _, 5 => some (17, 0)
  | 11, _, 6 => some (18, 0)
  | 11, _, 10 => some (19, 0)
  | 11, _, 11 => some (20, 0)
  | 11, _, 12 => some (21, 0)
  | 11, _, 13 => some (22, 0)
  | 11, _, 17 => some (23, 0)
  | 11, _, 28 => some (24, 0)
  | _, _, _ => none
/-- the length of an array of ints, by its tag -/
def oA : Nat → Nat
  | 2 => 8
  | 3 => 8
  | 4 => 8
  | 5 => 8
  | 6 => 64
  | 8 => 96
  | 9 => 20
  | 10 => 7
  | 12 => 7
  | 13 => 8
  | 14 => 8
  | 15 => 8
  | 16 => 8
  | 17 => 8
  | 18 => 64
  | 19 => 96
  | 20 => 48
  | 21 => 48
  | 22 => 144
  | 23 => 220
  | 24 => 20
  | _ => 0
def oT : Nat → u_T
  | 0 => TX0
  | 1 => TX1
  | 2 => TX2
  | _ => TX3
def oY : Nat → Nat → FieldType
  | 0 => tyX0
  | 1 => tyX1
  | 2 => tyX2
  | _ => tyX3
def oN : Nat → String
  | 0 => RX0
  | 1 => RX1
  | 2 => RX2
  | _ => RX3
def mYd (i : Nat) : List (Nat × Nat) := [(1, i), (2, i), (3, i), (4, i), (5, i), (6, i)]
def mCells : List (Nat × Nat) := (0, 0) :: (mYd 0 ++ (mYd 1 ++ (mYd 2 ++ (mYd 3 ++ [(7, 0), (8, 0), (9, 0), (10, 0), (11, 0), (12, 0), (13, 0), (14, 0), (15, 0), (16, 0), (17, 0), (18, 0), (19, 0), (20, 0), (21, 0), (22, 0), (23, 0), (24, 0)]))))
def mStrs : List (Nat × Nat) := [(30, 0), (30, 1), (30, 2), (30, 3), (30, 4), (30, 5), (31, 0), (31, 1), (31, 2), (31, 3), (31, 4), (31, 5), (32, 0)]
def mRefs : List (Nat × Nat) := mCells ++ mStrs
/-- the Strings: lengths and bytes -/
def sLen : List Nat := [0, 6, 3, 3, 5, 8]
def sByt : List (List Int32) := [[], [107, 75, 68, 68, 68, 59], [116, 68, 59], [108, 68, 59], [103, 68, 68, 68, 59], [114, 102, 112, 104, 99, 103, 119, 98]]
def sTab : List (String × Nat × String × Nat) := [(RX0, 26, "", 0), (RX0, 86, "kKDDD;", 1), (RX0, 88, "tD;", 2), (RX0, 90, "lD;", 3), (RX0, 92, "gDDD;", 4), (RX0, 94, "\x72fphcgwb", 5), (RX1, 70, "\x72fphcgwb", 5)]
def GW : List Cond := lw_tbl.filter goodWord
/-- dictionary of class ids and slots; the class of int arrays; addresses; the formatter -/
abbrev mEnv : Type := va_G × ClassId × (Nat → Nat → Nat) × Value
abbrev mAd (E : mEnv) : Nat → Nat → Nat := E.2.2.1
def cv (E : mEnv) : mV → Value
  | .inl x => .int x
  | .inr (.inl x) => .long x
  | .inr (.inr r) => if r.1 = 32 then E.2.2.2 else .ref (mAd E r.1 r.2)
def mFd (E : mEnv) (w : mW) (q : Nat × Nat) (k : Nat) : Value := match oR q.1 q.2 k with
  | some r => .ref (mAd E r.1 r.2)
  | none => .int (mgf w q.1 q.2 k)
def mE (E : mEnv) (w : mW) (q : Nat × Nat) : va_E := match oC q.1 with
  | some (ci, n) => .inr (ci, (List.range n).map (mFd E w q))
  | none => .inl (E.2.1, oA q.1, .inl (mga w q.1 q.2))
def mWs (E : mEnv) (w : mW) : va_W := mCells.map (fun q => (mAd E q.1 q.2, mE E w q))
def mA (E : mEnv) : Nat → Prop := fun a => ∃ q, q ∈ mCells ∧ mAd E q.1 q.2 = a
def mHold (E : mEnv) (A : Nat → Prop) (w : mW) (H : Heap) : Prop := va_P E.1 vwCl (mWs E w) H ∧ va_D A (mWs E w)
def mOk : mV → Prop
  | .inl _ => True
  | .inr (.inl _) => True
  | .inr (.inr r) => r ∈ mRefs
def mLoc (E : mEnv) (ls : Array Slot) (nL : Nat) (L : List (Option mV)) : Prop := (ls.size = nL ∧ L.length = nL) ∧ lv_wf ls ∧ ∀ (i : Nat) (v : mV), L[i]? = some (some v) → mOk v ∧ ls[i]? = some (.val (cv E v))
/-- what is said of Strings and statics at a state -/
def mStr (E : mEnv) (A : Nat → Prop) (s : State) : Prop :=
  vk_S 6 sLen sByt (mAd E 30) (mAd E 31) A s s.heap ∧ (∀ q ∈ sTab, vk_R q.1 q.2.1 q.2.2.1 (mAd E 30 q.2.2.2) s) ∧ va_Z "java/lang/String" "COMPACT_STRINGS" "Z" (.int 1) A s s.heap ∧ va_Z "jdk/internal/util/Preconditions" "SIOOBE_FORMATTER" "Ljava/util/function/BiFunction;" E.2.2.2 A s s.heap ∧ (E.2.2.2 = .null ∨ ∃ a, E.2.2.2 = .ref a)
/-- a method: its name, bytes, locals, answer -/
abbrev mM : Type := MethodName × ByteArray × Nat × Option FieldType
def mCtx (E : mEnv) (A : Nat → Prop) (p : Program) (s : State) (m : MethodId) (args : Array Value) (c : Code) (M : mM) : Prop :=
  p.tables.exec = Jvm.exec ∧ c.code = M.2.1 ∧ c.maxLocals = M.2.2.1 ∧ s.vm.findClass M.1.cls = some m.cls ∧ (∀ w ∈ GW, w.before args s = true) ∧ va_K E.1 vwCl [(E.2.1, .int)] s ∧ mStr E A s
def mRm (d : Nat) : Room := { frames := d, cells := 0, slots := 0, locals := 38 * d }
/-- the machine stands at a frame of the method M, with a world, and comes to Z -/
def mG (E : mEnv) (A : Nat → Prop) (p : Program) (l : Launch) (e : Env) (R : Room) (s : State) (m : MethodId) (args : Array Value) (below : List Frame) (meth : Method) (c : Code) (cells slots : Nat) (Z : State → Prop) (M : mM) (pc : Nat) (L : List (Option mV)) (S : List mV) (w : mW) : Prop :=
  ∀ (H : Heap) (locs : List Loc) (ls : Array Slot), mHold E A w H → va_S A s.heap H locs → mLoc E ls M.2.2.1 L → (∀ v ∈ S, mOk v) → W p l e R s m args below meth c H locs cells slots Z (F0 m pc ls (S.map (cv E)))
def mQc (E : mEnv) (Q : Option mV → mW → Prop) : Array Value → State → Outcome → State → Prop := fun _ st oc t =>
  (∃ (r : Option mV) (u : mW), oc = .returned (r.map (cv E)) ∧ (∀ v, r = some v → mOk v) ∧ Q r u ∧ mHold E (mA E) u t.heap) ∧ va_F (mA E) st t
/-- a method's frame, from any state where it stands, comes to its end with Q -/
def Ev (l : Launch) (d : Nat) (M : mM) (pc : Nat) (L : List (Option mV)) (S : List mV) (w : mW) (Q : Option mV → mW → Prop) : Prop :=
  ∀ (E : mEnv) (p : Program) (e : Env) (s : State) (m : MethodId) (args : Array Value) (below : List Frame) (meth : Method) (c : Code), mCtx E (mA E) p s m args c M → meth.locks = false → meth.sig.returnType = M.2.2.2 →
    mG E (mA E) p l e (mRm d) s m args below meth c 0 0 (MQ below (mQc E Q) args s 0 0 (mA E)) M pc L S w
end
section
/-! ===== one instruction that neither branches nor calls; what a program checks of a stretch of code ===== -/
def mrem (x y : Int32) : Int32 := x - x / y * y
def mremL (x y : Int64) : Int64 := x - x / y * y
def mshl (x y : Int32) : Int32 := x <<< (y &&& 31)
def mshr (x y : Int32) : Int32 := x >>> (y &&& 31)
def mushr (x y : Int32) : Int32 := (x.toUInt32 >>> (y.toUInt32 &&& Int32.toUInt32 31)).toInt32
def mchr (x : Int32) : Int32 := (x.toUInt32 % 65536).toInt32
def mbyt (x : Int32) : Int32 := x.toInt8.toInt32
/-- an instruction, and what it carries: a constant; a class and the place of a field -/
abbrev mB : Type := Instr × mV
def ilen : Instr → Nat
  | .bipush _ => 2
  | .sipush _ => 3
  | .ldc _ => 2
  | .ldc_w _ => 3
  | .ldc2_w _ => 3
  | .iload _ => 2
  | .aload _ => 2
  | .lload _ => 2
  | .istore _ => 2
  | .astore _ => 2
  | .lstore _ => 2
  | .iinc _ _ => 3
  | .getfield _ => 3
  | .putfield _ => 3
  | .getstatic _ => 3
  | _ => 1
/-- a value of one word into a local; not where it would cut a long -/
def mset1 : List (Option mV) → Nat → mV → Option (List (Option mV))
  | [], _, _ => none
  | _ :: l, 0, v => some (some v :: l)
  | a :: l, i + 1, v => match a, i with
    | some (.inr (.inl _)), 0 => none
    | a, i => match mset1 l i v with
      | some l' => some (a :: l')
      | none => none
def mset2 : List (Option mV) → Nat → mV → Option (List (Option mV))
  | [], _, _ => none
  | [_], _, _ => none
  | _ :: _ :: l, 0, v => some (some v :: none :: l)
  | a :: b :: l, i + 1, v => match a, i with
    | some (.inr (.inl _)), 0 => none
    | a, i => match mset2 (b :: l) i v with
      | some l' => some (a :: l')
      | none => none
abbrev mO : Type := Option (Option Prop × List (Option mV) × List mV × mW)
def mldI (L : List (Option mV)) (i : Nat) (S : List mV) (w : mW) : mO := match L[i]? with
  | some (some (.inl x)) => some (none, L, mI x :: S, w)
  | _ => none
def mldA (L : List (Option mV)) (i : Nat) (S : List mV) (w : mW) : mO := match L[i]? with
  | some (some (.inr (.inr (t, j)))) => if t = 32 then none else some (none, L, mR t j :: S, w)
  | _ => none
def mldJ (L : List (Option mV)) (i : Nat) (S : List mV) (w : mW) : mO := match L[i]? with
  | some (some (.inr (.inl x))) => some (none, L, mJ x :: S, w)
  | _ => none
def mstI (L : List (Option mV)) (i : Nat) (S : List mV) (w : mW) : mO := match S with
  | .inl x :: S => match mset1 L i (mI x) with
    | some L1 => some (none, L1, S, w)
    | none => none
  | _ => none
def mstA (L : List (Option mV)) (i : Nat) (S : List mV) (w : mW) : mO := match S with
  | .inr (.inr (t, j)) :: S => if t = 32 then none else match mset1 L i (mR t j) with
    | some L1 => some (none, L1, S, w)
    | none => none
  | _ => none
def mstJ (L : List (Option mV)) (i : Nat) (S : List mV) (w : mW) : mO := match S with
  | .inr (.inl x) :: S => match mset2 L i (mJ x) with
    | some L1 => some (none, L1, S, w)
    | none => none
  | _ => none
def mgetf (ci k : Nat) (t i : Nat) (L : List (Option mV)) (S : List mV) (w : mW) : mO := match oC t with
  | some (cj, n) => if cj = ci then (if k < n then (match oR t i k with
      | some (t', i') => some (none, L, mR t' i' :: S, w)
      | none => some (none, L, mI (mgf w t i k) :: S, w)) else none) else none
  | none => if t = 30 then (if ci = 9 then (if k = 0 then some (none, L, mR 31 i :: S, w) else some (none, L, mI 0 :: S, w)) else none) else none
def mputf (ci k : Nat) (v : Int32) (t i : Nat) (L : List (Option mV)) (S : List mV) (w : mW) : mO := match oC t with
  | some (cj, n) => if cj = ci then (if k < n then (match oR t i k with
      | some _ => none
      | none => match oY ci k with
        | .int => some (none, L, S, mpf w t i k v)
        | .boolean => some (some (v = 0 ∨ v = 1), L, S, mpf w t i k v)
        | _ => none) else none) else none
  | none => none
def mstep (i : Instr) (pay : mV) (L : List (Option mV)) (S : List mV) (w : mW) : mO := match i with
  | .iconst _ => some (none, L, pay :: S, w)
  | .bipush _ => some (none, L, pay :: S, w)
  | .sipush _ => some (none, L, pay :: S, w)
  | .ldc _ => some (none, L, pay :: S, w)
  | .ldc_w _ => some (none, L, pay :: S, w)
  | .ldc2_w _ => some (none, L, pay :: S, w)
  | .lconst _ => some (none, L, pay :: S, w)
  | .getstatic _ => some (none, L, pay :: S, w)
  | .iload_n k => mldI L k.val S w
  | .iload k => mldI L k S w
  | .aload_n k => mldA L k.val S w
  | .aload k => mldA L k S w
  | .lload_n k => mldJ L k.val S w
  | .lload k => mldJ L k S w
  | .istore_n k => mstI L k.val S w
  | .istore k => mstI L k S w
  | .astore_n k => mstA L k.val S w
  | .astore k => mstA L k S w
  | .lstore_n k => mstJ L k.val S w
  | .lstore k => mstJ L k S w
  | .iinc k _ => match pay, L[k]? with
    | .inl n, some (some (.inl x)) => (match mset1 L k (mI (x + n)) with
      | some L1 => some (none, L1, S, w)
      | none => none)
    | _, _ => none
  | .iadd => match S with
    | .inl y :: .inl x :: S => some (none, L, mI (x + y) :: S, w)
    | _ => none
  | .isub => match S with
    | .inl y :: .inl x :: S => some (none, L, mI (x - y) :: S, w)
    | _ => none
  | .imul => match S with
    | .inl y :: .inl x :: S => some (none, L, mI (x * y) :: S, w)
    | _ => none
  | .idiv => match S with
    | .inl y :: .inl x :: S => some (some (¬ y = 0), L, mI (x / y) :: S, w)
    | _ => none
  | .irem => match S with
    | .inl y :: .inl x :: S => some (some (¬ y = 0), L, mI (mrem x y) :: S, w)
    | _ => none
  | .iand => match S with
    | .inl y :: .inl x :: S => some (none, L, mI (x &&& y) :: S, w)
    | _ => none
  | .ior => match S with
    | .inl y :: .inl x :: S => some (none, L, mI (x ||| y) :: S, w)
    | _ => none
  | .ixor => match S with
    | .inl y :: .inl x :: S => some (none, L, mI (x ^^^ y) :: S, w)
    | _ => none
  | .ishl => match S with
    | .inl y :: .inl x :: S => some (none, L, mI (mshl x y) :: S, w)
    | _ => none
  | .ishr => match S with
    | .inl y :: .inl x :: S => some (none, L, mI (mshr x y) :: S, w)
    | _ => none
  | .iushr => match S with
    | .inl y :: .inl x :: S => some (none, L, mI (mushr x y) :: S, w)
    | _ => none
  | .ineg => match S with
    | .inl x :: S => some (none, L, mI (-x) :: S, w)
    | _ => none
  | .i2l => match S with
    | .inl x :: S => some (none, L, mJ x.toInt64 :: S, w)
    | _ => none
  | .i2b => match S with
    | .inl x :: S => some (none, L, mI (mbyt x) :: S, w)
    | _ => none
  | .i2c => match S with
    | .inl x :: S => some (none, L, mI (mchr x) :: S, w)
    | _ => none
  | .lsub => match S with
    | .inr (.inl y) :: .inr (.inl x) :: S => some (none, L, mJ (x - y) :: S, w)
    | _ => none
  | .ldiv => match S with
    | .inr (.inl y) :: .inr (.inl x) :: S => some (some (¬ y = 0), L, mJ (x / y) :: S, w)
    | _ => none
  | .lrem => match S with
    | .inr (.inl y) :: .inr (.inl x) :: S => some (some (¬ y = 0), L, mJ (mremL x y) :: S, w)
    | _ => none
  | .lcmp => match S with
    | .inr (.inl y) :: .inr (.inl x) :: S => some (none, L, mI (lg_cmp x y) :: S, w)
    | _ => none
  | .dup => match S with
    | .inl x :: S => some (none, L, mI x :: mI x :: S, w)
    | .inr (.inr (t, i)) :: S => if t = 32 then none else some (none, L, mR t i :: mR t i :: S, w)
    | _ => none
  | .pop => match S with
    | .inl _ :: S => some (none, L, S, w)
    | _ => none
  | .dup2 => match S with
    | .inl x :: .inr (.inr (t, i)) :: S => if t = 32 then none else some (none, L, mI x :: mR t i :: mI x :: mR t i :: S, w)
    | _ => none
  | .getfield _ => match pay, S with
    | .inr (.inr (ci, k)), .inr (.inr (t, i)) :: S => mgetf ci k t i L S w
    | _, _ => none
  | .putfield _ => match pay, S with
    | .inr (.inr (ci, k)), .inl v :: .inr (.inr (t, i)) :: S => mputf ci k v t i L S w
    | _, _ => none
  | .iaload => match S with
    | .inl j :: .inr (.inr (t, i)) :: S => if 30 ≤ t then none else (match oC t with
      | none => some (some (vp_in j (oA t)), L, mI (mga w t i j.toNatClampNeg) :: S, w)
      | some _ => none)
    | _ => none
  | .iastore => match S with
    | .inl v :: .inl j :: .inr (.inr (t, i)) :: S => if 30 ≤ t then none else (match oC t with
      | none => some (some (vp_in j (oA t)), L, S, mpA w t i (upd (mga w t i) j.toNatClampNeg v))
      | some _ => none)
    | _ => none
  | .baload => match S with
    | .inl j :: .inr (.inr (t, i)) :: S => if t = 31 then some (some (vp_in j (sLen.getD i 0)), L, mI ((sByt.getD i []).getD j.toNatClampNeg 0) :: S, w) else none
    | _ => none
  | .arraylength => match S with
    | .inr (.inr (t, i)) :: S => if t = 31 then some (none, L, mI (nI (sLen.getD i 0)) :: S, w) else if 30 ≤ t then none else (match oC t with
      | none => some (none, L, mI (nI (oA t)) :: S, w)
      | some _ => none)
    | _ => none
  | _ => none
def mrun : List mB → Prop → List (Option mV) → List mV → mW → Option (Prop × List (Option mV) × List mV × mW)
  | [], P, L, S, w => some (P, L, S, w)
  | b :: is, P, L, S, w => match mstep b.1 b.2 L S w with
    | some (none, L1, S1, w1) => mrun is P L1 S1 w1
    | some (some C, L1, S1, w1) => mrun is (P ∧ C) L1 S1 w1
    | none => none
/-- a word of the tables, of those that stay -/
def inW (w : Cond) : Bool := decide (w ∈ lw_tbl) && goodWord w
theorem inW_ok {w : Cond} (h : inW w = true) : w ∈ GW := by
  unfold inW at h
  simp only [Bool.and_eq_true, decide_eq_true_eq] at h
  exact List.mem_filter.mpr h
def mchkP (M : mM) (i : Instr) (pay : mV) : Bool := match i, pay with
  | .iconst n, .inl v => decide (Int32.ofInt n = v)
  | .iconst _, _ => false
  | .bipush n, .inl v => decide ((Int8.ofInt n).toInt32 = v)
  | .bipush _, _ => false
  | .sipush n, .inl v => decide ((Int16.ofInt n).toInt32 = v)
  | .sipush _, _ => false
  | .lconst n, .inr (.inl v) => decide (Int64.ofNat n.val = v)
  | .lconst _, _ => false
  | .ldc k, .inl v => inW (.constant M.1.cls k v)
  | .ldc k, .inr (.inr (t, j)) => decide (t = 30) && sTab.any (fun q => decide (q.1 = M.1.cls) && (decide (q.2.1 = k) && decide (q.2.2.2 = j)))
  | .ldc _, _ => false
  | .ldc_w k, .inl v => inW (.constant M.1.cls k v)
  | .ldc_w _, _ => false
  | .ldc2_w k, .inr (.inl v) => inW (.constantLong M.1.cls k v)
  | .ldc2_w _, _ => false
  | .getstatic k, .inl v => decide (v = 1) && inW (.fieldLink M.1.cls k "java/lang/String" "COMPACT_STRINGS" "Z")
  | .getstatic k, .inr (.inr (t, j)) => decide (t = 32) && decide (j = 0) && inW (.fieldLink M.1.cls k "jdk/internal/util/Preconditions" "SIOOBE_FORMATTER" "Ljava/util/function/BiFunction;")
  | .getstatic _, _ => false
  | .iinc _ n, .inl v => decide (Int32.ofInt n = v)
  | .iinc _ _, _ => false
  | .getfield x, .inr (.inr (ci, k)) => if ci = 9 then (if k = 0 then inW (.fieldLink M.1.cls x "java/lang/String" "value" "[B") else inW (.fieldLink M.1.cls x "java/lang/String" "coder" "B")) else decide (ci < 4) && inW (.fieldLink M.1.cls x (oT ci k).1 (oT ci k).2.1 (oT ci k).2.2.1)
  | .getfield _, _ => false
  | .putfield x, .inr (.inr (ci, k)) => decide (ci < 4) && (decide ((oT ci k).2.2.2 = false) && inW (.fieldLink M.1.cls x (oT ci k).1 (oT ci k).2.1 (oT ci k).2.2.1))
  | .putfield _, _ => false
  | _, _ => true
def mchk (M : mM) : Nat → List mB → Nat → Bool
  | pc, [], pc' => decide (pc = pc')
  | pc, b :: is, pc' => decide (decode M.2.1 pc = .ok (b.1, ilen b.1)) && (mchkP M b.1 b.2 && mchk M (pc + ilen b.1) is pc')
end
section
/-! ===== the mini machine's instructions are the machine's: worlds and locals ===== -/
theorem mCells_inj : ∀ (i j : Nat) (q : Nat × Nat), mCells[i]? = some q → mCells[j]? = some q → i = j := by
  have hn : mCells.Nodup := by decide
  intro i j q h1 h2
  have hi : i < mCells.length := (List.getElem?_eq_some_iff.mp h1).1
  exact (List.getElem?_inj hi hn).mp (h1.trans h2.symm)
theorem mWs_get (E : mEnv) (w : mW) {pl : Nat} {q : Nat × Nat} (h : mCells[pl]? = some q) : (mWs E w)[pl]? = some (mAd E q.1 q.2, mE E w q) := by
  unfold mWs
  rw [List.getElem?_map, h]
  rfl
theorem mWs_set {E : mEnv} {w w1 : mW} {pl : Nat} {q : Nat × Nat} {x : va_E} (h : mCells[pl]? = some q) (hx : x = mE E w1 q) (ho : ∀ q', q' ≠ q → mE E w1 q' = mE E w q') : (mWs E w).set pl (mAd E q.1 q.2, x) = mWs E w1 := by
  subst hx
  have hl : pl < mCells.length := (List.getElem?_eq_some_iff.mp h).1
  apply List.ext_getElem?
  intro j
  by_cases hj : j = pl
  · subst hj
    rw [List.getElem?_set_self (by unfold mWs; rw [List.length_map]; exact hl), mWs_get E w1 h]
  · rw [List.getElem?_set_ne (Ne.symm hj)]
    unfold mWs
    rw [List.getElem?_map, List.getElem?_map]
    cases hq : mCells[j]? with
    | none => rfl
    | some q' =>
      have hne : q' ≠ q := fun e => hj (mCells_inj j pl q (by rw [hq, e]) h)
      show some (_, _) = some (_, _)
      rw [ho q' hne]
theorem mE_mpf {E : mEnv} {w : mW} {t i k : Nat} {v : Int32} {q : Nat × Nat} (h : q ≠ (t, i)) : mE E (mpf w t i k v) q = mE E w q := by
  have hf : mFd E (mpf w t i k v) q = mFd E w q := by
    funext k'
    unfold mFd mgf mpf
    have : ¬ (q.1 = t ∧ q.2 = i ∧ k' = k) := fun ⟨a, b, _⟩ => h (Prod.ext a b)
    simp only [this, if_false]
  unfold mE
  rw [hf]
  rfl
theorem mE_mpA {E : mEnv} {w : mW} {t i : Nat} {f : Nat → Int32} {q : Nat × Nat} (h : q ≠ (t, i)) : mE E (mpA w t i f) q = mE E w q := by
  have hf : mga (mpA w t i f) q.1 q.2 = mga w q.1 q.2 := by
    unfold mga mpA
    have : ¬ (q.1 = t ∧ q.2 = i) := fun ⟨a, b⟩ => h (Prod.ext a b)
    simp only [this, if_false]
  unfold mE
  rw [hf]
  rfl
theorem mE_obj {E : mEnv} {w : mW} {t i ci n : Nat} (h : oC t = some (ci, n)) : mE E w (t, i) = .inr (ci, (List.range n).map (mFd E w (t, i))) := by
  unfold mE
  simp only [h]
theorem mE_arr {E : mEnv} {w : mW} {t i : Nat} (h : oC t = none) : mE E w (t, i) = .inl (E.2.1, oA t, .inl (mga w t i)) := by
  unfold mE
  simp only [h]
theorem mFd_get {E : mEnv} {w : mW} {q : Nat × Nat} {n k : Nat} (h : k < n) : ((List.range n).map (mFd E w q))[k]? = some (mFd E w q k) := by
  rw [List.getElem?_map, List.getElem?_range h]
  rfl
theorem mFd_set {E : mEnv} {w : mW} {t i n k : Nat} {v : Int32} (h : k < n) (hr : oR t i k = none) : ((List.range n).map (mFd E w (t, i))).set k (.int v) = (List.range n).map (mFd E (mpf w t i k v) (t, i)) := by
  apply List.ext_getElem?
  intro j
  by_cases hj : j = k
  · subst hj
    rw [List.getElem?_set_self (by simpa using h), mFd_get h]
    unfold mFd mgf mpf
    simp [hr]
  · rw [List.getElem?_set_ne (Ne.symm hj), List.getElem?_map, List.getElem?_map]
    cases hq : (List.range n)[j]? with
    | none => rfl
    | some j' =>
      have : j' = j := by
        have := (List.getElem?_eq_some_iff.mp hq).2
        simpa using this.symm
      subst this
      show some _ = some _
      unfold mFd mgf mpf
      simp [hj]
theorem mRef_cell : ∀ q ∈ mRefs, q.1 < 30 → q ∈ mCells := by decide
theorem mRef_obj : ∀ q ∈ mRefs, oC q.1 ≠ none → q.1 < 30 := by decide
theorem mRef_32 : ∀ q ∈ mRefs, q.1 = 32 → q = (32, 0) := by decide
theorem mRef_str : ∀ q ∈ mRefs, q.1 = 30 → q.2 < 6 := by decide
theorem mRef_byt : ∀ q ∈ mRefs, q.1 = 31 → q.2 < 6 := by decide
theorem mRef_val : ∀ q ∈ mRefs, q.1 = 30 → (31, q.2) ∈ mRefs := by decide
theorem mRef_fldB : ∀ q ∈ mCells, ∀ k, k < 30 → (oR q.1 q.2 k).all (fun r => decide (r ∈ mRefs) && decide (r.1 ≠ 32)) = true := by decide +kernel
theorem mRef_fld {q r : Nat × Nat} {k : Nat} (hq : q ∈ mCells) (hk : k < 30) (h : oR q.1 q.2 k = some r) : r ∈ mRefs ∧ r.1 ≠ 32 := by
  have h1 := mRef_fldB q hq k hk
  rw [h] at h1
  simpa using h1
theorem oC_ltB : ∀ q ∈ mCells, (oC q.1).all (fun r => decide (r.1 < 4) && (decide (r.2 ≤ 30) && decide (vwCl[r.1]?.map (fun z => (z.1, z.2.2)) = some (oN r.1, r.2)))) = true := by decide +kernel
theorem mok_cons {x : mV} {S : List mV} (hx : mOk x) (h : ∀ v ∈ S, mOk v) : ∀ v ∈ x :: S, mOk v := fun v hv => (List.mem_cons.mp hv).elim (fun e => e ▸ hx) (h v)
theorem mok_head {x : mV} {S : List mV} (h : ∀ v ∈ x :: S, mOk v) : mOk x := h x List.mem_cons_self
theorem mok_tail {x : mV} {S : List mV} (h : ∀ v ∈ x :: S, mOk v) : ∀ v ∈ S, mOk v := fun v hv => h v (List.mem_cons_of_mem _ hv)
theorem cv_ref {E : mEnv} {t i : Nat} (h : t ≠ 32) : cv E (mR t i) = .ref (mAd E t i) := by
  show (if t = 32 then _ else _) = _
  rw [if_neg h]
theorem cv_refS {E : mEnv} {t i : Nat} {S : List mV} (h : t ≠ 32) : (mR t i :: S).map (cv E) = .ref (mAd E t i) :: S.map (cv E) := by
  rw [List.map_cons, cv_ref h]
theorem mset1_spec {v : mV} : ∀ {L L1 : List (Option mV)} {i : Nat}, mset1 L i v = some L1 → (i < L.length ∧ L1.length = L.length ∧ L1[i]? = some (some v)) ∧ (∀ j, j ≠ i → L1[j]? = L[j]?) ∧ ∀ j x, j + 1 = i → L[j]? ≠ some (some (.inr (.inl x)))
  | [], _, _, h => by simp [mset1] at h
  | a :: l, L1, 0, h => by
    simp only [mset1, Option.some.injEq] at h
    subst h
    refine ⟨⟨by simp, by simp, by simp⟩, fun j hj => ?_, fun j x hj => by omega⟩
    cases j with
    | zero => exact absurd rfl hj
    | succ j => simp
  | a :: l, L1, i + 1, h => by
    have hk : (∀ x, i = 0 → a ≠ some (.inr (.inl x))) ∧ ∃ l', mset1 l i v = some l' ∧ L1 = a :: l' := by
      unfold mset1 at h
      split at h
      · cases h
      · rename_i hne
        split at h
        · rename_i l' e1
          refine ⟨fun x hi ha => hne x ha hi, l', e1, by simpa using h.symm⟩
        · cases h
    obtain ⟨h1, l', h2, rfl⟩ := hk
    obtain ⟨⟨g1, g2, g3⟩, g4, g5⟩ := mset1_spec h2
    refine ⟨⟨by simpa using g1, by simpa using g2, by simpa using g3⟩, fun j hj => ?_, fun j x hj => ?_⟩
    · cases j with
      | zero => simp
      | succ j => simpa using g4 j (by omega)
    · cases j with
      | zero => simpa using h1 x (by omega)
      | succ j => simpa using g5 j x (by omega)
theorem mset2_spec {v : mV} : ∀ {L L1 : List (Option mV)} {i : Nat}, mset2 L i v = some L1 → (i + 1 < L.length ∧ L1.length = L.length ∧ L1[i]? = some (some v) ∧ L1[i + 1]? = some none) ∧ (∀ j, j ≠ i → j ≠ i + 1 → L1[j]? = L[j]?) ∧ ∀ j x, j + 1 = i → L[j]? ≠ some (some (.inr (.inl x)))
  | [], _, _, h => by simp [mset2] at h
  | [_], _, _, h => by simp [mset2] at h
  | a :: b :: l, L1, 0, h => by
    simp only [mset2, Option.some.injEq] at h
    subst h
    refine ⟨⟨by simp, by simp, by simp, by simp⟩, fun j hj hj2 => ?_, fun j x hj => by omega⟩
    match j with
    | 0 => exact absurd rfl hj
    | 1 => exact absurd rfl hj2
    | j + 2 => simp
  | a :: b :: l, L1, i + 1, h => by
    have hk : (∀ x, i = 0 → a ≠ some (.inr (.inl x))) ∧ ∃ l', mset2 (b :: l) i v = some l' ∧ L1 = a :: l' := by
      unfold mset2 at h
      split at h
      · cases h
      · rename_i hne
        split at h
        · rename_i l' e1
          refine ⟨fun x hi ha => hne x ha hi, l', e1, by simpa using h.symm⟩
        · cases h
    obtain ⟨h1, l', h2, rfl⟩ := hk
    obtain ⟨⟨g1, g2, g3, g6⟩, g4, g5⟩ := mset2_spec h2
    refine ⟨⟨by simpa using g1, by simpa using g2, by simpa using g3, by simpa using g6⟩, fun j hj hj2 => ?_, fun j x hj => ?_⟩
    · cases j with
      | zero => simp
      | succ j => simpa using g4 j (by omega) (by omega)
    · cases j with
      | zero => simpa using h1 x (by omega)
      | succ j => simpa using g5 j x (by omega)
def mPairs (E : mEnv) (L : List (Option mV)) : List (Nat × Value) := (List.range L.length).filterMap (fun i => match L[i]? with
  | some (some v) => some (i, cv E v)
  | _ => none)
theorem mPairs_mem {E : mEnv} {L : List (Option mV)} {i : Nat} {v : mV} (h : L[i]? = some (some v)) : (i, cv E v) ∈ mPairs E L := by
  refine List.mem_filterMap.mpr ⟨i, List.mem_range.mpr (List.getElem?_eq_some_iff.mp h).1, ?_⟩
  simp only [h]
theorem mLoc.has {E : mEnv} {ls : Array Slot} {nL : Nat} {L : List (Option mV)} (h : mLoc E ls nL L) : lv_has ls nL (mPairs E L) := by
  refine ⟨h.1.1, h.2.1, fun q hq => ?_⟩
  obtain ⟨i, -, hi⟩ := List.mem_filterMap.mp hq
  split at hi
  · rename_i v hv
    cases hi
    exact (h.2.2 i v hv).2
  · cases hi
theorem cv_cat {E : mEnv} {v : mV} (h : (E.2.2.2 = .null ∨ ∃ a, E.2.2.2 = .ref a)) : (cv E v).category = (match v with | .inr (.inl _) => 2 | _ => 1) := by
  rcases v with x | x | r
  · rfl
  · rfl
  · show (if r.1 = 32 then E.2.2.2 else .ref (mAd E r.1 r.2)).category = 1
    split
    · rcases h with h | ⟨a, h⟩ <;> rw [h] <;> rfl
    · rfl
theorem mset1_loc {E : mEnv} {ls ls' : Array Slot} {nL i : Nat} {L L1 : List (Option mV)} {v : mV} (hF : (E.2.2.2 = .null ∨ ∃ a, E.2.2.2 = .ref a)) (h : mLoc E ls nL L) (hs : mset1 L i v = some L1) (hv : mOk v) (hl : lv_has ls' nL ((i, cv E v) :: (mPairs E L).filter (fun q => !(q.1 == i) && !(q.1 + 1 == i && q.2.category == 2)))) : mLoc E ls' nL L1 := by
  obtain ⟨⟨g1, g2, g3⟩, g4, g5⟩ := mset1_spec hs
  refine ⟨⟨hl.1, by rw [g2]; exact h.1.2⟩, hl.2.1, fun j u hj => ?_⟩
  by_cases hji : j = i
  · subst hji
    rw [g3] at hj
    cases hj
    exact ⟨hv, hl.2.2 _ List.mem_cons_self⟩
  · rw [g4 j hji] at hj
    refine ⟨(h.2.2 j u hj).1, hl.2.2 (j, cv E u) (List.mem_cons_of_mem _ (List.mem_filter.mpr ⟨mPairs_mem hj, ?_⟩))⟩
    simp only [Bool.and_eq_true, Bool.not_eq_true', beq_eq_false_iff_ne, ne_eq, Bool.and_eq_false_iff]
    refine ⟨hji, ?_⟩
    by_cases hk : j + 1 = i
    · right
      rw [cv_cat hF]
      rcases u with x | x | r
      · simp
      · exact absurd hj (g5 j x hk)
      · simp
    · exact Or.inl hk
theorem mset2_loc {E : mEnv} {ls ls' : Array Slot} {nL i : Nat} {L L1 : List (Option mV)} {v : mV} (hF : (E.2.2.2 = .null ∨ ∃ a, E.2.2.2 = .ref a)) (h : mLoc E ls nL L) (hs : mset2 L i v = some L1) (hv : mOk v) (hl : lv_has ls' nL ((i, cv E v) :: (mPairs E L).filter (fun q => !(q.1 == i) && (!(q.1 == i + 1) && !(q.1 + 1 == i && q.2.category == 2))))) : mLoc E ls' nL L1 := by
  obtain ⟨⟨g1, g2, g3, g6⟩, g4, g5⟩ := mset2_spec hs
  refine ⟨⟨hl.1, by rw [g2]; exact h.1.2⟩, hl.2.1, fun j u hj => ?_⟩
  by_cases hji : j = i
  · subst hji
    rw [g3] at hj
    cases hj
    exact ⟨hv, hl.2.2 _ List.mem_cons_self⟩
  · by_cases hji2 : j = i + 1
    · subst hji2
      rw [g6] at hj
      cases hj
    · rw [g4 j hji hji2] at hj
      refine ⟨(h.2.2 j u hj).1, hl.2.2 (j, cv E u) (List.mem_cons_of_mem _ (List.mem_filter.mpr ⟨mPairs_mem hj, ?_⟩))⟩
      simp only [Bool.and_eq_true, Bool.not_eq_true', beq_eq_false_iff_ne, ne_eq, Bool.and_eq_false_iff]
      refine ⟨hji, hji2, ?_⟩
      by_cases hk : j + 1 = i
      · right
        rw [cv_cat hF]
        rcases u with x | x | r
        · simp
        · exact absurd hj (g5 j x hk)
        · simp
      · exact Or.inl hk
end
section
/-! ===== each instruction of the mini machine is the machine's ===== -/
section MS
variable {E : mEnv} {A : Nat → Prop} {p : Program} {l : Launch} {e : Env} {R : Room} {s : State} {m : MethodId} {args : Array Value} {below : List Frame} {meth : Method} {c : Code} {cells slots : Nat} {Z : State → Prop} {M : mM} {pc : Nat} {L L1 : List (Option mV)} {S S1 : List mV} {w w1 : mW}
theorem mldI_spec {i : Nat} {r : Option Prop × List (Option mV) × List mV × mW} (h : mldI L i S w = some r) : ∃ x, L[i]? = some (some (.inl x)) ∧ r = (none, L, mI x :: S, w) := by
  unfold mldI at h
  split at h
  · exact ⟨_, ‹_›, by simpa using h.symm⟩
  · cases h
theorem mldJ_spec {i : Nat} {r : Option Prop × List (Option mV) × List mV × mW} (h : mldJ L i S w = some r) : ∃ x, L[i]? = some (some (.inr (.inl x))) ∧ r = (none, L, mJ x :: S, w) := by
  unfold mldJ at h
  split at h
  · exact ⟨_, ‹_›, by simpa using h.symm⟩
  · cases h
theorem mldA_spec {i : Nat} {r : Option Prop × List (Option mV) × List mV × mW} (h : mldA L i S w = some r) : ∃ t j, t ≠ 32 ∧ L[i]? = some (some (.inr (.inr (t, j)))) ∧ r = (none, L, mR t j :: S, w) := by
  unfold mldA at h
  split at h
  · split at h
    · cases h
    · exact ⟨_, _, ‹_›, ‹_›, by simpa using h.symm⟩
  · cases h
theorem mstI_spec {i : Nat} {r : Option Prop × List (Option mV) × List mV × mW} (h : mstI L i S w = some r) : ∃ x S0 L0, S = .inl x :: S0 ∧ mset1 L i (mI x) = some L0 ∧ r = (none, L0, S0, w) := by
  unfold mstI at h
  split at h
  · split at h
    · exact ⟨_, _, _, rfl, ‹_›, by simpa using h.symm⟩
    · cases h
  · cases h
theorem mstJ_spec {i : Nat} {r : Option Prop × List (Option mV) × List mV × mW} (h : mstJ L i S w = some r) : ∃ x S0 L0, S = .inr (.inl x) :: S0 ∧ mset2 L i (mJ x) = some L0 ∧ r = (none, L0, S0, w) := by
  unfold mstJ at h
  split at h
  · split at h
    · exact ⟨_, _, _, rfl, ‹_›, by simpa using h.symm⟩
    · cases h
  · cases h
theorem mstA_spec {i : Nat} {r : Option Prop × List (Option mV) × List mV × mW} (h : mstA L i S w = some r) : ∃ t j S0 L0, t ≠ 32 ∧ S = .inr (.inr (t, j)) :: S0 ∧ mset1 L i (mR t j) = some L0 ∧ r = (none, L0, S0, w) := by
  unfold mstA at h
  split at h
  · split at h
    · cases h
    · split at h
      · exact ⟨_, _, _, _, ‹_›, rfl, ‹_›, by simpa using h.symm⟩
      · cases h
  · cases h
theorem mCtx.F (hc : mCtx E A p s m args c M) : (E.2.2.2 = .null ∨ ∃ a, E.2.2.2 = .ref a) := hc.2.2.2.2.2.2.2.2.2.2
theorem mCtx.K (hc : mCtx E A p s m args c M) : va_K E.1 vwCl [(E.2.1, .int)] s := hc.2.2.2.2.2.1
theorem mCtx.own (hc : mCtx E A p s m args c M) : s.vm.findClass M.1.cls = some m.cls := hc.2.2.2.1
theorem mCtx.ts (hc : mCtx E A p s m args c M) : ∀ w ∈ GW, w.before args s = true := hc.2.2.2.2.1
theorem mCtx.word (hc : mCtx E A p s m args c M) {w : Cond} (h : inW w = true) : w.before args s = true := hc.2.2.2.2.1 w (inW_ok h)
/-- the field table of a class, and its words -/
theorem oW_in0 : ∀ w ∈ u_ws RX0 TX0 3, inW w = true := by decide +kernel
theorem oW_in1 : ∀ w ∈ u_ws RX1 TX1 11, inW w = true := by decide +kernel
theorem oW_in2 : ∀ w ∈ u_ws RX2 TX2 9, inW w = true := by decide +kernel
theorem oW_in3 : ∀ w ∈ u_ws RX3 TX3 30, inW w = true := by decide +kernel
def oF : Nat → Nat
  | 0 => 3
  | 1 => 11
  | 2 => 9
  | _ => 30
theorem oTab {ci : Nat} (h : ci < 4) : vwCl[ci]? = some (oN ci, oT ci, oF ci) ∧ (∀ w ∈ u_ws (oN ci) (oT ci) (oF ci), w ∈ GW) ∧ (∀ k, k < oF ci → parseFieldDescriptor (oT ci k).2.2.1 = some (oY ci k)) ∧ (∀ a, a < oF ci → ∀ b, b < oF ci → a ≠ b → (oT ci a).2.1 ≠ (oT ci b).2.1) := by
  match ci, h with
  | 0, _ => exact ⟨rfl, fun w hw => inW_ok (oW_in0 w hw), tyX0_ok, nmX0⟩
  | 1, _ => exact ⟨rfl, fun w hw => inW_ok (oW_in1 w hw), tyX1_ok, nmX1⟩
  | 2, _ => exact ⟨rfl, fun w hw => inW_ok (oW_in2 w hw), tyX2_ok, nmX2⟩
  | 3, _ => exact ⟨rfl, fun w hw => inW_ok (oW_in3 w hw), tyX3_ok, nmX3⟩
theorem oC_F {t ci n : Nat} (h : oC t = some (ci, n)) : ci < 4 ∧ n = oF ci := by
  unfold oC at h
  split at h <;> first | (cases h; exact ⟨by decide, rfl⟩) | cases h
theorem ms_getf (hc : mCtx E A p s m args c M) {x : Nat} {pay : mV} {C : Option Prop} (hd : decode M.2.1 pc = .ok (.getfield x, 3)) (hp : mchkP M (.getfield x) pay = true) (hs : mstep (.getfield x) pay L S w = some (C, L1, S1, w1))
    (k : mG E A p l e R s m args below meth c cells slots Z M (pc + 3) L1 S1 w1) : mG E A p l e R s m args below meth c cells slots Z M pc L S w := by
  have hs0 : ∃ ci kk t i S0, pay = .inr (.inr (ci, kk)) ∧ S = .inr (.inr (t, i)) :: S0 ∧ mgetf ci kk t i L S0 w = some (C, L1, S1, w1) := by
    simp only [mstep] at hs
    split at hs
    · exact ⟨_, _, _, _, _, rfl, rfl, hs⟩
    · cases hs
  obtain ⟨ci, kk, t, i, S0, rfl, rfl, hg⟩ := hs0
  intro H locs ls hH hS hL hO
  have hok : (t, i) ∈ mRefs := mok_head hO
  have hO0 := mok_tail hO
  cases ho : oC t with
  | some q =>
    obtain ⟨cj, n⟩ := q
    unfold mgetf at hg
    simp only [ho] at hg
    split at hg
    · rename_i hcj
      subst hcj
      split at hg
      · rename_i hk
        obtain ⟨hc4, rfl⟩ := oC_F ho
        obtain ⟨t1, t2, t3, t4⟩ := oTab hc4
        have hlt : t < 30 := mRef_obj (t, i) hok (by rw [ho]; exact fun z => by cases z)
        have hcell : (t, i) ∈ mCells := mRef_cell (t, i) hok hlt
        obtain ⟨pl, hpl⟩ := List.getElem?_of_mem hcell
        have hk30 : kk < 30 := Nat.lt_of_lt_of_le hk (by match cj, hc4 with | 0, _ => decide | 1, _ => decide | 2, _ => decide | 3, _ => decide)
        have hlink : inW (.fieldLink M.1.cls x (oT cj kk).1 (oT cj kk).2.1 (oT cj kk).2.2.1) = true := by
          have h9 : ¬ cj = 9 := by omega
          simp only [mchkP, h9, if_false, Bool.and_eq_true] at hp
          exact hp.2
        have hget := mWs_get E w hpl
        rw [mE_obj ho] at hget
        rw [cv_refS (by omega)]
        have goal : ∀ v : mV, cv E v = mFd E w (t, i) kk → mOk v → (C, L1, S1, w1) = (none, L, v :: S0, w) → W p l e R s m args below meth c H locs cells slots Z (F0 m pc ls (.ref (mAd E t i) :: S0.map (cv E))) := by
          intro v hv hvo he
          cases he
          refine va_get (D := E.1) (ci := cj) (v := mFd E w (t, i) kk) hc.1 hc.2.1 hc.ts t2 hc.own hc.K hH.1 pl hget t1 kk hk (hc.word hlink) (fun _ h => h) (mFd_get hk) hd ?_
          have h9 := k H locs ls hH hS hL (mok_cons hvo hO0)
          rw [List.map_cons, hv] at h9
          exact h9
        split at hg
        · rename_i t' i' hr
          refine goal (mR t' i') ?_ (mRef_fld hcell hk30 hr).1 (by simpa using hg.symm)
          rw [cv_ref (mRef_fld hcell hk30 hr).2]
          unfold mFd
          rw [hr]
        · rename_i hr
          refine goal (mI (mgf w t i kk)) ?_ trivial (by simpa using hg.symm)
          unfold mFd
          rw [hr]
          rfl
      · cases hg
    · cases hg
  | none =>
    unfold mgetf at hg
    simp only [ho] at hg
    split at hg
    · rename_i ht
      subst ht
      split at hg
      · rename_i hci
        subst hci
        have hi6 : i < 6 := mRef_str (30, i) hok rfl
        have hstr := hc.2.2.2.2.2.2.1.1 i hi6
        rw [cv_refS (by decide)]
        split at hg
        · rename_i hk
          subst hk
          cases hg
          have hlink : inW (.fieldLink M.1.cls x "java/lang/String" "value" "[B") = true := by
            simpa [mchkP] using hp
          obtain ⟨cf, k', fi, f, cell, h1, h2, h3, h4, h5, h6⟩ := hstr.2.2.1.kept hS.2.1
          refine W.getf hc.1 hc.2.1 hc.own (hc.word hlink) h1 h2 h3 h4 h5 rfl rfl hd ?_
          exact k H locs ls hH hS hL (mok_cons (mRef_val (30, i) hok rfl) hO0)
        · rename_i hk
          cases hg
          have hlink : inW (.fieldLink M.1.cls x "java/lang/String" "coder" "B") = true := by
            simpa [mchkP, hk] using hp
          obtain ⟨cf, k', fi, f, cell, h1, h2, h3, h4, h5, h6⟩ := hstr.2.1.kept hS.2.1
          refine W.getf hc.1 hc.2.1 hc.own (hc.word hlink) h1 h2 h3 h4 h5 rfl rfl hd ?_
          exact k H locs ls hH hS hL (mok_cons trivial hO0)
      · cases hg
    · cases hg
theorem ms_putf (hc : mCtx E A p s m args c M) {x : Nat} {pay : mV} {C : Option Prop} (hd : decode M.2.1 pc = .ok (.putfield x, 3)) (hp : mchkP M (.putfield x) pay = true) (hs : mstep (.putfield x) pay L S w = some (C, L1, S1, w1)) (hC : ∀ z, C = some z → z)
    (k : mG E A p l e R s m args below meth c cells slots Z M (pc + 3) L1 S1 w1) : mG E A p l e R s m args below meth c cells slots Z M pc L S w := by
  have hs0 : ∃ ci kk v t i S0, pay = .inr (.inr (ci, kk)) ∧ S = .inl v :: .inr (.inr (t, i)) :: S0 ∧ mputf ci kk v t i L S0 w = some (C, L1, S1, w1) := by
    simp only [mstep] at hs
    split at hs
    · exact ⟨_, _, _, _, _, _, rfl, rfl, hs⟩
    · cases hs
  obtain ⟨ci, kk, v, t, i, S0, rfl, rfl, hg⟩ := hs0
  intro H locs ls hH hS hL hO
  have hok : (t, i) ∈ mRefs := mok_head (mok_tail hO)
  have hO0 := mok_tail (mok_tail hO)
  unfold mputf at hg
  split at hg
  · rename_i cj n ho
    split at hg
    · rename_i hcj
      subst hcj
      split at hg
      · rename_i hk
        obtain ⟨hc4, rfl⟩ := oC_F ho
        obtain ⟨t1, t2, t3, t4⟩ := oTab hc4
        have hlt : t < 30 := mRef_obj (t, i) hok (by rw [ho]; exact fun z => by cases z)
        have hcell : (t, i) ∈ mCells := mRef_cell (t, i) hok hlt
        obtain ⟨pl, hpl⟩ := List.getElem?_of_mem hcell
        simp only [mchkP, Bool.and_eq_true, decide_eq_true_eq] at hp
        split at hg
        · cases hg
        · rename_i hr
          have hget := mWs_get E w hpl
          rw [mE_obj ho] at hget
          have goal : ∀ ty, oY cj kk = ty → narrow ty (.int v) = .int v → fits ty (.int v) = true → (L1, S1, w1) = (L, S0, mpf w t i kk v) → W p l e R s m args below meth c H locs cells slots Z (F0 m pc ls ((.inl v :: .inr (.inr (t, i)) :: S0).map (cv E))) := by
            intro ty hty hn hf he
            cases he
            rw [List.map_cons, cv_refS (by omega)]
            refine va_put (D := E.1) (ci := cj) (v := .int v) (ty := ty) hc.1 hc.2.1 hc.ts t2 (oY cj) t3 t4 hc.own hc.K hH.1 hH.2 hS pl hget t1 kk hk (hc.word hp.2.2) (fun _ h => h) hp.2.1 (by rw [t3 kk hk, hty]) hn hf (by simpa using hk) hd (fun H1 locs1 hP hD hS1 => ?_)
            have hset : (mWs E w).set pl (mAd E t i, .inr (cj, ((List.range (oF cj)).map (mFd E w (t, i))).set kk (.int v))) = mWs E (mpf w t i kk v) := mWs_set hpl (by rw [mE_obj ho, mFd_set hk hr]) (fun q' hq' => mE_mpf hq')
            rw [hset] at hP hD
            exact k H1 locs1 ls ⟨hP, hD⟩ hS1 hL hO0
          split at hg
          · rename_i hty
            cases hg
            exact goal .int hty rfl rfl rfl
          · rename_i hty
            cases hg
            have hv := hC _ rfl
            exact goal .boolean hty (by rcases hv with rfl | rfl <;> rfl) (by rcases hv with rfl | rfl <;> rfl) rfl
          · cases hg
      · cases hg
    · cases hg
  · cases hg
theorem ms_iald (hc : mCtx E A p s m args c M) {j : Int32} {t i : Nat} (ht : t < 30) (ho : oC t = none) (hd : decode M.2.1 pc = .ok (.iaload, 1)) (hin : vp_in j (oA t))
    (k : mG E A p l e R s m args below meth c cells slots Z M (pc + 1) L (mI (mga w t i j.toNatClampNeg) :: S) w) : mG E A p l e R s m args below meth c cells slots Z M pc L (.inl j :: .inr (.inr (t, i)) :: S) w := by
  intro H locs ls hH hS hL hO
  have hok : (t, i) ∈ mRefs := mok_head (mok_tail hO)
  have hO0 := mok_tail (mok_tail hO)
  obtain ⟨pl, hpl⟩ := List.getElem?_of_mem (mRef_cell (t, i) hok ht)
  have hget := mWs_get E w hpl
  rw [mE_arr ho] at hget
  rw [List.map_cons, cv_refS (by omega)]
  exact va_iald hc.1 hc.2.1 hc.K hH.1 pl 0 hget rfl hin hd (k H locs ls hH hS hL (mok_cons trivial hO0))
theorem ms_iast (hc : mCtx E A p s m args c M) {j v : Int32} {t i : Nat} (ht : t < 30) (ho : oC t = none) (hd : decode M.2.1 pc = .ok (.iastore, 1)) (hin : vp_in j (oA t))
    (k : mG E A p l e R s m args below meth c cells slots Z M (pc + 1) L S (mpA w t i (upd (mga w t i) j.toNatClampNeg v))) : mG E A p l e R s m args below meth c cells slots Z M pc L (.inl v :: .inl j :: .inr (.inr (t, i)) :: S) w := by
  intro H locs ls hH hS hL hO
  have hok : (t, i) ∈ mRefs := mok_head (mok_tail (mok_tail hO))
  have hO0 := mok_tail (mok_tail (mok_tail hO))
  obtain ⟨pl, hpl⟩ := List.getElem?_of_mem (mRef_cell (t, i) hok ht)
  have hget := mWs_get E w hpl
  rw [mE_arr ho] at hget
  rw [List.map_cons, List.map_cons, cv_refS (by omega)]
  refine va_iast hc.1 hc.2.1 hc.K hH.1 hH.2 hS pl 0 hget rfl hin hd (fun H1 locs1 hP hD hS1 => ?_)
  have hset : (mWs E w).set pl (mAd E t i, .inl (E.2.1, oA t, .inl (upd (mga w t i) j.toNatClampNeg v))) = mWs E (mpA w t i (upd (mga w t i) j.toNatClampNeg v)) := mWs_set hpl (by rw [mE_arr ho]; simp [mga, mpA]) (fun q' hq' => mE_mpA hq')
  rw [hset] at hP hD
  exact k H1 locs1 ls ⟨hP, hD⟩ hS1 hL hO0
theorem ms_alen (hc : mCtx E A p s m args c M) {t i : Nat} (ht : t < 30) (ho : oC t = none) (hd : decode M.2.1 pc = .ok (.arraylength, 1))
    (k : mG E A p l e R s m args below meth c cells slots Z M (pc + 1) L (mI (nI (oA t)) :: S) w) : mG E A p l e R s m args below meth c cells slots Z M pc L (.inr (.inr (t, i)) :: S) w := by
  intro H locs ls hH hS hL hO
  have hok : (t, i) ∈ mRefs := mok_head hO
  have hO0 := mok_tail hO
  obtain ⟨pl, hpl⟩ := List.getElem?_of_mem (mRef_cell (t, i) hok ht)
  have hget := mWs_get E w hpl
  rw [mE_arr ho] at hget
  rw [cv_refS (by omega)]
  exact va_alen (v := nI (oA t)) hc.1 hc.2.1 hc.K hH.1 pl 0 hget (ty := .int) rfl rfl hd (k H locs ls hH hS hL (mok_cons trivial hO0))
theorem ms_bald (hc : mCtx E A p s m args c M) {j : Int32} {i : Nat} (hd : decode M.2.1 pc = .ok (.baload, 1)) (hin : vp_in j (sLen.getD i 0))
    (k : mG E A p l e R s m args below meth c cells slots Z M (pc + 1) L (mI ((sByt.getD i []).getD j.toNatClampNeg 0) :: S) w) : mG E A p l e R s m args below meth c cells slots Z M pc L (.inl j :: .inr (.inr (31, i)) :: S) w := by
  intro H locs ls hH hS hL hO
  have hok : (31, i) ∈ mRefs := mok_head (mok_tail hO)
  have hO0 := mok_tail (mok_tail hO)
  have hstr := hc.2.2.2.2.2.2.1.1 i (mRef_byt (31, i) hok rfl)
  rw [List.map_cons, cv_refS (by decide)]
  exact va_tb hc.1 hc.2.1 hstr.2.2.2 hS hin rfl hd (k H locs ls hH hS hL (mok_cons trivial hO0))
theorem ms_blen (hc : mCtx E A p s m args c M) {i : Nat} (hd : decode M.2.1 pc = .ok (.arraylength, 1))
    (k : mG E A p l e R s m args below meth c cells slots Z M (pc + 1) L (mI (nI (sLen.getD i 0)) :: S) w) : mG E A p l e R s m args below meth c cells slots Z M pc L (.inr (.inr (31, i)) :: S) w := by
  intro H locs ls hH hS hL hO
  have hok : (31, i) ∈ mRefs := mok_head hO
  have hO0 := mok_tail hO
  have hstr := hc.2.2.2.2.2.2.1.1 i (mRef_byt (31, i) hok rfl)
  rw [cv_refS (by decide)]
  exact va_tlen hc.1 hc.2.1 hstr.2.2.2 hS rfl hd (k H locs ls hH hS hL (mok_cons trivial hO0))
end MS
end
section
/-! ===== a stretch of code ===== -/
section MS
variable {E : mEnv} {A : Nat → Prop} {p : Program} {l : Launch} {e : Env} {R : Room} {s : State} {m : MethodId} {args : Array Value} {below : List Frame} {meth : Method} {c : Code} {cells slots : Nat} {Z : State → Prop} {M : mM} {pc : Nat} {L L1 : List (Option mV)} {S S1 : List mV} {w w1 : mW}
theorem ms_ldstr (hc : mCtx E A p s m args c M) {x j : Nat} (hd : decode M.2.1 pc = .ok (.ldc x, 2)) (h : sTab.any (fun q => decide (q.1 = M.1.cls) && (decide (q.2.1 = x) && decide (q.2.2.2 = j))) = true)
    (k : mG E A p l e R s m args below meth c cells slots Z M (pc + 2) L (mR 30 j :: S) w) : mG E A p l e R s m args below meth c cells slots Z M pc L S w := by
  intro H locs ls hH hS hL hO
  obtain ⟨q, hq, hb⟩ := List.any_eq_true.mp h
  simp only [Bool.and_eq_true, decide_eq_true_eq] at hb
  obtain ⟨h1, h2, h3⟩ := hb
  have hr := hc.2.2.2.2.2.2.2.1 q hq
  rw [h1, h2, h3] at hr
  have hj : ∀ z ∈ sTab, (30, z.2.2.2) ∈ mRefs := by decide
  have hjj := hj q hq
  rw [h3] at hjj
  have h9 := k H locs ls hH hS hL (mok_cons hjj hO)
  rw [cv_refS (by decide)] at h9
  exact va_ldcS hc.1 hc.2.1 hc.own hr hd h9
theorem ms_gets1 (hc : mCtx E A p s m args c M) {x : Nat} (hd : decode M.2.1 pc = .ok (.getstatic x, 3)) (h : inW (.fieldLink M.1.cls x "java/lang/String" "COMPACT_STRINGS" "Z") = true)
    (k : mG E A p l e R s m args below meth c cells slots Z M (pc + 3) L (mI 1 :: S) w) : mG E A p l e R s m args below meth c cells slots Z M pc L S w := by
  intro H locs ls hH hS hL hO
  exact va_gets hc.1 hc.2.1 hc.2.2.2.2.2.2.2.2.1 hS hc.own (hc.word h) (fun _ h => h) hd (k H locs ls hH hS hL (mok_cons trivial hO))
theorem ms_gets2 (hc : mCtx E A p s m args c M) {x : Nat} (hd : decode M.2.1 pc = .ok (.getstatic x, 3)) (h : inW (.fieldLink M.1.cls x "jdk/internal/util/Preconditions" "SIOOBE_FORMATTER" "Ljava/util/function/BiFunction;") = true)
    (k : mG E A p l e R s m args below meth c cells slots Z M (pc + 3) L (mR 32 0 :: S) w) : mG E A p l e R s m args below meth c cells slots Z M pc L S w := by
  intro H locs ls hH hS hL hO
  exact va_gets hc.1 hc.2.1 hc.2.2.2.2.2.2.2.2.2.1 hS hc.own (hc.word h) (fun _ h => h) hd (k H locs ls hH hS hL (mok_cons (by decide : (32, 0) ∈ mRefs) hO))
theorem ms_iinc (hc : mCtx E A p s m args c M) {x : Nat} {n : Int} {v y : Int32} (hd : decode M.2.1 pc = .ok (.iinc x n, 3)) (hv : Int32.ofInt n = v) (hx : L[x]? = some (some (.inl y))) (hm : mset1 L x (mI (y + v)) = some L1)
    (k : mG E A p l e R s m args below meth c cells slots Z M (pc + 3) L1 S w) : mG E A p l e R s m args below meth c cells slots Z M pc L S w := by
  intro H locs ls hH hS hL hO
  have hh := hL.has
  obtain ⟨k0, hk0⟩ := List.getElem?_of_mem (mPairs_mem (E := E) hx)
  have hlt : x < M.2.2.1 := by rw [← hL.1.2]; exact (mset1_spec hm).1.1
  refine lv_iinc (v := y + v) hc.1 hc.2.1 hd hh (k := k0) hk0 (by rw [hv]) hlt rfl (fun ls' hl' => ?_)
  exact k H locs ls' hH hS (mset1_loc hc.F hL hm trivial hl') hO
theorem mstep_ok (hc : mCtx E A p s m args c M) {i : Instr} {pay : mV} {C : Option Prop} (hd : decode M.2.1 pc = .ok (i, ilen i)) (hp : mchkP M i pay = true) (hs : mstep i pay L S w = some (C, L1, S1, w1)) (hC : ∀ z, C = some z → z)
    (k : mG E A p l e R s m args below meth c cells slots Z M (pc + ilen i) L1 S1 w1) : mG E A p l e R s m args below meth c cells slots Z M pc L S w := by
  cases i with
  | iconst n =>
    cases hs
    cases pay with
    | inr z => simp [mchkP] at hp
    | inl v => exact fun H locs ls hH hS hL hO => lv_iconst hc.1 hc.2.1 hd (of_decide_eq_true hp) (k H locs ls hH hS hL (mok_cons trivial hO))
  | bipush n =>
    cases hs
    cases pay with
    | inr z => simp [mchkP] at hp
    | inl v => exact fun H locs ls hH hS hL hO => lv_bipush hc.1 hc.2.1 hd (of_decide_eq_true hp) (k H locs ls hH hS hL (mok_cons trivial hO))
  | sipush n =>
    cases hs
    cases pay with
    | inr z => simp [mchkP] at hp
    | inl v => exact fun H locs ls hH hS hL hO => lv_sipush hc.1 hc.2.1 hd (of_decide_eq_true hp) (k H locs ls hH hS hL (mok_cons trivial hO))
  | lconst n =>
    cases hs
    rcases pay with v | v | v
    · simp [mchkP] at hp
    · exact fun H locs ls hH hS hL hO => lv_lconst hc.1 hc.2.1 hd (of_decide_eq_true hp) (k H locs ls hH hS hL (mok_cons trivial hO))
    · simp [mchkP] at hp
  | ldc x =>
    cases hs
    rcases pay with v | v | ⟨t, j⟩
    · exact fun H locs ls hH hS hL hO => lv_ldc hc.1 hc.2.1 hc.own (hc.word hp) hd (k H locs ls hH hS hL (mok_cons trivial hO))
    · simp [mchkP] at hp
    · have hp2 : decide (t = 30) = true ∧ sTab.any (fun q => decide (q.1 = M.1.cls) && (decide (q.2.1 = x) && decide (q.2.2.2 = j))) = true := by
        have h9 := hp
        unfold mchkP at h9
        exact Bool.and_eq_true_iff.mp h9
      have ht : t = 30 := of_decide_eq_true hp2.1
      subst ht
      exact ms_ldstr hc hd hp2.2 k
  | ldc_w x =>
    cases hs
    rcases pay with v | v | v
    · exact fun H locs ls hH hS hL hO => lv_ldcw hc.1 hc.2.1 hc.own (hc.word hp) hd (k H locs ls hH hS hL (mok_cons trivial hO))
    · simp [mchkP] at hp
    · simp [mchkP] at hp
  | ldc2_w x =>
    cases hs
    rcases pay with v | v | v
    · simp [mchkP] at hp
    · exact fun H locs ls hH hS hL hO => lv_ldc2 hc.1 hc.2.1 hc.own (hc.word hp) hd (k H locs ls hH hS hL (mok_cons trivial hO))
    · simp [mchkP] at hp
  | getstatic x =>
    cases hs
    rcases pay with v | v | ⟨t, j⟩
    · have h9 := hp
      unfold mchkP at h9
      obtain ⟨h1, h2⟩ := Bool.and_eq_true_iff.mp h9
      have hv : v = 1 := of_decide_eq_true h1
      subst hv
      exact ms_gets1 hc hd h2 k
    · simp [mchkP] at hp
    · have h9 := hp
      unfold mchkP at h9
      obtain ⟨h1, h2⟩ := Bool.and_eq_true_iff.mp h9
      obtain ⟨h3, h4⟩ := Bool.and_eq_true_iff.mp h1
      have ht : t = 32 := of_decide_eq_true h3
      have hj : j = 0 := of_decide_eq_true h4
      subst ht
      subst hj
      exact ms_gets2 hc hd h2 k
  | iload_n x =>
    obtain ⟨v, hv, he⟩ := mldI_spec hs
    cases he
    exact fun H locs ls hH hS hL hO => lv_iload_n hc.1 hc.2.1 hd rfl (hL.2.2 _ _ hv).2 (k H locs ls hH hS hL (mok_cons trivial hO))
  | iload x =>
    obtain ⟨v, hv, he⟩ := mldI_spec hs
    cases he
    exact fun H locs ls hH hS hL hO => lv_iload hc.1 hc.2.1 hd (hL.2.2 _ _ hv).2 (k H locs ls hH hS hL (mok_cons trivial hO))
  | lload_n x =>
    obtain ⟨v, hv, he⟩ := mldJ_spec hs
    cases he
    exact fun H locs ls hH hS hL hO => lv_lload_n hc.1 hc.2.1 hd rfl (hL.2.2 _ _ hv).2 (k H locs ls hH hS hL (mok_cons trivial hO))
  | lload x =>
    obtain ⟨v, hv, he⟩ := mldJ_spec hs
    cases he
    exact fun H locs ls hH hS hL hO => lv_lload hc.1 hc.2.1 hd (hL.2.2 _ _ hv).2 (k H locs ls hH hS hL (mok_cons trivial hO))
  | aload_n x =>
    obtain ⟨t, j, ht, hv, he⟩ := mldA_spec hs
    cases he
    intro H locs ls hH hS hL hO
    have h9 := (hL.2.2 _ _ hv).2
    rw [cv_ref ht] at h9
    have h8 := k H locs ls hH hS hL (mok_cons (hL.2.2 _ _ hv).1 hO)
    rw [cv_refS ht] at h8
    exact lv_aload_n hc.1 hc.2.1 hd rfl h9 h8
  | aload x =>
    obtain ⟨t, j, ht, hv, he⟩ := mldA_spec hs
    cases he
    intro H locs ls hH hS hL hO
    have h9 := (hL.2.2 _ _ hv).2
    rw [cv_ref ht] at h9
    have h8 := k H locs ls hH hS hL (mok_cons (hL.2.2 _ _ hv).1 hO)
    rw [cv_refS ht] at h8
    exact lv_aload hc.1 hc.2.1 hd h9 h8
  | istore_n x =>
    obtain ⟨v, S0, L0, rfl, hm, he⟩ := mstI_spec hs
    cases he
    exact fun H locs ls hH hS hL hO => lv_istore_n hc.1 hc.2.1 hd rfl hL.has (by rw [← hL.1.2]; exact (mset1_spec hm).1.1) rfl (fun ls' hl' => k H locs ls' hH hS (mset1_loc hc.F hL hm trivial hl') (mok_tail hO))
  | istore x =>
    obtain ⟨v, S0, L0, rfl, hm, he⟩ := mstI_spec hs
    cases he
    exact fun H locs ls hH hS hL hO => lv_istore hc.1 hc.2.1 hd hL.has (by rw [← hL.1.2]; exact (mset1_spec hm).1.1) rfl (fun ls' hl' => k H locs ls' hH hS (mset1_loc hc.F hL hm trivial hl') (mok_tail hO))
  | lstore_n x =>
    obtain ⟨v, S0, L0, rfl, hm, he⟩ := mstJ_spec hs
    cases he
    exact fun H locs ls hH hS hL hO => lv_lstore_n hc.1 hc.2.1 hd rfl hL.has (by rw [← hL.1.2]; exact (mset2_spec hm).1.1) rfl (fun ls' hl' => k H locs ls' hH hS (mset2_loc hc.F hL hm trivial hl') (mok_tail hO))
  | lstore x =>
    obtain ⟨v, S0, L0, rfl, hm, he⟩ := mstJ_spec hs
    cases he
    exact fun H locs ls hH hS hL hO => lv_lstore hc.1 hc.2.1 hd hL.has (by rw [← hL.1.2]; exact (mset2_spec hm).1.1) rfl (fun ls' hl' => k H locs ls' hH hS (mset2_loc hc.F hL hm trivial hl') (mok_tail hO))
  | astore_n x =>
    obtain ⟨t, j, S0, L0, ht, rfl, hm, he⟩ := mstA_spec hs
    cases he
    intro H locs ls hH hS hL hO
    rw [cv_refS ht]
    refine lv_astore_n hc.1 hc.2.1 hd rfl hL.has (by rw [← hL.1.2]; exact (mset1_spec hm).1.1) rfl (fun ls' hl' => k H locs ls' hH hS (mset1_loc hc.F hL hm (mok_head hO) ?_) (mok_tail hO))
    rw [cv_ref ht]
    exact hl'
  | astore x =>
    obtain ⟨t, j, S0, L0, ht, rfl, hm, he⟩ := mstA_spec hs
    cases he
    intro H locs ls hH hS hL hO
    rw [cv_refS ht]
    refine lv_astore hc.1 hc.2.1 hd hL.has (by rw [← hL.1.2]; exact (mset1_spec hm).1.1) rfl (fun ls' hl' => k H locs ls' hH hS (mset1_loc hc.F hL hm (mok_head hO) ?_) (mok_tail hO))
    rw [cv_ref ht]
    exact hl'
  | iinc x n =>
    simp only [mstep] at hs
    split at hs
    · rename_i v y hx
      split at hs
      · rename_i L0 hm
        cases hs
        exact ms_iinc hc hd (of_decide_eq_true hp) hx hm k
      · cases hs
    · cases hs
  | iadd =>
    simp only [mstep] at hs
    split at hs
    · cases hs
      exact fun H locs ls hH hS hL hO => lv_iadd hc.1 hc.2.1 hd (k H locs ls hH hS hL (mok_cons trivial (mok_tail (mok_tail hO))))
    · cases hs
  | isub =>
    simp only [mstep] at hs
    split at hs
    · cases hs
      exact fun H locs ls hH hS hL hO => lv_isub hc.1 hc.2.1 hd (k H locs ls hH hS hL (mok_cons trivial (mok_tail (mok_tail hO))))
    · cases hs
  | imul =>
    simp only [mstep] at hs
    split at hs
    · cases hs
      exact fun H locs ls hH hS hL hO => lv_imul hc.1 hc.2.1 hd (k H locs ls hH hS hL (mok_cons trivial (mok_tail (mok_tail hO))))
    · cases hs
  | idiv =>
    simp only [mstep] at hs
    split at hs
    · cases hs
      exact fun H locs ls hH hS hL hO => lv_idiv hc.1 hc.2.1 hd (hC _ rfl) (k H locs ls hH hS hL (mok_cons trivial (mok_tail (mok_tail hO))))
    · cases hs
  | irem =>
    simp only [mstep] at hs
    split at hs
    · cases hs
      exact fun H locs ls hH hS hL hO => lv_irem hc.1 hc.2.1 hd (hC _ rfl) (k H locs ls hH hS hL (mok_cons trivial (mok_tail (mok_tail hO))))
    · cases hs
  | iand =>
    simp only [mstep] at hs
    split at hs
    · cases hs
      exact fun H locs ls hH hS hL hO => lv_iand hc.1 hc.2.1 hd (k H locs ls hH hS hL (mok_cons trivial (mok_tail (mok_tail hO))))
    · cases hs
  | ior =>
    simp only [mstep] at hs
    split at hs
    · cases hs
      exact fun H locs ls hH hS hL hO => lv_ior hc.1 hc.2.1 hd (k H locs ls hH hS hL (mok_cons trivial (mok_tail (mok_tail hO))))
    · cases hs
  | ixor =>
    simp only [mstep] at hs
    split at hs
    · cases hs
      exact fun H locs ls hH hS hL hO => lv_ixor hc.1 hc.2.1 hd (k H locs ls hH hS hL (mok_cons trivial (mok_tail (mok_tail hO))))
    · cases hs
  | ishl =>
    simp only [mstep] at hs
    split at hs
    · cases hs
      exact fun H locs ls hH hS hL hO => lv_ishl hc.1 hc.2.1 hd (k H locs ls hH hS hL (mok_cons trivial (mok_tail (mok_tail hO))))
    · cases hs
  | ishr =>
    simp only [mstep] at hs
    split at hs
    · cases hs
      exact fun H locs ls hH hS hL hO => lv_ishr hc.1 hc.2.1 hd (k H locs ls hH hS hL (mok_cons trivial (mok_tail (mok_tail hO))))
    · cases hs
  | iushr =>
    simp only [mstep] at hs
    split at hs
    · cases hs
      exact fun H locs ls hH hS hL hO => lv_iushr hc.1 hc.2.1 hd rfl (k H locs ls hH hS hL (mok_cons trivial (mok_tail (mok_tail hO))))
    · cases hs
  | ineg =>
    simp only [mstep] at hs
    split at hs
    · cases hs
      exact fun H locs ls hH hS hL hO => lv_ineg hc.1 hc.2.1 hd (k H locs ls hH hS hL (mok_cons trivial (mok_tail hO)))
    · cases hs
  | i2l =>
    simp only [mstep] at hs
    split at hs
    · cases hs
      exact fun H locs ls hH hS hL hO => lv_i2l hc.1 hc.2.1 hd rfl (k H locs ls hH hS hL (mok_cons trivial (mok_tail hO)))
    · cases hs
  | i2b =>
    simp only [mstep] at hs
    split at hs
    · cases hs
      exact fun H locs ls hH hS hL hO => lv_i2b hc.1 hc.2.1 hd rfl (k H locs ls hH hS hL (mok_cons trivial (mok_tail hO)))
    · cases hs
  | i2c =>
    simp only [mstep] at hs
    split at hs
    · cases hs
      exact fun H locs ls hH hS hL hO => lv_i2c hc.1 hc.2.1 hd rfl (k H locs ls hH hS hL (mok_cons trivial (mok_tail hO)))
    · cases hs
  | lsub =>
    simp only [mstep] at hs
    split at hs
    · cases hs
      exact fun H locs ls hH hS hL hO => lv_lsub hc.1 hc.2.1 hd (k H locs ls hH hS hL (mok_cons trivial (mok_tail (mok_tail hO))))
    · cases hs
  | ldiv =>
    simp only [mstep] at hs
    split at hs
    · cases hs
      exact fun H locs ls hH hS hL hO => lv_ldiv hc.1 hc.2.1 hd (hC _ rfl) (k H locs ls hH hS hL (mok_cons trivial (mok_tail (mok_tail hO))))
    · cases hs
  | lrem =>
    simp only [mstep] at hs
    split at hs
    · cases hs
      exact fun H locs ls hH hS hL hO => lv_lrem hc.1 hc.2.1 hd (hC _ rfl) (k H locs ls hH hS hL (mok_cons trivial (mok_tail (mok_tail hO))))
    · cases hs
  | lcmp =>
    simp only [mstep] at hs
    split at hs
    · cases hs
      exact fun H locs ls hH hS hL hO => W.lcmp hc.1 hc.2.1 hd (k H locs ls hH hS hL (mok_cons trivial (mok_tail (mok_tail hO))))
    · cases hs
  | dup =>
    simp only [mstep] at hs
    split at hs
    · cases hs
      exact fun H locs ls hH hS hL hO => lv_dup hc.1 hc.2.1 hd rfl (k H locs ls hH hS hL (mok_cons trivial hO))
    · split at hs
      · cases hs
      · rename_i ht
        cases hs
        intro H locs ls hH hS hL hO
        have h8 := k H locs ls hH hS hL (mok_cons (mok_head hO) hO)
        rw [cv_refS ht, cv_refS ht] at h8
        rw [cv_refS ht]
        exact lv_dup hc.1 hc.2.1 hd rfl h8
    · cases hs
  | pop =>
    simp only [mstep] at hs
    split at hs
    · cases hs
      exact fun H locs ls hH hS hL hO => lv_pop hc.1 hc.2.1 hd rfl (k H locs ls hH hS hL (mok_tail hO))
    · cases hs
  | dup2 =>
    simp only [mstep] at hs
    split at hs
    · split at hs
      · cases hs
      · rename_i ht
        cases hs
        intro H locs ls hH hS hL hO
        have h8 := k H locs ls hH hS hL (mok_cons (mok_head hO) (mok_cons (mok_head (mok_tail hO)) hO))
        rw [List.map_cons, cv_refS ht, List.map_cons, cv_refS ht] at h8
        rw [List.map_cons, cv_refS ht]
        exact lv_dup2_11 hc.1 hc.2.1 hd rfl rfl h8
    · cases hs
  | getfield x => exact ms_getf hc hd hp hs k
  | putfield x => exact ms_putf hc hd hp hs hC k
  | iaload =>
    simp only [mstep] at hs
    split at hs
    · split at hs
      · cases hs
      · rename_i ht
        split at hs
        · rename_i ho
          cases hs
          exact ms_iald hc (by omega) ho hd (hC _ rfl) k
        · cases hs
    · cases hs
  | iastore =>
    simp only [mstep] at hs
    split at hs
    · split at hs
      · cases hs
      · rename_i ht
        split at hs
        · rename_i ho
          cases hs
          exact ms_iast hc (by omega) ho hd (hC _ rfl) k
        · cases hs
    · cases hs
  | baload =>
    simp only [mstep] at hs
    split at hs
    · split at hs
      · rename_i ht
        subst ht
        cases hs
        exact ms_bald hc hd (hC _ rfl) k
      · cases hs
    · cases hs
  | arraylength =>
    simp only [mstep] at hs
    split at hs
    · split at hs
      · rename_i ht
        subst ht
        cases hs
        exact ms_blen hc hd k
      · split at hs
        · cases hs
        · rename_i ht
          split at hs
          · rename_i ho
            cases hs
            exact ms_alen hc (by omega) ho hd k
          · cases hs
    · cases hs
  | _ => cases hs
theorem mrun_P {P P1 : Prop} : ∀ {is : List mB} {P : Prop} {L : List (Option mV)} {S : List mV} {w : mW}, mrun is P L S w = some (P1, L1, S1, w1) → P1 → P := by
  intro is
  induction is with
  | nil =>
    intro P L S w h hP
    simp only [mrun, Option.some.injEq, Prod.mk.injEq] at h
    rw [h.1]
    exact hP
  | cons b is ih =>
    intro P L S w h hP
    simp only [mrun] at h
    split at h
    · exact ih h hP
    · exact (ih h hP).1
    · cases h
theorem mrun_ok (hc : mCtx E A p s m args c M) {P1 : Prop} {pc1 : Nat} (hP : P1) (k : mG E A p l e R s m args below meth c cells slots Z M pc1 L1 S1 w1) : ∀ {is : List mB} {pc : Nat} {P : Prop} {L : List (Option mV)} {S : List mV} {w : mW}, mchk M pc is pc1 = true → mrun is P L S w = some (P1, L1, S1, w1) → mG E A p l e R s m args below meth c cells slots Z M pc L S w := by
  intro is
  induction is with
  | nil =>
    intro pc P L S w hk h
    simp only [mrun, Option.some.injEq, Prod.mk.injEq] at h
    obtain ⟨-, rfl, rfl, rfl⟩ := h
    have : pc = pc1 := of_decide_eq_true hk
    rw [this]
    exact k
  | cons b is ih =>
    intro pc P L S w hk h
    simp only [mchk, Bool.and_eq_true, decide_eq_true_eq] at hk
    obtain ⟨hd, hp, hk⟩ := hk
    simp only [mrun] at h
    split at h
    · rename_i hs
      exact mstep_ok hc hd hp hs (fun z hz => by cases hz) (ih hk h)
    · rename_i hs
      exact mstep_ok hc hd hp hs (fun z hz => by cases hz; exact (mrun_P (P := True) h hP).2) (ih hk h)
    · cases h
end MS
end
section
/-! ===== branches, answers, calls ===== -/
def mcnd (i : Instr) (S : List mV) : Option (Prop × List mV) := match i, S with
  | .ifCond .eq _, .inl x :: S => some (x = nI 0, S)
  | .ifCond .ne _, .inl x :: S => some (¬ x = nI 0, S)
  | .ifCond .lt _, .inl x :: S => some (x < nI 0, S)
  | .ifCond .ge _, .inl x :: S => some (nI 0 ≤ x, S)
  | .ifCond .gt _, .inl x :: S => some (nI 0 < x, S)
  | .ifCond .le _, .inl x :: S => some (x ≤ nI 0, S)
  | .if_icmp .eq _, .inl y :: .inl x :: S => some (x = y, S)
  | .if_icmp .ne _, .inl y :: .inl x :: S => some (¬ x = y, S)
  | .if_icmp .lt _, .inl y :: .inl x :: S => some (x < y, S)
  | .if_icmp .ge _, .inl y :: .inl x :: S => some (y ≤ x, S)
  | .if_icmp .gt _, .inl y :: .inl x :: S => some (y < x, S)
  | .if_icmp .le _, .inl y :: .inl x :: S => some (x ≤ y, S)
  | _, _ => none
def moff : Instr → Int
  | .ifCond _ o => o
  | .if_icmp _ o => o
  | .goto o => o
  | _ => 0
/-- a branch, a jump of three bytes, to a place -/
def mbk (M : mM) (pc : Nat) (i : Instr) (tgt : Nat) : Bool := decide (decode M.2.1 pc = .ok (i, 3)) && decide ((pc : Int) + moff i = (tgt : Int))
/-- an instruction of one byte -/
def mrk (M : mM) (pc : Nat) (i : Instr) : Bool := decide (decode M.2.1 pc = .ok (i, 1))
def mexp : List mV → List (Option mV)
  | [] => []
  | .inl x :: vs => some (.inl x) :: mexp vs
  | .inr (.inl x) :: vs => some (.inr (.inl x)) :: none :: mexp vs
  | .inr (.inr r) :: vs => some (.inr (.inr r)) :: mexp vs
def ment (n : Nat) (as : List mV) : List (Option mV) := mexp as ++ List.replicate (n - (mexp as).length) none
def mcs : List mV → Nat
  | [] => 0
  | .inr (.inl _) :: vs => 2 + mcs vs
  | _ :: vs => 1 + mcs vs
/-- what the tables say of a call of M at an entry of a class's pool -/
def mlk (own : String) (idx : Nat) (M : mM) (st : Bool) (n : Nat) : Bool :=
  inW (.methodLink own idx M.1) && (inW (.initialized M.1.cls) && (inW (.code M.1 M.2.1 M.2.2.1 M.2.2.2) && (decide ((parseMethodDescriptor M.1.desc).map (fun d => d.parameters.length) = some n) && (decide (M.1.cls ≠ "java/lang/invoke/MethodHandle" ∧ M.1.cls ≠ "java/lang/invoke/VarHandle") && (plainName M.1.cls && (decide (M.2.2.1 ≤ 19) && (if st then inW (.static M.1) else inW (.instanceMethod M.1) && inW (.selects M.1.cls M.1 M.1))))))))
def mrcv (t : Nat) : String := match oC t with
  | some (ci, _) => oN ci
  | none => if t = 30 then "java/lang/String" else ""
theorem mWs_mA {E : mEnv} {w : mW} {k : Nat} {q : Nat × va_E} (h : (mWs E w)[k]? = some q) : mA E q.1 := by
  unfold mWs at h
  rw [List.getElem?_map] at h
  cases hq : mCells[k]? with
  | none => rw [hq] at h; cases h
  | some z =>
    rw [hq] at h
    cases h
    exact ⟨z, List.mem_of_getElem? hq, rfl⟩
theorem mA_sub {E : mEnv} {A : Nat → Prop} {w : mW} (hD : va_D A (mWs E w)) : ∀ a, mA E a → A a := by
  rintro a ⟨q, hq, rfl⟩
  obtain ⟨k, hk⟩ := List.getElem?_of_mem hq
  exact hD.2 k _ (mWs_get E w hk)
theorem mHold.self {E : mEnv} {A : Nat → Prop} {w : mW} {H : Heap} (h : mHold E A w H) : mHold E (mA E) w H := ⟨h.1, h.2.weaken fun _ _ hk _ => mWs_mA hk⟩
theorem mHold.to {E : mEnv} {A : Nat → Prop} {w : mW} {H : Heap} (hA : ∀ a, mA E a → A a) (h : mHold E (mA E) w H) : mHold E A w H := ⟨h.1, h.2.weaken fun _ _ _ ha => hA _ ha⟩
theorem mStr.go {E : mEnv} {A : Nat → Prop} {s U : State} {H : Heap} {locs : List Loc} (h : mStr E A s) (hS : va_S A s.heap H locs) (hA : ∀ a, mA E a → A a) (hU : U.heap = H) (hW : s.WarmedH U.vm) : mStr E (mA E) U := by
  obtain ⟨h1, h2, h3, h4, h5⟩ := h
  refine ⟨?_, fun q hq => vk_R.warm hW (h2 q hq), ?_, ?_, h5⟩
  · rw [hU]
    exact ((h1.kept hS.2.1).narrow hA).moved hW.alike
  · rw [hU]
    exact ((h3.kept hS.2.1).narrow hA).moved hW.alike
  · rw [hU]
    exact ((h4.kept hS.2.1).narrow hA).moved hW.alike
def mPc (E : mEnv) (as : List mV) (w : mW) : Array Value → State → Prop := va_Pc (as.map (cv E)) (fun U => va_K E.1 vwCl [(E.2.1, .int)] U ∧ mStr E (mA E) U ∧ mHold E (mA E) w U.heap)
theorem mPc_blind (E : mEnv) (as : List mV) (w : mW) : FrameBlind (mPc E as w) := by
  intro a U g mk ⟨q0, qK, qS, qH⟩
  obtain ⟨h1, h2, h3, h4, h5⟩ := qS
  exact ⟨q0, va_K.moved (u := U) (U := U.calling g mk a) (Vm.Alike.refl U.vm) qK, ⟨vk_S.moved (u := U) (U := U.calling g mk a) (Vm.Alike.refl U.vm) h1, fun q hq => vk_R.same (u := U) (U := U.calling g mk a) rfl (h2 q hq), va_Z.moved (u := U) (U := U.calling g mk a) (Vm.Alike.refl U.vm) h3, va_Z.moved (u := U) (U := U.calling g mk a) (Vm.Alike.refl U.vm) h4, h5⟩, qH⟩
theorem mexp_args {E : mEnv} (hF : (E.2.2.2 = .null ∨ ∃ a, E.2.2.2 = .ref a)) : ∀ (as : List mV) (b i : Nat) (v : mV), (mexp as)[i]? = some (some v) → (b + i, cv E v) ∈ lv_args b (as.map (cv E)) ∧ v ∈ as
  | [], b, i, v, h => by simp [mexp] at h
  | .inl x :: as, b, i, v, h => by
    cases i with
    | zero =>
      simp only [mexp, List.getElem?_cons_zero, Option.some.injEq] at h
      subst h
      exact ⟨List.mem_cons_self, List.mem_cons_self⟩
    | succ i =>
      simp only [mexp, List.getElem?_cons_succ] at h
      obtain ⟨h1, h2⟩ := mexp_args hF as (b + 1) i v h
      refine ⟨List.mem_cons_of_mem _ ?_, List.mem_cons_of_mem _ h2⟩
      rw [if_neg (by show ¬ (Value.int x).category = 2; exact fun z => by cases z)]
      rw [show b + (i + 1) = b + 1 + i by omega]
      exact h1
  | .inr (.inl x) :: as, b, i, v, h => by
    match i, h with
    | 0, h =>
      simp only [mexp, List.getElem?_cons_zero, Option.some.injEq] at h
      subst h
      exact ⟨List.mem_cons_self, List.mem_cons_self⟩
    | 1, h => simp [mexp] at h
    | i + 2, h =>
      simp only [mexp, List.getElem?_cons_succ] at h
      obtain ⟨h1, h2⟩ := mexp_args hF as (b + 2) i v h
      refine ⟨List.mem_cons_of_mem _ ?_, List.mem_cons_of_mem _ h2⟩
      rw [if_pos (by show (Value.long x).category = 2; rfl)]
      rw [show b + (i + 2) = b + 2 + i by omega]
      exact h1
  | .inr (.inr r) :: as, b, i, v, h => by
    cases i with
    | zero =>
      simp only [mexp, List.getElem?_cons_zero, Option.some.injEq] at h
      subst h
      exact ⟨List.mem_cons_self, List.mem_cons_self⟩
    | succ i =>
      simp only [mexp, List.getElem?_cons_succ] at h
      obtain ⟨h1, h2⟩ := mexp_args hF as (b + 1) i v h
      refine ⟨List.mem_cons_of_mem _ ?_, List.mem_cons_of_mem _ h2⟩
      rw [if_neg (by rw [cv_cat hF]; exact fun z => by cases z)]
      rw [show b + (i + 1) = b + 1 + i by omega]
      exact h1
theorem mexp_len {E : mEnv} (hF : (E.2.2.2 = .null ∨ ∃ a, E.2.2.2 = .ref a)) : ∀ (as : List mV), (lg_sl (as.map (cv E))).length = (mexp as).length
  | [] => rfl
  | .inl x :: as => by
    have h := mexp_len hF as
    unfold lg_sl at h ⊢
    rw [List.map_cons, List.flatMap_cons, List.length_append, h, if_neg (by rw [cv_cat hF]; exact fun z => by cases z)]
    simp [mexp]; omega
  | .inr (.inl x) :: as => by
    have h := mexp_len hF as
    unfold lg_sl at h ⊢
    rw [List.map_cons, List.flatMap_cons, List.length_append, h, if_pos (by rw [cv_cat hF])]
    simp [mexp]; omega
  | .inr (.inr r) :: as => by
    have h := mexp_len hF as
    unfold lg_sl at h ⊢
    rw [List.map_cons, List.flatMap_cons, List.length_append, h, if_neg (by rw [cv_cat hF]; exact fun z => by cases z)]
    simp [mexp]; omega
theorem ment_loc {E : mEnv} (hF : (E.2.2.2 = .null ∨ ∃ a, E.2.2.2 = .ref a)) {as : List mV} {n : Nat} (hn : (mexp as).length ≤ n) (hok : ∀ v ∈ as, mOk v) : mLoc E ((lg_sl (as.map (cv E)) ++ List.replicate (n - (lg_sl (as.map (cv E))).length) Slot.unset).toArray) n (ment n as) := by
  have hl := lv_entry (as.map (cv E)) (n := n) (by rw [mexp_len hF]; exact hn)
  refine ⟨⟨hl.1, by unfold ment; simp; omega⟩, hl.2.1, fun i v hi => ?_⟩
  have hi2 : (mexp as)[i]? = some (some v) := by
    unfold ment at hi
    by_cases h : i < (mexp as).length
    · rw [List.getElem?_append_left h] at hi
      exact hi
    · rw [List.getElem?_append_right (by omega)] at hi
      have := List.mem_of_getElem? hi
      have := List.eq_of_mem_replicate this
      cases this
  obtain ⟨h1, h2⟩ := mexp_args (E := E) hF as 0 i v hi2
  rw [Nat.zero_add] at h1
  exact ⟨hok v h2, hl.2.2 _ h1⟩
theorem GW_good : ∀ w ∈ GW, w ∈ GW ∧ ((w.onTables && w.keeps) = true ∨ ∃ ty, w = .arrayClass ty) := fun w h => ⟨h, good_of_word (List.mem_filter.mp h).2⟩
theorem Ev.met {l : Launch} {d : Nat} {M : mM} {as : List mV} {w : mW} {Q : Option mV → mW → Prop} (h : Ev l d M 0 (ment M.2.2.1 as) [] w Q) (hy : plainName M.1.cls = true) (hn : (mexp as).length ≤ M.2.2.1) (hok : ∀ v ∈ as, mOk v) (E : mEnv) :
    Met l M.1 (.code M.1 M.2.1 M.2.2.1 M.2.2.2 :: GW) (mRm d) (mPc E as w) (mQc E Q) 0 0 (mA E) := by
  refine Met.ofW (cc := M.2.1) (maxL := M.2.2.1) (ret := M.2.2.2) hy rfl ?_
  intro p e s m args below meth c s₁ B hml hv
  obtain ⟨rfl, hK, hStr, hH⟩ := hv
  have hts := atoms_spec (ws := .code M.1 M.2.1 M.2.2.1 M.2.2.2 :: GW) B.pre
  have hown : s.vm.findClass M.1.cls = some m.cls := findClass_of_methodNamed B.named
  rw [lg_entry_eq]
  exact h E p e s m _ below meth c ⟨B.exec, B.bytes, hml, hown, fun w hw => hts w (List.mem_cons_of_mem _ hw), hK, hStr⟩ B.notSynchronized B.returns s.heap [] _ hH va_S.rf (ment_loc hStr.2.2.2.2 hn hok) (fun v hv => by cases hv)
section MC
variable {E : mEnv} {A : Nat → Prop} {p : Program} {l : Launch} {e : Env} {R : Room} {s : State} {m : MethodId} {args : Array Value} {below : List Frame} {meth : Method} {c : Code} {cells slots : Nat} {Z : State → Prop} {M : mM} {pc : Nat} {L : List (Option mV)} {S : List mV} {w : mW}
theorem mbr_ok (hc : mCtx E A p s m args c M) {i : Instr} {tgt : Nat} {C : Prop} {S0 : List mV} (hk : mbk M pc i tgt = true) (hb : mcnd i S = some (C, S0))
    (kt : C → mG E A p l e R s m args below meth c cells slots Z M tgt L S0 w) (kf : ¬ C → mG E A p l e R s m args below meth c cells slots Z M (pc + 3) L S0 w) : mG E A p l e R s m args below meth c cells slots Z M pc L S w := by
  unfold mbk at hk
  simp only [Bool.and_eq_true, decide_eq_true_eq] at hk
  obtain ⟨hd, ht⟩ := hk
  intro H locs ls hH hS hL hO
  unfold mcnd at hb
  split at hb
  all_goals first
    | (cases hb; exact lv_if_eq hc.1 hc.2.1 hd ht (fun h => kt h H locs ls hH hS hL (mok_tail hO)) (fun h => kf h H locs ls hH hS hL (mok_tail hO)))
    | (cases hb; exact lv_if_ne hc.1 hc.2.1 hd ht (fun h => kt h H locs ls hH hS hL (mok_tail hO)) (fun h => kf (fun z => z h) H locs ls hH hS hL (mok_tail hO)))
    | (cases hb; exact lv_if_lt hc.1 hc.2.1 hd ht (fun h => kt h H locs ls hH hS hL (mok_tail hO)) (fun h => kf h H locs ls hH hS hL (mok_tail hO)))
    | (cases hb; exact lv_if_ge hc.1 hc.2.1 hd ht (fun h => kt h H locs ls hH hS hL (mok_tail hO)) (fun h => kf h H locs ls hH hS hL (mok_tail hO)))
    | (cases hb; exact lv_if_gt hc.1 hc.2.1 hd ht (fun h => kt h H locs ls hH hS hL (mok_tail hO)) (fun h => kf h H locs ls hH hS hL (mok_tail hO)))
    | (cases hb; exact lv_if_le hc.1 hc.2.1 hd ht (fun h => kt h H locs ls hH hS hL (mok_tail hO)) (fun h => kf h H locs ls hH hS hL (mok_tail hO)))
    | (cases hb; exact lv_icmp_eq hc.1 hc.2.1 hd ht (fun h => kt h H locs ls hH hS hL (mok_tail (mok_tail hO))) (fun h => kf h H locs ls hH hS hL (mok_tail (mok_tail hO))))
    | (cases hb; exact lv_icmp_ne hc.1 hc.2.1 hd ht (fun h => kt h H locs ls hH hS hL (mok_tail (mok_tail hO))) (fun h => kf (fun z => z h) H locs ls hH hS hL (mok_tail (mok_tail hO))))
    | (cases hb; exact lv_icmp_lt hc.1 hc.2.1 hd ht (fun h => kt h H locs ls hH hS hL (mok_tail (mok_tail hO))) (fun h => kf h H locs ls hH hS hL (mok_tail (mok_tail hO))))
    | (cases hb; exact lv_icmp_ge hc.1 hc.2.1 hd ht (fun h => kt h H locs ls hH hS hL (mok_tail (mok_tail hO))) (fun h => kf h H locs ls hH hS hL (mok_tail (mok_tail hO))))
    | (cases hb; exact lv_icmp_gt hc.1 hc.2.1 hd ht (fun h => kt h H locs ls hH hS hL (mok_tail (mok_tail hO))) (fun h => kf h H locs ls hH hS hL (mok_tail (mok_tail hO))))
    | (cases hb; exact lv_icmp_le hc.1 hc.2.1 hd ht (fun h => kt h H locs ls hH hS hL (mok_tail (mok_tail hO))) (fun h => kf h H locs ls hH hS hL (mok_tail (mok_tail hO))))
    | cases hb
theorem mjmp_ok (hc : mCtx E A p s m args c M) {o : Int} {tgt : Nat} (hk : mbk M pc (.goto o) tgt = true) (k : mG E A p l e R s m args below meth c cells slots Z M tgt L S w) : mG E A p l e R s m args below meth c cells slots Z M pc L S w := by
  unfold mbk at hk
  simp only [Bool.and_eq_true, decide_eq_true_eq] at hk
  exact fun H locs ls hH hS hL hO => lv_goto hc.1 hc.2.1 hk.1 hk.2 (k H locs ls hH hS hL hO)
theorem mcs_sum (hF : (E.2.2.2 = .null ∨ ∃ a, E.2.2.2 = .ref a)) : ∀ (S : List mV), ((S.map (cv E)).map fun v => v.category).sum = mcs S
  | [] => rfl
  | .inl x :: S => by rw [List.map_cons, List.map_cons, List.sum_cons, mcs_sum hF S, cv_cat hF]; rfl
  | .inr (.inl x) :: S => by rw [List.map_cons, List.map_cons, List.sum_cons, mcs_sum hF S, cv_cat hF]; rfl
  | .inr (.inr r) :: S => by rw [List.map_cons, List.map_cons, List.sum_cons, mcs_sum hF S, cv_cat hF]; rfl
/-- behind a call -/
theorem mcalled {H : Heap} {locs : List Loc} {ls : Array Slot} {st0 rest : List Value} {Q : Option mV → mW → Prop} {a : Array Value} (hr : va_Run p l e R s m args below meth c H locs cells slots 0 0 (F0 m pc ls st0) rest (mQc E Q a) (mA E)) (hS : va_S A s.heap H locs) (hA : ∀ a, mA E a → A a)
    (kk : ∀ (r : Option mV) (u : mW) (H1 : Heap) (locs1 : List Loc), (∀ v, r = some v → mOk v) → Q r u → mHold E (mA E) u H1 → va_S A s.heap H1 locs1 → W p l e R s m args below meth c H1 locs1 cells slots Z (F0 m (pc + 3) ls ((r.map (cv E)).toList ++ rest))) : W p l e R s m args below meth c H locs cells slots Z (F0 m pc ls st0) := by
  intro T hT X
  obtain ⟨v, st₀, t, T', L9, h0, X', hL, e1, e2, ⟨⟨r, u, hv, hok, hq, hh⟩, hz, hk⟩, st⟩ := hr T hT X
  cases hv
  rw [h0] at hz hk
  obtain ⟨t2, a1, b1⟩ := kk r u T'.heap (locs ++ L9) hok hq (by rw [e1]; exact hh)
    ⟨Nat.le_trans hS.1 (by rw [e1]; exact hz), fun q h1 h2 => by rw [e1, hk q (Nat.lt_of_lt_of_le h1 hS.1) (fun z => h2 (hA q z))]; exact hS.2.1 q h1 h2, fun q hq => by
      rcases List.mem_append.mp hq with h | h
      · exact hS.2.2 q h
      · exact hA _ (hL q h)⟩ T' rfl X'
  exact ⟨t2, st t2 a1, b1⟩
theorem mlk_B (hc : mCtx E A p s m args c M) {M1 : mM} {idx n d : Nat} {st : Bool} (h : mlk M.1.cls idx M1 st n = true) (hR : d + 1 ≤ R.frames ∧ 38 * d + 38 ≤ R.locals) : CallB R s args M.1.cls idx M1.1 M1.2.1 M1.2.2.1 M1.2.2.2 (.code M1.1 M1.2.1 M1.2.2.1 M1.2.2.2 :: GW) (mRm d) 0 0 n := by
  unfold mlk at h
  simp only [Bool.and_eq_true, decide_eq_true_eq] at h
  obtain ⟨h1, h2, h3, h4, h5, h6, h7, h8⟩ := h
  have hg : GoodIn GW (.code M1.1 M1.2.1 M1.2.2.1 M1.2.2.2 :: GW) := by
    intro w hw
    rcases List.mem_cons.mp hw with rfl | hw
    · exact GW_good _ (inW_ok h3)
    · exact GW_good w hw
  exact callB_of n hc.ts hg rfl rfl rfl (hc.word h2) (hc.word h1) ⟨h5.1, h5.2, h4⟩ ⟨hR.1, by show 8 + (M1.2.2.1 + 11) + 38 * d ≤ R.locals; omega⟩
theorem mr_list (r : Option mV) (S : List mV) : (r.map (cv E)).toList ++ S.map (cv E) = (r.toList ++ S).map (cv E) := by cases r <;> rfl
theorem mcallS_ok (hc : mCtx E A p s m args c M) {M1 : mM} {idx n d : Nat} {as : List mV} {Q : Option mV → mW → Prop} (hd : decode M.2.1 pc = .ok (.invokestatic idx, 3)) (hl : mlk M.1.cls idx M1 true n = true) (hn : as.length = n) (hent : (mexp as).length ≤ M1.2.2.1) (hst : mcs S ≤ 8) (hR : d + 1 ≤ R.frames ∧ 38 * d + 38 ≤ R.locals) (hcs : cells ≤ R.cells ∧ slots ≤ R.slots)
    (hE : Ev l d M1 0 (ment M1.2.2.1 as) [] w Q) (k : ∀ r u, Q r u → mG E A p l e R s m args below meth c cells slots Z M (pc + 3) L (r.toList ++ S) u) : mG E A p l e R s m args below meth c cells slots Z M pc L (as.reverse ++ S) w := by
  intro H locs ls hH hS hL hO
  have hB := mlk_B (R := R) hc hl hR
  unfold mlk at hl
  simp only [Bool.and_eq_true, decide_eq_true_eq, if_true] at hl
  obtain ⟨h1, h2, h3, h4, h5, h6, h7, h8⟩ := hl
  have hA := mA_sub hH.2
  have hok : ∀ v ∈ as, mOk v := fun v hv => hO v (List.mem_append_left _ (List.mem_reverse.mpr hv))
  have hO0 : ∀ v ∈ S, mOk v := fun v hv => hO v (List.mem_append_right _ hv)
  have hM := hE.met h6 hent hok E
  refine mcalled (Q := Q) (rest := S.map (cv E)) (va_runS (As := as.map (cv E)) (rest := S.map (cv E)) (cc := M.2.1) (Ts := GW) ⟨hc.1, hc.2.1, hc.2.2.1, hc.own, hc.ts⟩ hM ⟨hB, hc.word h8⟩ ⟨mPc_blind E as w, fun U hU hW => ⟨rfl, va_K.moved hW.alike hc.K, mStr.go hc.2.2.2.2.2.2 hS hA hU hW, by rw [hU]; exact hH.self⟩⟩ rfl (by rw [List.length_map]; exact hn) hL.1.1 (by show (as.reverse ++ S).map (cv E) = _; rw [List.map_append, List.map_reverse]) (lv_room (by rw [mcs_sum hc.F]; exact hst)) hd ⟨hcs.1, hcs.2⟩) hS hA (fun r u H1 locs1 hrok hq hh hS1 => ?_)
  rw [mr_list]
  exact k r u hq H1 locs1 ls (hh.to hA) hS1 hL (fun v hv => by
    rcases List.mem_append.mp hv with h | h
    · cases r with
      | none => cases h
      | some z =>
        have : v = z := by simpa using h
        exact this ▸ hrok z rfl
    · exact hO0 v h)
theorem mrcv_ok (hc : mCtx E A p s m args c M) {H : Heap} {locs : List Loc} {t i : Nat} {C : String} (hH : mHold E A w H) (hS : va_S A s.heap H locs) (ho : (t, i) ∈ mRefs) (ht : mrcv t = C) (hC : C ≠ "") : t ≠ 32 ∧ ∃ cell : Cell, H[mAd E t i]? = some cell ∧ cell.vm.isStatics = false ∧ s.vm.findClass C = some cell.cls := by
  unfold mrcv at ht
  cases hoc : oC t with
  | some q =>
    obtain ⟨ci, n⟩ := q
    rw [hoc] at ht
    subst ht
    obtain ⟨hc4, rfl⟩ := oC_F hoc
    have hlt : t < 30 := mRef_obj (t, i) ho (by rw [hoc]; exact fun z => by cases z)
    obtain ⟨pl, hpl⟩ := List.getElem?_of_mem (mRef_cell (t, i) ho hlt)
    have hget := mWs_get E w hpl
    rw [mE_obj hoc] at hget
    exact ⟨by omega, va_recv hc.K hH.1 (oTab hc4).1 hget⟩
  | none =>
    rw [hoc] at ht
    by_cases h30 : t = 30
    · subst h30
      simp only [if_true] at ht
      subst ht
      exact ⟨by decide, va_Orecv (hc.2.2.2.2.2.2.1.1 i (mRef_str (30, i) ho rfl)).1 hS⟩
    · simp only [h30, if_false] at ht
      exact absurd ht.symm hC
theorem mcallV_ok (hc : mCtx E A p s m args c M) {M1 : mM} {idx n d t i : Nat} {as : List mV} {Q : Option mV → mW → Prop} (hd : decode M.2.1 pc = .ok (.invokevirtual idx, 3)) (hl : mlk M.1.cls idx M1 false n = true) (ht : mrcv t = M1.1.cls) (hC : M1.1.cls ≠ "") (hn : as.length = n) (hent : (mexp (mR t i :: as)).length ≤ M1.2.2.1) (hst : mcs S ≤ 8) (hR : d + 1 ≤ R.frames ∧ 38 * d + 38 ≤ R.locals) (hcs : cells ≤ R.cells ∧ slots ≤ R.slots)
    (hE : Ev l d M1 0 (ment M1.2.2.1 (mR t i :: as)) [] w Q) (k : ∀ r u, Q r u → mG E A p l e R s m args below meth c cells slots Z M (pc + 3) L (r.toList ++ S) u) : mG E A p l e R s m args below meth c cells slots Z M pc L (as.reverse ++ mR t i :: S) w := by
  intro H locs ls hH hS hL hO
  have hB := mlk_B (R := R) hc hl hR
  unfold mlk at hl
  simp only [Bool.and_eq_true, decide_eq_true_eq, Bool.false_eq_true, if_false] at hl
  obtain ⟨h1, h2, h3, h4, h5, h6, h7, h8, h9⟩ := hl
  have hA := mA_sub hH.2
  have hO1 : ∀ v ∈ mR t i :: S, mOk v := fun v hv => hO v (List.mem_append_right _ hv)
  have hok : ∀ v ∈ mR t i :: as, mOk v := mok_cons (mok_head hO1) (fun v hv => hO v (List.mem_append_left _ (List.mem_reverse.mpr hv)))
  have hO0 : ∀ v ∈ S, mOk v := mok_tail hO1
  have hM := hE.met h6 hent hok E
  obtain ⟨ht32, hrc⟩ := mrcv_ok hc hH hS (mok_head hO1) ht hC
  refine mcalled (Q := Q) (rest := S.map (cv E)) (va_runV (C := M1.1.cls) (b := mAd E t i) (As := as.map (cv E)) (rest := S.map (cv E)) (cc := M.2.1) (Ts := GW) ⟨hc.1, hc.2.1, hc.2.2.1, hc.own, hc.ts⟩ hM ⟨hB, hc.word h8, hc.word h9⟩ ⟨mPc_blind E _ w, hrc, fun U hU hW => ⟨by rw [List.map_cons, cv_ref ht32], va_K.moved hW.alike hc.K, mStr.go hc.2.2.2.2.2.2 hS hA hU hW, by rw [hU]; exact hH.self⟩⟩ rfl (by rw [List.length_map]; exact hn) hL.1.1 (by show (as.reverse ++ mR t i :: S).map (cv E) = _; rw [List.map_append, List.map_reverse, cv_refS ht32]) (lv_room (by rw [mcs_sum hc.F]; exact hst)) hd ⟨hcs.1, hcs.2⟩) hS hA (fun r u H1 locs1 hrok hq hh hS1 => ?_)
  rw [mr_list]
  exact k r u hq H1 locs1 ls (hh.to hA) hS1 hL (fun v hv => by
    rcases List.mem_append.mp hv with h | h
    · cases r with
      | none => cases h
      | some z =>
        have : v = z := by simpa using h
        exact this ▸ hrok z rfl
    · exact hO0 v h)
end MC
end
section
/-! ===== the rules of a method's frame ===== -/
section EV
variable {l : Launch} {d d1 : Nat} {M M1 : mM} {pc pc1 tgt idx n : Nat} {L L1 : List (Option mV)} {S S1 S0 : List mV} {w w1 : mW} {Q Q1 : Option mV → mW → Prop} {is : List mB} {P1 C : Prop} {i : Instr}
theorem Ev.blk (hk : mchk M pc is pc1 = true) (hr : mrun is True L S w = some (P1, L1, S1, w1)) (hP : P1) (k : Ev l d M pc1 L1 S1 w1 Q) : Ev l d M pc L S w Q :=
  fun E p e s m args below meth c hc hlk hrt => mrun_ok hc hP (k E p e s m args below meth c hc hlk hrt) hk hr
theorem Ev.br (hk : mbk M pc i tgt = true) (hb : mcnd i S = some (C, S0)) (kt : C → Ev l d M tgt L S0 w Q) (kf : ¬ C → Ev l d M (pc + 3) L S0 w Q) : Ev l d M pc L S w Q :=
  fun E p e s m args below meth c hc hlk hrt => mbr_ok hc hk hb (fun h => kt h E p e s m args below meth c hc hlk hrt) (fun h => kf h E p e s m args below meth c hc hlk hrt)
theorem Ev.jmp {o : Int} (hk : mbk M pc (.goto o) tgt = true) (k : Ev l d M tgt L S w Q) : Ev l d M pc L S w Q :=
  fun E p e s m args below meth c hc hlk hrt => mjmp_ok hc hk (k E p e s m args below meth c hc hlk hrt)
/-- a stretch, then a branch -/
theorem Ev.bb (hk : mchk M pc is pc1 = true) (hk2 : mbk M pc1 i tgt = true) (hr : mrun is True L S w = some (P1, L1, S1, w1)) (hb : mcnd i S1 = some (C, S0)) (hP : P1) (kt : C → Ev l d M tgt L1 S0 w1 Q) (kf : ¬ C → Ev l d M (pc1 + 3) L1 S0 w1 Q) : Ev l d M pc L S w Q :=
  Ev.blk hk hr hP (Ev.br hk2 hb kt kf)
theorem Ev.bj {o : Int} (hk : mchk M pc is pc1 = true) (hk2 : mbk M pc1 (.goto o) tgt = true) (hr : mrun is True L S w = some (P1, L1, S1, w1)) (hP : P1) (k : Ev l d M tgt L1 S1 w1 Q) : Ev l d M pc L S w Q :=
  Ev.blk hk hr hP (Ev.jmp hk2 k)
theorem Ev.iret {ty : FieldType} {v : Int32} (hk : mrk M pc .ireturn = true) (hty : M.2.2.2 = some ty) (hn : narrow ty (.int v) = .int v) (hq : Q (some (mI v)) w) : Ev l d M pc L [mI v] w Q :=
  fun E p e s m args below meth c hc hlk hrt H locs ls hH hS hL hO => W.zret (v := v) (ty := ty) hc.1 hc.2.1 (hrt.trans hty) hn (fun t ht hW => ⟨⟨some (mI v), w, rfl, (fun z hz => by cases hz; trivial), hq, by rw [ht]; exact hH⟩, hS.F ht⟩) hS.2.2 (of_decide_eq_true hk) hlk
theorem Ev.lret {v : Int64} (hk : mrk M pc .lreturn = true) (hty : M.2.2.2 = some .long) (hq : Q (some (mJ v)) w) : Ev l d M pc L [mJ v] w Q :=
  fun E p e s m args below meth c hc hlk hrt H locs ls hH hS hL hO => W.lret (v := v) hc.1 hc.2.1 (hrt.trans hty) (fun t ht hW => ⟨⟨some (mJ v), w, rfl, (fun z hz => by cases hz; trivial), hq, by rw [ht]; exact hH⟩, hS.F ht⟩) hS.2.2 (of_decide_eq_true hk) hlk
theorem Ev.vret (hk : mrk M pc .return_ = true) (hty : M.2.2.2 = none) (hq : Q none w) : Ev l d M pc L [] w Q :=
  fun E p e s m args below meth c hc hlk hrt H locs ls hH hS hL hO => W.vret hc.1 hc.2.1 (hrt.trans hty) (fun t ht hW => ⟨⟨none, w, rfl, (fun z hz => by cases hz), hq, by rw [ht]; exact hH⟩, hS.F ht⟩) hS.2.2 (of_decide_eq_true hk) hlk
theorem Ev.aret {t j : Nat} {nm : String} (hk : mrk M pc .areturn = true) (ht32 : t ≠ 32) (hty : M.2.2.2 = some (.object nm)) (hq : Q (some (mR t j)) w) : Ev l d M pc L [mR t j] w Q := by
  intro E p e s m args below meth c hc hlk hrt H locs ls hH hS hL hO
  rw [cv_refS ht32]
  exact W.aret (v := .ref (mAd E t j)) hc.1 hc.2.1 (hrt.trans hty) (Or.inl ⟨nm, rfl⟩) (Or.inr ⟨_, rfl⟩) (fun t0 ht hW => ⟨⟨some (mR t j), w, (by rw [Option.map_some, cv_ref ht32]), (fun z hz => by cases hz; exact mok_head hO), hq, by rw [ht]; exact hH⟩, hS.F ht⟩) hS.2.2 (of_decide_eq_true hk) hlk
/-- a call, with the contract of the method that is called -/
abbrev Cl (l : Launch) (d : Nat) (M : mM) (as : List mV) (w : mW) (Q : Option mV → mW → Prop) : Prop := Ev l d M 0 (ment M.2.2.1 as) [] w Q
/-- an instruction of three bytes -/
def mdk (M : mM) (pc : Nat) (i : Instr) : Bool := decide (decode M.2.1 pc = .ok (i, 3))
theorem Ev.calS {as : List mV} (hk : mdk M pc (.invokestatic idx) = true) (hl : mlk M.1.cls idx M1 true n = true) (hS : S = as.reverse ++ S0) (hn : as.length = n ∧ (mexp as).length ≤ M1.2.2.1 ∧ mcs S0 ≤ 8) (hd : d1 + 1 ≤ d) (hE : Cl l d1 M1 as w Q1) (k : ∀ r u, Q1 r u → Ev l d M (pc + 3) L (r.toList ++ S0) u Q) : Ev l d M pc L S w Q := by
  subst hS
  have hk := of_decide_eq_true hk
  intro E p e s m args below meth c hc hlk hrt
  exact mcallS_ok hc hk hl hn.1 hn.2.1 hn.2.2 ⟨hd, by show 38 * d1 + 38 ≤ 38 * d; omega⟩ ⟨Nat.zero_le _, Nat.zero_le _⟩ hE (fun r u hq => k r u hq E p e s m args below meth c hc hlk hrt)
theorem Ev.calV {as : List mV} {t j : Nat} (hk : mdk M pc (.invokevirtual idx) = true) (hl : mlk M.1.cls idx M1 false n = true) (hS : S = as.reverse ++ mR t j :: S0) (ht : mrcv t = M1.1.cls) (hC : M1.1.cls ≠ "") (hn : as.length = n ∧ (mexp (mR t j :: as)).length ≤ M1.2.2.1 ∧ mcs S0 ≤ 8) (hd : d1 + 1 ≤ d) (hE : Cl l d1 M1 (mR t j :: as) w Q1) (k : ∀ r u, Q1 r u → Ev l d M (pc + 3) L (r.toList ++ S0) u Q) : Ev l d M pc L S w Q := by
  subst hS
  have hk := of_decide_eq_true hk
  intro E p e s m args below meth c hc hlk hrt
  exact mcallV_ok hc hk hl ht hC hn.1 hn.2.1 hn.2.2 ⟨hd, by show 38 * d1 + 38 ≤ 38 * d; omega⟩ ⟨Nat.zero_le _, Nat.zero_le _⟩ hE (fun r u hq => k r u hq E p e s m args below meth c hc hlk hrt)
theorem Ev.mono {Q2 : Option mV → mW → Prop} (h : Ev l d M pc L S w Q) (hQ : ∀ r u, Q r u → Q2 r u) : Ev l d M pc L S w Q2 := by
  intro E p e s m args below meth c hc hlk hrt H locs ls hH hS hL hO T hT X
  obtain ⟨t, h1, o, b1, b2, b3, b4⟩ := h E p e s m args below meth c hc hlk hrt H locs ls hH hS hL hO T hT X
  obtain ⟨⟨r, u, c1, c2, c3, c4⟩, c5⟩ := b3
  exact ⟨t, h1, o, b1, b2, ⟨⟨r, u, c1, c2, hQ r u c3, c4⟩, c5⟩, b4⟩
/-- the row of a switch -/
def mswo (i : Instr) (x : Int32) : Int := match i with
  | .tableswitch dflt lo hi offs => if x.toInt < lo ∨ hi < x.toInt then dflt else (offs[(x.toInt - lo).toNat]?).getD 0
  | .lookupswitch dflt ps => Op.lookupswitch.offset ps.toList dflt x.toInt
  | _ => 0
def mswk (M : mM) (pc : Nat) (i : Instr) (len : Nat) : Bool := decide (decode M.2.1 pc = .ok (i, len)) && (match i with
  | .tableswitch _ lo hi offs => decide (offs.size = (hi - lo + 1).toNat) && decide (lo ≤ hi)
  | .lookupswitch _ ps => (ps.toList.zip (ps.toList.drop 1)).all (fun (a, next) => a.1 < next.1)
  | _ => false)
theorem Ev.sw {len : Nat} {x : Int32} {off : Int} (hk : mswk M pc i len = true) (hx : mswo i x = off) (ht : (pc : Int) + off = (tgt : Int)) (k : Ev l d M tgt L S w Q) : Ev l d M pc L (.inl x :: S) w Q := by
  intro E p e s m args below meth c hc hlk hrt H locs ls hH hS hL hO
  unfold mswk at hk
  simp only [Bool.and_eq_true, decide_eq_true_eq] at hk
  obtain ⟨hd, hk⟩ := hk
  have h9 := k E p e s m args below meth c hc hlk hrt H locs ls hH hS hL (mok_tail hO)
  split at hk
  · rename_i dflt lo hi offs
    simp only [Bool.and_eq_true, decide_eq_true_eq] at hk
    unfold mswo at hx
    dsimp only at hx
    by_cases hr : x.toInt < lo ∨ hi < x.toInt
    · rw [if_pos hr] at hx
      exact lv_tableOut hc.1 hc.2.1 hd hr (by rw [hx]; exact ht) h9
    · rw [if_neg hr] at hx
      have hlt : (x.toInt - lo).toNat < offs.size := by rw [hk.1]; omega
      have hg : offs[(x.toInt - lo).toNat]? = some off := by
        rw [Array.getElem?_eq_getElem hlt] at hx ⊢
        simpa using hx
      exact lv_tableIn hc.1 hc.2.1 hd (fun z => hr (Or.inl z)) (fun z => hr (Or.inr z)) hg ht h9
  · rename_i dflt ps
    exact lv_lookup hc.1 hc.2.1 hd hk hx ht h9
  · cases hk
/-- Math.max and Math.min, which the machine has of its own -/
def mmk (own : String) (idx : Nat) (y : MethodName) (cc : ByteArray) : Bool := inW (.methodLink own idx y) && (inW (.static y) && (inW (.initialized "java/lang/Math") && inW (.code y cc 2 (some .int))))
def imx (x y : Int32) : Int32 := if x < y then y else x
def imn (x y : Int32) : Int32 := if y < x then y else x
theorem Ev.mmax {x y : Int32} (hk : mdk M pc (.invokestatic idx) = true) (hl : mmk M.1.cls idx Lib.Math.max.name Lib.Math.max.code = true) (hd : 1 ≤ d) (hst : mcs S ≤ 8) (k : Ev l d M (pc + 3) L (mI (imx x y) :: S) w Q) : Ev l d M pc L (mI y :: mI x :: S) w Q := by
  have hk := of_decide_eq_true hk
  unfold mmk at hl
  simp only [Bool.and_eq_true] at hl
  intro E p e s m args below meth c hc hlk hrt H locs ls hH hS hL hO
  exact va_mmax hc.1 hc.2.1 (hc.2.2.1.trans hL.1.1.symm) hc.own (hc.word hl.1) (hc.word hl.2.1) (hc.word hl.2.2.1) (hc.word hl.2.2.2) hd (by rw [mcs_sum hc.F]; show mcs S + 13 ≤ 38 * d; omega) (Nat.zero_le _) (Nat.zero_le _) hk (k E p e s m args below meth c hc hlk hrt H locs ls hH hS hL (mok_cons trivial (mok_tail (mok_tail hO))))
theorem Ev.mmin {x y : Int32} (hk : mdk M pc (.invokestatic idx) = true) (hl : mmk M.1.cls idx Lib.Math.min.name Lib.Math.min.code = true) (hd : 1 ≤ d) (hst : mcs S ≤ 8) (k : Ev l d M (pc + 3) L (mI (imn x y) :: S) w Q) : Ev l d M pc L (mI y :: mI x :: S) w Q := by
  have hk := of_decide_eq_true hk
  unfold mmk at hl
  simp only [Bool.and_eq_true] at hl
  intro E p e s m args below meth c hc hlk hrt H locs ls hH hS hL hO
  exact va_mmin hc.1 hc.2.1 (hc.2.2.1.trans hL.1.1.symm) hc.own (hc.word hl.1) (hc.word hl.2.1) (hc.word hl.2.2.1) (hc.word hl.2.2.2) hd (by rw [mcs_sum hc.F]; show mcs S + 13 ≤ 38 * d; omega) (Nat.zero_le _) (Nat.zero_le _) hk (k E p e s m args below meth c hc hlk hrt H locs ls hH hS hL (mok_cons trivial (mok_tail (mok_tail hO))))
/-- System.arraycopy of ints -/
theorem Ev.acp {sp dp nn : Int32} {ts is0 td id0 : Nat} (hk0 : mdk M pc (.invokestatic idx) = true) (hk : (inW (.methodLink M.1.cls idx arraycopyName) && (inW (.native arraycopyName) && (inW (.static arraycopyName) && inW (.initialized "java/lang/System")))) = true) (h1 : ts < 30 ∧ td < 30 ∧ oC ts = none ∧ oC td = none) (h2 : ¬ sp < 0 ∧ ¬ dp < 0 ∧ ¬ nn < 0 ∧ sp.toNatClampNeg + nn.toNatClampNeg ≤ oA ts ∧ dp.toNatClampNeg + nn.toNatClampNeg ≤ oA td) (hd : 1 ≤ d) (hst : mcs S ≤ 8)
    (k : Ev l d M (pc + 3) L S (mpA w td id0 (va_cpy (mga w ts is0) (mga w td id0) sp.toNatClampNeg dp.toNatClampNeg nn.toNatClampNeg)) Q) : Ev l d M pc L (mI nn :: mI dp :: mR td id0 :: mI sp :: mR ts is0 :: S) w Q := by
  simp only [Bool.and_eq_true] at hk
  have hk0 := of_decide_eq_true hk0
  intro E p e s m args below meth c hc hlk hrt H locs ls hH hS hL hO
  have hok1 : (td, id0) ∈ mRefs := mok_head (mok_tail (mok_tail hO))
  have hok2 : (ts, is0) ∈ mRefs := mok_head (mok_tail (mok_tail (mok_tail (mok_tail hO))))
  have hO0 := mok_tail (mok_tail (mok_tail (mok_tail (mok_tail hO))))
  obtain ⟨p1, hp1⟩ := List.getElem?_of_mem (mRef_cell (td, id0) hok1 h1.2.1)
  obtain ⟨p0, hp0⟩ := List.getElem?_of_mem (mRef_cell (ts, is0) hok2 h1.1)
  have hg1 := mWs_get E w hp1
  rw [mE_arr h1.2.2.2] at hg1
  have hg0 := mWs_get E w hp0
  rw [mE_arr h1.2.2.1] at hg0
  rw [List.map_cons, List.map_cons, cv_refS (by omega), List.map_cons, cv_refS (by omega)]
  refine va_copyi hc.1 hc.2.1 (hc.2.2.1.trans hL.1.1.symm) hc.own (hc.word hk.1) (hc.word hk.2.1) (hc.word hk.2.2.1) (hc.word hk.2.2.2) hc.K hH.1 hH.2 hS p0 p1 0 0 (ty := .int) hg0 hg1 rfl rfl rfl h2.1 h2.2.1 h2.2.2.1 h2.2.2.2.1 h2.2.2.2.2 (fun _ _ => rfl) hd ?_ hk0 (fun H1 locs1 hP hD hS1 => ?_)
  · rw [mcs_sum hc.F]
    show mcs S + (5 + 2 + 11) ≤ 38 * d
    omega
  · have hset : (mWs E w).set p1 (mAd E td id0, .inl (E.2.1, oA td, .inl (va_cpy (mga w ts is0) (mga w td id0) sp.toNatClampNeg dp.toNatClampNeg nn.toNatClampNeg))) = mWs E (mpA w td id0 (va_cpy (mga w ts is0) (mga w td id0) sp.toNatClampNeg dp.toNatClampNeg nn.toNatClampNeg)) := mWs_set hp1 (by rw [mE_arr h1.2.2.2]; simp [mga, mpA]) (fun q' hq' => mE_mpA hq')
    rw [hset] at hP hD
    exact k E p e s m args below meth c hc hlk hrt H1 locs1 ls ⟨hP, hD⟩ hS1 hL hO0
end EV
end
section
def MJ6_bitCount_0f7a4 : mM := (yJ6_bitCount_0f7a4, cJ6_bitCount_0f7a4, 1, (some .int))
def MJ0_length_8abf5 : mM := (yJ0_length_8abf5, cJ0_length_8abf5, 1, (some .int))
def MJ0_charAt_5068e : mM := (yJ0_charAt_5068e, cJ0_charAt_5068e, 2, (some .char))
def MJ0_indexOf_0f7a4 : mM := (yJ0_indexOf_0f7a4, cJ0_indexOf_0f7a4, 2, (some .int))
def MJ0_indexOf_7cf53 : mM := (yJ0_indexOf_7cf53, cJ0_indexOf_7cf53, 3, (some .int))
def MJ0_coder_7d493 : mM := (yJ0_coder_7d493, cJ0_coder_7d493, 1, (some .byte))
def MJ0_isLatin1_aae02 : mM := (yJ0_isLatin1_aae02, cJ0_isLatin1_aae02, 1, (some .boolean))
def MJ0_checkIndex_df160 : mM := (yJ0_checkIndex_df160, cJ0_checkIndex_df160, 2, none)
def MJ1_charAt_3b067 : mM := (yJ1_charAt_3b067, cJ1_charAt_3b067, 2, (some .char))
def MJ1_canEncode_9a6ad : mM := (yJ1_canEncode_9a6ad, cJ1_canEncode_9a6ad, 1, (some .boolean))
def MJ1_indexOf_4cfef : mM := (yJ1_indexOf_4cfef, cJ1_indexOf_4cfef, 4, (some .int))
def MJ1_indexOfChar_4cfef : mM := (yJ1_indexOfChar_4cfef, cJ1_indexOfChar_4cfef, 6, (some .int))
def MJ3_checkIndex_8e157 : mM := (yJ3_checkIndex_8e157, cJ3_checkIndex_8e157, 3, (some .int))
def MX1_copyFrom : mM := (yX1_copyFrom, cX1_copyFrom, 2, none)
def MX1_isCell : mM := (yX1_isCell, cX1_isCell, 1, (some .boolean))
def MX1_apart : mM := (yX1_apart, cX1_apart, 4, (some .int))
def MX1_has : mM := (yX1_has, cX1_has, 2, (some .boolean))
def MX1_kindOf : mM := (yX1_kindOf, cX1_kindOf, 2, (some .int))
def MX1_cellOf : mM := (yX1_cellOf, cX1_cellOf, 2, (some .int))
def MX1_friendOf : mM := (yX1_friendOf, cX1_friendOf, 2, (some .int))
def MX1_tiredOf : mM := (yX1_tiredOf, cX1_tiredOf, 2, (some .int))
def MX1_isStanding : mM := (yX1_isStanding, cX1_isStanding, 2, (some .boolean))
def MX1_isCatcher : mM := (yX1_isCatcher, cX1_isCatcher, 2, (some .boolean))
def MX1_freedBy : mM := (yX1_freedBy, cX1_freedBy, 3, (some .int))
def MX1_childrenCount : mM := (yX1_childrenCount, cX1_childrenCount, 1, (some .int))
def MX1_standingBits : mM := (yX1_standingBits, cX1_standingBits, 1, (some .int))
def MX1_standingCount : mM := (yX1_standingCount, cX1_standingCount, 1, (some .int))
def MX1_lawNow : mM := (yX1_lawNow, cX1_lawNow, 1, (some .int))
def MX1_secondNow : mM := (yX1_secondNow, cX1_secondNow, 1, (some .int))
def MX1_freeingsSinceCopied : mM := (yX1_freeingsSinceCopied, cX1_freeingsSinceCopied, 1, (some .int))
def MX1_catcherCount : mM := (yX1_catcherCount, cX1_catcherCount, 1, (some .int))
def MX1_tiredSum : mM := (yX1_tiredSum, cX1_tiredSum, 3, (some .int))
def MX1_freedSum : mM := (yX1_freedSum, cX1_freedSum, 3, (some .int))
def MX1_hasPlayers : mM := (yX1_hasPlayers, cX1_hasPlayers, 1, (some .boolean))
def MX1_isOver : mM := (yX1_isOver, cX1_isOver, 1, (some .boolean))
def MX1_add : mM := (yX1_add, cX1_add, 5, (some .boolean))
def MX1_turnOver : mM := (yX1_turnOver, cX1_turnOver, 2, (some .boolean))
def MX1_setLaw : mM := (yX1_setLaw, cX1_setLaw, 2, (some .boolean))
def MX1_put : mM := (yX1_put, cX1_put, 3, (some .boolean))
def MX1_setKind : mM := (yX1_setKind, cX1_setKind, 3, none)
def MX1_setAside : mM := (yX1_setAside, cX1_setAside, 2, none)
def MX1_exchange : mM := (yX1_exchange, cX1_exchange, 4, none)
def MX1_scatter : mM := (yX1_scatter, cX1_scatter, 4, (some .int))
def MX1_couldFree : mM := (yX1_couldFree, cX1_couldFree, 3, (some .int))
def MX1_hasFreerFor : mM := (yX1_hasFreerFor, cX1_hasFreerFor, 3, (some .boolean))
def MX1_catcherApart : mM := (yX1_catcherApart, cX1_catcherApart, 4, (some .int))
def MX1_passMany : mM := (yX1_passMany, cX1_passMany, 3, none)
def MX1_pass : mM := (yX1_pass, cX1_pass, 2, none)
def MX1_playerActs : mM := (yX1_playerActs, cX1_playerActs, 4, none)
def MX1_tire : mM := (yX1_tire, cX1_tire, 3, none)
def MX1_freesOrFetches : mM := (yX1_freesOrFetches, cX1_freesOrFetches, 5, (some .boolean))
def MX1_setFree : mM := (yX1_setFree, cX1_setFree, 6, none)
def MX1_catcherActs : mM := (yX1_catcherActs, cX1_catcherActs, 5, none)
def MX1_guards : mM := (yX1_guards, cX1_guards, 3, none)
def MX1_letRun : mM := (yX1_letRun, cX1_letRun, 2, none)
def MX1_leastBeside : mM := (yX1_leastBeside, cX1_leastBeside, 4, (some .int))
def MX1_nearest : mM := (yX1_nearest, cX1_nearest, 7, (some .int))
def MX1_playerBits : mM := (yX1_playerBits, cX1_playerBits, 3, (some .int))
def MX1_runningBits : mM := (yX1_runningBits, cX1_runningBits, 1, (some .int))
def MX1_safeBits : mM := (yX1_safeBits, cX1_safeBits, 3, (some .int))
def MX1_freeableBits : mM := (yX1_freeableBits, cX1_freeableBits, 2, (some .int))
def MX1_isEdge : mM := (yX1_isEdge, cX1_isEdge, 3, (some .boolean))
def MX1_stepAway : mM := (yX1_stepAway, cX1_stepAway, 6, none)
def MX1_stepToward : mM := (yX1_stepToward, cX1_stepToward, 7, none)
def MX1_cellBehind : mM := (yX1_cellBehind, cX1_cellBehind, 4, (some .int))
def MX0_hasRoom : mM := (yX0_hasRoom, cX0_hasRoom, 1, (some .boolean))
def MX0_size : mM := (yX0_size, cX0_size, 1, (some .int))
def MX0_statementCount : mM := (yX0_statementCount, cX0_statementCount, 1, (some .int))
def MX0_hear : mM := (yX0_hear, cX0_hear, 2, (some .int))
def MX0_forget : mM := (yX0_forget, cX0_forget, 1, none)
def MX0_firstMisfit : mM := (yX0_firstMisfit, cX0_firstMisfit, 4, (some .int))
def MX0_tellTo : mM := (yX0_tellTo, cX0_tellTo, 3, (some .int))
def MX0_tellStatement : mM := (yX0_tellStatement, cX0_tellStatement, 3, (some .boolean))
def MX0_shapeAt : mM := (yX0_shapeAt, cX0_shapeAt, 2, (some (.object "java/lang/String")))
def MX0_fitsShape : mM := (yX0_fitsShape, cX0_fitsShape, 2, (some .boolean))
def MX0_signAt : mM := (yX0_signAt, cX0_signAt, 2, (some .int))
def MX0_kindAt : mM := (yX0_kindAt, cX0_kindAt, 2, (some .int))
def MX0_digitAt : mM := (yX0_digitAt, cX0_digitAt, 2, (some .int))
def MX0_cellAt : mM := (yX0_cellAt, cX0_cellAt, 2, (some .int))
def MX2_letter : mM := (yX2_letter, cX2_letter, 2, (some .int))
def MX2_yard : mM := (yX2_yard, cX2_yard, 2, (some .int))
def MX2_child : mM := (yX2_child, cX2_child, 3, (some .int))
def MX2_go : mM := (yX2_go, cX2_go, 4, (some .int))
def MX2_touch : mM := (yX2_touch, cX2_touch, 2, (some .int))
def MX2_law : mM := (yX2_law, cX2_law, 3, (some .int))
def MX2_far : mM := (yX2_far, cX2_far, 3, (some .int))
def MX2_seconds : mM := (yX2_seconds, cX2_seconds, 3, (some .int))
def MX2_stand : mM := (yX2_stand, cX2_stand, 3, (some .int))
def MX2_where : mM := (yX2_where, cX2_where, 4, (some .int))
def MX2_over : mM := (yX2_over, cX2_over, 1, (some .int))
def MX2_mean : mM := (yX2_mean, cX2_mean, 7, (some .long))
def MX2_frees : mM := (yX2_frees, cX2_frees, 3, (some .int))
def MX2_never : mM := (yX2_never, cX2_never, 5, (some .int))
def MX2_mayFree : mM := (yX2_mayFree, cX2_mayFree, 2, (some .int))
def MX2_worth : mM := (yX2_worth, cX2_worth, 4, (some .int))
def MX2_hunt : mM := (yX2_hunt, cX2_hunt, 9, (some .int))
def MX2_enough : mM := (yX2_enough, cX2_enough, 2, (some .int))
def MX2_change : mM := (yX2_change, cX2_change, 8, (some .int))
def MX2_longest : mM := (yX2_longest, cX2_longest, 6, (some .int))
def MX2_owes : mM := (yX2_owes, cX2_owes, 3, (some .int))
def MX2_debt : mM := (yX2_debt, cX2_debt, 4, (some .int))
def MX2_why : mM := (yX2_why, cX2_why, 6, (some .int))
def MX2_row : mM := (yX2_row, cX2_row, 3, (some .int))
def MX2_fits : mM := (yX2_fits, cX2_fits, 4, (some .int))
def MX2_judge : mM := (yX2_judge, cX2_judge, 2, (some .int))
def MX2_lots : mM := (yX2_lots, cX2_lots, 7, (some .int))
def MX2_image : mM := (yX2_image, cX2_image, 1, (some .int))
def MX2_on : mM := (yX2_on, cX2_on, 1, (some .int))
def MX2_count : mM := (yX2_count, cX2_count, 2, (some .int))
def MX2_refuse : mM := (yX2_refuse, cX2_refuse, 3, (some .int))
def MX2_outside : mM := (yX2_outside, cX2_outside, 3, (some .int))
def MX2_readLetters : mM := (yX2_readLetters, cX2_readLetters, 3, (some .int))
def MX2_secondsTillOver : mM := (yX2_secondsTillOver, cX2_secondsTillOver, 2, (some .int))
def MX2_standingOver : mM := (yX2_standingOver, cX2_standingOver, 4, (some .int))
def MX2_othersStanding : mM := (yX2_othersStanding, cX2_othersStanding, 4, (some .int))
def MX2_addCatchers : mM := (yX2_addCatchers, cX2_addCatchers, 3, (some .boolean))
def MX2_firstUntrue : mM := (yX2_firstUntrue, cX2_firstUntrue, 2, (some .int))
def MX2_greatestShared : mM := (yX2_greatestShared, cX2_greatestShared, 3, (some .int))
def MX3_no : mM := (yX3_no, cX3_no, 2, (some .int))
def MX3_lower : mM := (yX3_lower, cX3_lower, 2, (some .int))
def MX3_lowest : mM := (yX3_lowest, cX3_lowest, 2, (some .long))
def MX3_isIn : mM := (yX3_isIn, cX3_isIn, 3, (some .boolean))
def MX3_bound : mM := (yX3_bound, cX3_bound, 3, (some .int))
def MX3_bits : mM := (yX3_bits, cX3_bits, 3, (some .int))
def MX3_apart : mM := (yX3_apart, cX3_apart, 2, (some .int))
def MX3_isCell : mM := (yX3_isCell, cX3_isCell, 1, (some .boolean))
def MX3_farOf : mM := (yX3_farOf, cX3_farOf, 2, (some .int))
def MX3_isEdge : mM := (yX3_isEdge, cX3_isEdge, 1, (some .boolean))
def MX3_isChild : mM := (yX3_isChild, cX3_isChild, 2, (some .boolean))
def MX3_isCatcher : mM := (yX3_isCatcher, cX3_isCatcher, 2, (some .boolean))
def MX3_letter : mM := (yX3_letter, cX3_letter, 3, (some .int))
def MX3_next : mM := (yX3_next, cX3_next, 1, (some .int))
def MX3_readsDigits : mM := (yX3_readsDigits, cX3_readsDigits, 5, (some .boolean))
def MX3_kindOf : mM := (yX3_kindOf, cX3_kindOf, 1, (some .int))
def MX3_readsChild : mM := (yX3_readsChild, cX3_readsChild, 2, (some .boolean))
def MX3_statement : mM := (yX3_statement, cX3_statement, 4, (some .boolean))
def MX3_comesChild : mM := (yX3_comesChild, cX3_comesChild, 5, none)
def MX3_comes : mM := (yX3_comes, cX3_comes, 3, (some .boolean))
def MX3_yard : mM := (yX3_yard, cX3_yard, 3, (some .int))
def MX3_passes : mM := (yX3_passes, cX3_passes, 3, none)
def MX3_passOne : mM := (yX3_passOne, cX3_passOne, 3, (some .int))
def MX3_passesAll : mM := (yX3_passesAll, cX3_passesAll, 3, none)
def MX3_image : mM := (yX3_image, cX3_image, 1, (some .int))
def MX3_on : mM := (yX3_on, cX3_on, 1, (some .int))
def MX3_stepOf : mM := (yX3_stepOf, cX3_stepOf, 2, (some .int))
def MX3_farFromCatchers : mM := (yX3_farFromCatchers, cX3_farFromCatchers, 4, (some .int))
def MX3_away : mM := (yX3_away, cX3_away, 5, (some .int))
def MX3_toward : mM := (yX3_toward, cX3_toward, 5, (some .int))
def MX3_doesMay : mM := (yX3_doesMay, cX3_doesMay, 3, (some .boolean))
def MX3_nearMay : mM := (yX3_nearMay, cX3_nearMay, 3, (some .int))
def MX3_nearestMay : mM := (yX3_nearestMay, cX3_nearestMay, 4, (some .int))
def MX3_free : mM := (yX3_free, cX3_free, 4, none)
def MX3_freesAll : mM := (yX3_freesAll, cX3_freesAll, 4, none)
def MX3_runsTo : mM := (yX3_runsTo, cX3_runsTo, 4, (some .int))
def MX3_isRunner : mM := (yX3_isRunner, cX3_isRunner, 2, (some .boolean))
def MX3_touches : mM := (yX3_touches, cX3_touches, 3, (some .boolean))
def MX3_nearest : mM := (yX3_nearest, cX3_nearest, 5, (some .int))
def MX3_hunts : mM := (yX3_hunts, cX3_hunts, 3, (some .int))
def MX3_catches : mM := (yX3_catches, cX3_catches, 3, none)
def MX3_less : mM := (yX3_less, cX3_less, 1, (some .int))
def MX3_goesOn : mM := (yX3_goesOn, cX3_goesOn, 3, none)
def MX3_goes : mM := (yX3_goes, cX3_goes, 2, none)
def MX3_standBits : mM := (yX3_standBits, cX3_standBits, 3, (some .int))
def MX3_runnersMany : mM := (yX3_runnersMany, cX3_runnersMany, 3, (some .int))
def MX3_child : mM := (yX3_child, cX3_child, 3, (some .int))
def MX3_go : mM := (yX3_go, cX3_go, 4, (some .int))
def MX3_touch : mM := (yX3_touch, cX3_touch, 3, (some .int))
def MX3_law : mM := (yX3_law, cX3_law, 3, (some .int))
def MX3_far : mM := (yX3_far, cX3_far, 3, (some .int))
def MX3_seconds : mM := (yX3_seconds, cX3_seconds, 4, (some .int))
def MX3_goesInMind : mM := (yX3_goesInMind, cX3_goesInMind, 4, none)
def MX3_stand : mM := (yX3_stand, cX3_stand, 3, (some .int))
def MX3_where : mM := (yX3_where, cX3_where, 4, (some .int))
def MX3_overIn : mM := (yX3_overIn, cX3_overIn, 2, (some .int))
def MX3_over : mM := (yX3_over, cX3_over, 1, (some .int))
def MX3_divisor : mM := (yX3_divisor, cX3_divisor, 10, (some .long))
def MX3_mean : mM := (yX3_mean, cX3_mean, 8, (some .long))
def MX3_frees : mM := (yX3_frees, cX3_frees, 3, (some .int))
def MX3_never : mM := (yX3_never, cX3_never, 3, (some .int))
def MX3_mayFree : mM := (yX3_mayFree, cX3_mayFree, 2, (some .int))
def MX3_othersStand : mM := (yX3_othersStand, cX3_othersStand, 4, (some .int))
def MX3_worth : mM := (yX3_worth, cX3_worth, 4, (some .int))
def MX3_hunt : mM := (yX3_hunt, cX3_hunt, 9, (some .int))
def MX3_enough : mM := (yX3_enough, cX3_enough, 4, (some .int))
def MX3_standAfterChange : mM := (yX3_standAfterChange, cX3_standAfterChange, 5, (some .int))
def MX3_changes : mM := (yX3_changes, cX3_changes, 4, none)
def MX3_change : mM := (yX3_change, cX3_change, 9, (some .int))
def MX3_longest : mM := (yX3_longest, cX3_longest, 6, (some .int))
def MX3_owes : mM := (yX3_owes, cX3_owes, 3, (some .int))
def MX3_debt : mM := (yX3_debt, cX3_debt, 4, (some .int))
def MX3_isMayed : mM := (yX3_isMayed, cX3_isMayed, 3, (some .boolean))
def MX3_isWatched : mM := (yX3_isWatched, cX3_isWatched, 5, (some .boolean))
def MX3_why : mM := (yX3_why, cX3_why, 4, (some .int))
def MX3_row : mM := (yX3_row, cX3_row, 3, (some .int))
def MX3_wrongAt : mM := (yX3_wrongAt, cX3_wrongAt, 3, (some .int))
def MX3_fits : mM := (yX3_fits, cX3_fits, 5, (some .int))
def MX3_judge : mM := (yX3_judge, cX3_judge, 2, (some .int))
def MX3_lots : mM := (yX3_lots, cX3_lots, 9, (some .int))
def MX3_count : mM := (yX3_count, cX3_count, 4, (some .int))
theorem qJ0_335 : mlk RJ0 335 MJ0_coder_7d493 false 0 = true := by decide +kernel
theorem qJ0_492 : mlk RJ0 492 MJ0_isLatin1_aae02 false 0 = true := by decide +kernel
theorem qJ0_495 : mlk RJ0 495 MJ1_charAt_3b067 true 2 = true := by decide +kernel
theorem qJ0_505 : mlk RJ0 505 MJ0_length_8abf5 false 0 = true := by decide +kernel
theorem qJ0_633 : mlk RJ0 633 MJ0_indexOf_7cf53 false 2 = true := by decide +kernel
theorem qJ0_637 : mlk RJ0 637 MJ1_indexOf_4cfef true 4 = true := by decide +kernel
theorem qJ0_1059 : mlk RJ0 1059 MJ3_checkIndex_8e157 true 3 = true := by decide +kernel
theorem qJ1_9 : mlk RJ1 9 MJ0_checkIndex_df160 true 2 = true := by decide +kernel
theorem qJ1_38 : mmk RJ1 38 Lib.Math.min.name Lib.Math.min.code = true := by decide +kernel
theorem qJ1_88 : mlk RJ1 88 MJ1_canEncode_9a6ad true 1 = true := by decide +kernel
theorem qJ1_92 : mmk RJ1 92 Lib.Math.max.name Lib.Math.max.code = true := by decide +kernel
theorem qJ1_95 : mlk RJ1 95 MJ1_indexOfChar_4cfef true 4 = true := by decide +kernel
theorem qX0_22 : mlk RX0 22 MX0_hasRoom false 0 = true := by decide +kernel
theorem qX0_28 : mlk RX0 28 MJ0_length_8abf5 false 0 = true := by decide +kernel
theorem qX0_34 : mlk RX0 34 MX0_shapeAt false 1 = true := by decide +kernel
theorem qX0_38 : mlk RX0 38 MJ0_charAt_5068e false 1 = true := by decide +kernel
theorem qX0_42 : mlk RX0 42 MX0_fitsShape true 2 = true := by decide +kernel
theorem qX0_46 : mlk RX0 46 MX0_tellStatement false 2 = true := by decide +kernel
theorem qX0_50 : mmk RX0 50 Lib.Math.max.name Lib.Math.max.code = true := by decide +kernel
theorem qX0_56 : mlk RX0 56 MX0_signAt false 1 = true := by decide +kernel
theorem qX0_60 : mlk RX0 60 MX0_kindAt false 1 = true := by decide +kernel
theorem qX0_63 : mlk RX0 63 MX0_cellAt false 1 = true := by decide +kernel
theorem qX0_66 : mlk RX0 66 MX0_digitAt false 1 = true := by decide +kernel
theorem qX0_69 : mlk RX0 69 MX1_add false 3 = true := by decide +kernel
theorem qX0_75 : mlk RX0 75 MX1_turnOver false 1 = true := by decide +kernel
theorem qX0_79 : mlk RX0 79 MX1_setLaw false 1 = true := by decide +kernel
theorem qX0_82 : mlk RX0 82 MX1_put false 2 = true := by decide +kernel
theorem qX0_96 : mlk RX0 96 MJ0_indexOf_0f7a4 false 1 = true := by decide +kernel
theorem qX1_31 : (inW (.methodLink RX1 31 arraycopyName) && (inW (.native arraycopyName) && (inW (.static arraycopyName) && inW (.initialized "java/lang/System")))) = true := by decide +kernel
theorem qX1_52 : mlk RX1 52 MX1_has false 1 = true := by decide +kernel
theorem qX1_56 : mlk RX1 56 MJ6_bitCount_0f7a4 true 1 = true := by decide +kernel
theorem qX1_62 : mlk RX1 62 MX1_playerBits false 0 = true := by decide +kernel
theorem qX1_66 : mlk RX1 66 MX1_hasPlayers false 0 = true := by decide +kernel
theorem qX1_72 : mlk RX1 72 MJ0_length_8abf5 false 0 = true := by decide +kernel
theorem qX1_77 : mlk RX1 77 MX1_isCell true 1 = true := by decide +kernel
theorem qX1_80 : mlk RX1 80 MX1_isCatcher false 1 = true := by decide +kernel
theorem qX1_83 : mlk RX1 83 MX1_letRun false 1 = true := by decide +kernel
theorem qX1_90 : mlk RX1 90 MX1_isStanding false 1 = true := by decide +kernel
theorem qX1_93 : mlk RX1 93 MX1_freeableBits false 1 = true := by decide +kernel
theorem qX1_96 : mlk RX1 96 MX1_leastBeside false 2 = true := by decide +kernel
theorem qX1_100 : mlk RX1 100 MX1_apart true 2 = true := by decide +kernel
theorem qX1_103 : mmk RX1 103 Lib.Math.min.name Lib.Math.min.code = true := by decide +kernel
theorem qX1_108 : mlk RX1 108 MX1_pass false 0 = true := by decide +kernel
theorem qX1_111 : mlk RX1 111 MX1_catcherActs false 1 = true := by decide +kernel
theorem qX1_114 : mlk RX1 114 MX1_playerActs false 1 = true := by decide +kernel
theorem qX1_117 : mlk RX1 117 MX1_tire false 2 = true := by decide +kernel
theorem qX1_121 : mlk RX1 121 MX1_freesOrFetches false 1 = true := by decide +kernel
theorem qX1_124 : mlk RX1 124 MX1_isEdge true 1 = true := by decide +kernel
theorem qX1_127 : mlk RX1 127 MX1_catcherApart false 1 = true := by decide +kernel
theorem qX1_130 : mlk RX1 130 MX1_stepAway false 1 = true := by decide +kernel
theorem qX1_133 : mmk RX1 133 Lib.Math.max.name Lib.Math.max.code = true := by decide +kernel
theorem qX1_136 : mlk RX1 136 MX1_setFree false 2 = true := by decide +kernel
theorem qX1_139 : mlk RX1 139 MX1_nearest false 2 = true := by decide +kernel
theorem qX1_142 : mlk RX1 142 MX1_stepToward false 2 = true := by decide +kernel
theorem qX1_145 : mlk RX1 145 MX1_runningBits false 0 = true := by decide +kernel
theorem qX1_148 : mlk RX1 148 MX1_safeBits false 0 = true := by decide +kernel
theorem qX1_151 : mlk RX1 151 MX1_guards false 1 = true := by decide +kernel
theorem qX1_154 : mlk RX1 154 MX1_cellBehind true 2 = true := by decide +kernel
theorem qX2_39 : mlk RX2 39 MX2_refuse false 1 = true := by decide +kernel
theorem qX2_43 : mlk RX2 43 MX0_hasRoom false 0 = true := by decide +kernel
theorem qX2_47 : mlk RX2 47 MX0_hear false 1 = true := by decide +kernel
theorem qX2_50 : mlk RX2 50 MX2_readLetters false 0 = true := by decide +kernel
theorem qX2_54 : mlk RX2 54 MX0_forget false 0 = true := by decide +kernel
theorem qX2_57 : mlk RX2 57 MX1_has false 1 = true := by decide +kernel
theorem qX2_61 : mlk RX2 61 MX1_kindOf false 1 = true := by decide +kernel
theorem qX2_64 : mlk RX2 64 MX1_cellOf false 1 = true := by decide +kernel
theorem qX2_67 : mlk RX2 67 MX1_friendOf false 1 = true := by decide +kernel
theorem qX2_70 : mlk RX2 70 MX1_isStanding false 1 = true := by decide +kernel
theorem qX2_73 : mlk RX2 73 MX1_tiredOf false 1 = true := by decide +kernel
theorem qX2_76 : mlk RX2 76 MX1_isCell true 1 = true := by decide +kernel
theorem qX2_79 : mlk RX2 79 MX1_put false 2 = true := by decide +kernel
theorem qX2_83 : mlk RX2 83 MX1_turnOver false 1 = true := by decide +kernel
theorem qX2_86 : mlk RX2 86 MX1_lawNow false 0 = true := by decide +kernel
theorem qX2_89 : mlk RX2 89 MX1_setLaw false 1 = true := by decide +kernel
theorem qX2_92 : mlk RX2 92 MX1_apart true 2 = true := by decide +kernel
theorem qX2_96 : mlk RX2 96 MX2_outside true 3 = true := by decide +kernel
theorem qX2_100 : mlk RX2 100 MX1_secondNow false 0 = true := by decide +kernel
theorem qX2_103 : mlk RX2 103 MX1_passMany false 1 = true := by decide +kernel
theorem qX2_107 : mlk RX2 107 MX1_copyFrom false 1 = true := by decide +kernel
theorem qX2_111 : mlk RX2 111 MX1_standingBits false 0 = true := by decide +kernel
theorem qX2_114 : mlk RX2 114 MX1_hasPlayers false 0 = true := by decide +kernel
theorem qX2_117 : mlk RX2 117 MX2_secondsTillOver false 0 = true := by decide +kernel
theorem qX2_122 : mlk RX2 122 MX1_standingCount false 0 = true := by decide +kernel
theorem qX2_125 : mlk RX2 125 MX2_standingOver false 1 = true := by decide +kernel
theorem qX2_128 : mlk RX2 128 MX2_greatestShared true 2 = true := by decide +kernel
theorem qX2_131 : mlk RX2 131 MX1_freeingsSinceCopied false 0 = true := by decide +kernel
theorem qX2_134 : mlk RX2 134 MX1_pass false 0 = true := by decide +kernel
theorem qX2_137 : mlk RX2 137 MX1_couldFree false 1 = true := by decide +kernel
theorem qX2_140 : mlk RX2 140 MX1_isCatcher false 1 = true := by decide +kernel
theorem qX2_144 : mlk RX2 144 MX2_othersStanding false 1 = true := by decide +kernel
theorem qX2_147 : mlk RX2 147 MX1_setAside false 1 = true := by decide +kernel
theorem qX2_150 : mlk RX2 150 MX1_setKind false 2 = true := by decide +kernel
theorem qX2_154 : mlk RX2 154 MX2_addCatchers false 1 = true := by decide +kernel
theorem qX2_157 : mlk RX2 157 MX1_exchange false 2 = true := by decide +kernel
theorem qX2_160 : mlk RX2 160 MX1_freedBy false 2 = true := by decide +kernel
theorem qX2_163 : mlk RX2 163 MX1_catcherApart false 1 = true := by decide +kernel
theorem qX2_166 : mlk RX2 166 MX1_hasFreerFor false 1 = true := by decide +kernel
theorem qX2_173 : mlk RX2 173 MX2_firstUntrue false 0 = true := by decide +kernel
theorem qX2_176 : mlk RX2 176 MX1_scatter false 1 = true := by decide +kernel
theorem qX2_183 : mlk RX2 183 MX1_childrenCount false 0 = true := by decide +kernel
theorem qX2_186 : mlk RX2 186 MX1_catcherCount false 0 = true := by decide +kernel
theorem qX2_189 : mlk RX2 189 MX1_tiredSum false 0 = true := by decide +kernel
theorem qX2_192 : mlk RX2 192 MX1_freedSum false 0 = true := by decide +kernel
theorem qX2_195 : mlk RX2 195 MX0_size false 0 = true := by decide +kernel
theorem qX2_198 : mlk RX2 198 MX0_firstMisfit false 0 = true := by decide +kernel
theorem qX2_201 : mlk RX2 201 MX0_tellTo false 1 = true := by decide +kernel
theorem qX2_205 : mlk RX2 205 MX0_statementCount false 0 = true := by decide +kernel
theorem qX2_208 : mlk RX2 208 MX1_isOver false 0 = true := by decide +kernel
theorem qX2_211 : mlk RX2 211 MX1_add false 3 = true := by decide +kernel
theorem qX3_56 : mlk RX3 56 MX3_apart true 2 = true := by decide +kernel
theorem qX3_63 : mlk RX3 63 MX3_bound true 3 = true := by decide +kernel
theorem qX3_70 : mlk RX3 70 MX3_no false 1 = true := by decide +kernel
theorem qX3_77 : mlk RX3 77 MX3_next false 0 = true := by decide +kernel
theorem qX3_81 : mlk RX3 81 MX3_isIn true 3 = true := by decide +kernel
theorem qX3_85 : mlk RX3 85 MX3_kindOf true 1 = true := by decide +kernel
theorem qX3_88 : mlk RX3 88 MX3_readsDigits false 2 = true := by decide +kernel
theorem qX3_95 : mlk RX3 95 MX3_readsChild false 1 = true := by decide +kernel
theorem qX3_99 : mlk RX3 99 MX3_isCell true 1 = true := by decide +kernel
theorem qX3_102 : mlk RX3 102 MX3_comesChild false 3 = true := by decide +kernel
theorem qX3_106 : mlk RX3 106 MX3_isChild false 1 = true := by decide +kernel
theorem qX3_109 : mlk RX3 109 MX3_isCatcher false 1 = true := by decide +kernel
theorem qX3_115 : mlk RX3 115 MX3_statement false 0 = true := by decide +kernel
theorem qX3_119 : mlk RX3 119 MX3_passesAll false 2 = true := by decide +kernel
theorem qX3_123 : mlk RX3 123 MX3_comes false 1 = true := by decide +kernel
theorem qX3_133 : mlk RX3 133 MX3_passes false 1 = true := by decide +kernel
theorem qX3_137 : mlk RX3 137 MX3_passOne false 1 = true := by decide +kernel
theorem qX3_146 : mlk RX3 146 MX3_farOf true 2 = true := by decide +kernel
theorem qX3_149 : mlk RX3 149 MX3_stepOf true 2 = true := by decide +kernel
theorem qX3_152 : mlk RX3 152 MX3_farFromCatchers false 1 = true := by decide +kernel
theorem qX3_155 : mlk RX3 155 MX3_doesMay false 2 = true := by decide +kernel
theorem qX3_161 : mlk RX3 161 MX3_free false 2 = true := by decide +kernel
theorem qX3_165 : mlk RX3 165 MX3_isEdge true 1 = true := by decide +kernel
theorem qX3_168 : mlk RX3 168 MX3_away false 1 = true := by decide +kernel
theorem qX3_171 : mlk RX3 171 MX3_nearMay false 1 = true := by decide +kernel
theorem qX3_174 : mlk RX3 174 MX3_freesAll false 2 = true := by decide +kernel
theorem qX3_177 : mlk RX3 177 MX3_nearestMay false 1 = true := by decide +kernel
theorem qX3_180 : mlk RX3 180 MX3_toward true 2 = true := by decide +kernel
theorem qX3_183 : mlk RX3 183 MX3_isRunner false 1 = true := by decide +kernel
theorem qX3_186 : mlk RX3 186 MX3_nearest false 2 = true := by decide +kernel
theorem qX3_189 : mlk RX3 189 MX3_touches false 1 = true := by decide +kernel
theorem qX3_192 : mlk RX3 192 MX3_hunts false 1 = true := by decide +kernel
theorem qX3_195 : mlk RX3 195 MX3_catches false 1 = true := by decide +kernel
theorem qX3_199 : mlk RX3 199 MX3_less true 1 = true := by decide +kernel
theorem qX3_202 : mlk RX3 202 MX3_runsTo false 1 = true := by decide +kernel
theorem qX3_205 : mlk RX3 205 MX3_goesOn false 1 = true := by decide +kernel
theorem qX3_208 : mlk RX3 208 MX3_goes false 0 = true := by decide +kernel
theorem qX3_214 : mlk RX3 214 MX3_standBits false 0 = true := by decide +kernel
theorem qX3_220 : mlk RX3 220 MX3_bits true 1 = true := by decide +kernel
theorem qX3_232 : mlk RX3 232 MX3_goesInMind false 2 = true := by decide +kernel
theorem qX3_235 : mlk RX3 235 MX3_runnersMany false 0 = true := by decide +kernel
theorem qX3_238 : mlk RX3 238 MX3_overIn false 0 = true := by decide +kernel
theorem qX3_241 : mlk RX3 241 MX3_lowest false 1 = true := by decide +kernel
theorem qX3_245 : mlk RX3 245 MX3_divisor true 2 = true := by decide +kernel
theorem qX3_249 : mlk RX3 249 MX3_lower false 1 = true := by decide +kernel
theorem qX3_252 : mlk RX3 252 MX3_othersStand false 1 = true := by decide +kernel
theorem qX3_255 : mlk RX3 255 MX3_changes false 2 = true := by decide +kernel
theorem qX3_258 : mlk RX3 258 MX3_standAfterChange false 3 = true := by decide +kernel
theorem qX3_261 : mlk RX3 261 MX3_isMayed false 1 = true := by decide +kernel
theorem qX3_264 : mlk RX3 264 MX3_isWatched false 2 = true := by decide +kernel
theorem qX3_270 : mlk RX3 270 MX3_wrongAt false 0 = true := by decide +kernel
end
section
def bJ6_bitCount_0f7a4_0 : List mB := [(.iload_n 0, mI 0), (.iload_n 0, mI 0), (.iconst 1, mI (nI 1)), (.iushr, mI 0), (.ldc_w 265, mI (nI 1431655765)), (.iand, mI 0), (.isub, mI 0), (.istore_n 0, mI 0), (.iload_n 0, mI 0), (.ldc_w 266, mI (nI 858993459)), (.iand, mI 0), (.iload_n 0, mI 0), (.iconst 2, mI (nI 2)), (.iushr, mI 0), (.ldc_w 266, mI (nI 858993459)), (.iand, mI 0), (.iadd, mI 0), (.istore_n 0, mI 0), (.iload_n 0, mI 0), (.iload_n 0, mI 0), (.iconst 4, mI (nI 4)), (.iushr, mI 0), (.iadd, mI 0), (.ldc_w 267, mI (nI 252645135)), (.iand, mI 0), (.istore_n 0, mI 0), (.iload_n 0, mI 0), (.iload_n 0, mI 0), (.bipush 8, mI (nI 8)), (.iushr, mI 0), (.iadd, mI 0), (.istore_n 0, mI 0), (.iload_n 0, mI 0), (.iload_n 0, mI 0), (.bipush 16, mI (nI 16)), (.iushr, mI 0), (.iadd, mI 0), (.istore_n 0, mI 0), (.iload_n 0, mI 0), (.bipush 63, mI (nI 63)), (.iand, mI 0)]
theorem kJ6_bitCount_0f7a4_0 : mchk MJ6_bitCount_0f7a4 0 bJ6_bitCount_0f7a4_0 52 = true := by decide +kernel
theorem tJ6_bitCount_0f7a4_52 : mrk MJ6_bitCount_0f7a4 52 .ireturn = true := by decide +kernel
def bJ0_length_8abf5_0 : List mB := [(.aload_n 0, mI 0), (.getfield 9, mR 9 0), (.arraylength, mI 0), (.aload_n 0, mI 0)]
theorem kJ0_length_8abf5_0 : mchk MJ0_length_8abf5 0 bJ0_length_8abf5_0 6 = true := by decide +kernel
theorem tJ0_length_8abf5_6 : mdk MJ0_length_8abf5 6 (.invokevirtual 335) = true := by decide +kernel
def bJ0_length_8abf5_9 : List mB := [(.ishr, mI 0)]
theorem kJ0_length_8abf5_9 : mchk MJ0_length_8abf5 9 bJ0_length_8abf5_9 10 = true := by decide +kernel
theorem tJ0_length_8abf5_10 : mrk MJ0_length_8abf5 10 .ireturn = true := by decide +kernel
def bJ0_charAt_5068e_0 : List mB := [(.aload_n 0, mI 0)]
theorem kJ0_charAt_5068e_0 : mchk MJ0_charAt_5068e 0 bJ0_charAt_5068e_0 1 = true := by decide +kernel
theorem tJ0_charAt_5068e_1 : mdk MJ0_charAt_5068e 1 (.invokevirtual 492) = true := by decide +kernel
theorem tJ0_charAt_5068e_4 : mbk MJ0_charAt_5068e 4 (.ifCond .eq 12) 16 = true := by decide +kernel
def bJ0_charAt_5068e_7 : List mB := [(.aload_n 0, mI 0), (.getfield 9, mR 9 0), (.iload_n 1, mI 0)]
theorem kJ0_charAt_5068e_7 : mchk MJ0_charAt_5068e 7 bJ0_charAt_5068e_7 12 = true := by decide +kernel
theorem tJ0_charAt_5068e_12 : mdk MJ0_charAt_5068e 12 (.invokestatic 495) = true := by decide +kernel
theorem tJ0_charAt_5068e_15 : mrk MJ0_charAt_5068e 15 .ireturn = true := by decide +kernel
def bJ0_charAt_5068e_16 : List mB := [(.aload_n 0, mI 0), (.getfield 9, mR 9 0), (.iload_n 1, mI 0)]
theorem kJ0_charAt_5068e_16 : mchk MJ0_charAt_5068e 16 bJ0_charAt_5068e_16 21 = true := by decide +kernel
theorem tJ0_charAt_5068e_24 : mrk MJ0_charAt_5068e 24 .ireturn = true := by decide +kernel
def bJ0_indexOf_0f7a4_0 : List mB := [(.aload_n 0, mI 0), (.iload_n 1, mI 0), (.iconst 0, mI (nI 0))]
theorem kJ0_indexOf_0f7a4_0 : mchk MJ0_indexOf_0f7a4 0 bJ0_indexOf_0f7a4_0 3 = true := by decide +kernel
theorem tJ0_indexOf_0f7a4_3 : mdk MJ0_indexOf_0f7a4 3 (.invokevirtual 633) = true := by decide +kernel
theorem tJ0_indexOf_0f7a4_6 : mrk MJ0_indexOf_0f7a4 6 .ireturn = true := by decide +kernel
def bJ0_indexOf_7cf53_0 : List mB := [(.aload_n 0, mI 0)]
theorem kJ0_indexOf_7cf53_0 : mchk MJ0_indexOf_7cf53 0 bJ0_indexOf_7cf53_0 1 = true := by decide +kernel
theorem tJ0_indexOf_7cf53_1 : mdk MJ0_indexOf_7cf53 1 (.invokevirtual 492) = true := by decide +kernel
theorem tJ0_indexOf_7cf53_4 : mbk MJ0_indexOf_7cf53 4 (.ifCond .eq 19) 23 = true := by decide +kernel
def bJ0_indexOf_7cf53_7 : List mB := [(.aload_n 0, mI 0), (.getfield 9, mR 9 0), (.iload_n 1, mI 0), (.iload_n 2, mI 0), (.aload_n 0, mI 0)]
theorem kJ0_indexOf_7cf53_7 : mchk MJ0_indexOf_7cf53 7 bJ0_indexOf_7cf53_7 14 = true := by decide +kernel
theorem tJ0_indexOf_7cf53_14 : mdk MJ0_indexOf_7cf53 14 (.invokevirtual 505) = true := by decide +kernel
theorem tJ0_indexOf_7cf53_17 : mdk MJ0_indexOf_7cf53 17 (.invokestatic 637) = true := by decide +kernel
theorem tJ0_indexOf_7cf53_20 : mbk MJ0_indexOf_7cf53 20 (.goto 16) 36 = true := by decide +kernel
def bJ0_indexOf_7cf53_23 : List mB := [(.aload_n 0, mI 0), (.getfield 9, mR 9 0), (.iload_n 1, mI 0), (.iload_n 2, mI 0), (.aload_n 0, mI 0)]
theorem kJ0_indexOf_7cf53_23 : mchk MJ0_indexOf_7cf53 23 bJ0_indexOf_7cf53_23 30 = true := by decide +kernel
theorem tJ0_indexOf_7cf53_30 : mdk MJ0_indexOf_7cf53 30 (.invokevirtual 505) = true := by decide +kernel
theorem tJ0_indexOf_7cf53_36 : mrk MJ0_indexOf_7cf53 36 .ireturn = true := by decide +kernel
def bJ0_coder_7d493_0 : List mB := [(.getstatic 38, mI 1)]
theorem kJ0_coder_7d493_0 : mchk MJ0_coder_7d493 0 bJ0_coder_7d493_0 3 = true := by decide +kernel
theorem tJ0_coder_7d493_3 : mbk MJ0_coder_7d493 3 (.ifCond .eq 10) 13 = true := by decide +kernel
def bJ0_coder_7d493_6 : List mB := [(.aload_n 0, mI 0), (.getfield 15, mR 9 1)]
theorem kJ0_coder_7d493_6 : mchk MJ0_coder_7d493 6 bJ0_coder_7d493_6 10 = true := by decide +kernel
theorem tJ0_coder_7d493_10 : mbk MJ0_coder_7d493 10 (.goto 4) 14 = true := by decide +kernel
def bJ0_coder_7d493_13 : List mB := [(.iconst 1, mI (nI 1))]
theorem kJ0_coder_7d493_13 : mchk MJ0_coder_7d493 13 bJ0_coder_7d493_13 14 = true := by decide +kernel
theorem tJ0_coder_7d493_14 : mrk MJ0_coder_7d493 14 .ireturn = true := by decide +kernel
def bJ0_isLatin1_aae02_0 : List mB := [(.getstatic 38, mI 1)]
theorem kJ0_isLatin1_aae02_0 : mchk MJ0_isLatin1_aae02 0 bJ0_isLatin1_aae02_0 3 = true := by decide +kernel
theorem tJ0_isLatin1_aae02_3 : mbk MJ0_isLatin1_aae02 3 (.ifCond .eq 14) 17 = true := by decide +kernel
def bJ0_isLatin1_aae02_6 : List mB := [(.aload_n 0, mI 0), (.getfield 15, mR 9 1)]
theorem kJ0_isLatin1_aae02_6 : mchk MJ0_isLatin1_aae02 6 bJ0_isLatin1_aae02_6 10 = true := by decide +kernel
theorem tJ0_isLatin1_aae02_10 : mbk MJ0_isLatin1_aae02 10 (.ifCond .ne 7) 17 = true := by decide +kernel
def bJ0_isLatin1_aae02_13 : List mB := [(.iconst 1, mI (nI 1))]
theorem kJ0_isLatin1_aae02_13 : mchk MJ0_isLatin1_aae02 13 bJ0_isLatin1_aae02_13 14 = true := by decide +kernel
theorem tJ0_isLatin1_aae02_14 : mbk MJ0_isLatin1_aae02 14 (.goto 4) 18 = true := by decide +kernel
def bJ0_isLatin1_aae02_17 : List mB := [(.iconst 0, mI (nI 0))]
theorem kJ0_isLatin1_aae02_17 : mchk MJ0_isLatin1_aae02 17 bJ0_isLatin1_aae02_17 18 = true := by decide +kernel
theorem tJ0_isLatin1_aae02_18 : mrk MJ0_isLatin1_aae02 18 .ireturn = true := by decide +kernel
def bJ0_checkIndex_df160_0 : List mB := [(.iload_n 0, mI 0), (.iload_n 1, mI 0), (.getstatic 1053, mR 32 0)]
theorem kJ0_checkIndex_df160_0 : mchk MJ0_checkIndex_df160 0 bJ0_checkIndex_df160_0 5 = true := by decide +kernel
theorem tJ0_checkIndex_df160_5 : mdk MJ0_checkIndex_df160 5 (.invokestatic 1059) = true := by decide +kernel
def bJ0_checkIndex_df160_8 : List mB := [(.pop, mI 0)]
theorem kJ0_checkIndex_df160_8 : mchk MJ0_checkIndex_df160 8 bJ0_checkIndex_df160_8 9 = true := by decide +kernel
theorem tJ0_checkIndex_df160_9 : mrk MJ0_checkIndex_df160 9 .return_ = true := by decide +kernel
def bJ1_charAt_3b067_0 : List mB := [(.iload_n 1, mI 0), (.aload_n 0, mI 0), (.arraylength, mI 0)]
theorem kJ1_charAt_3b067_0 : mchk MJ1_charAt_3b067 0 bJ1_charAt_3b067_0 3 = true := by decide +kernel
theorem tJ1_charAt_3b067_3 : mdk MJ1_charAt_3b067 3 (.invokestatic 9) = true := by decide +kernel
def bJ1_charAt_3b067_6 : List mB := [(.aload_n 0, mI 0), (.iload_n 1, mI 0), (.baload, mI 0), (.sipush 255, mI (nI 255)), (.iand, mI 0), (.i2c, mI 0)]
theorem kJ1_charAt_3b067_6 : mchk MJ1_charAt_3b067 6 bJ1_charAt_3b067_6 14 = true := by decide +kernel
theorem tJ1_charAt_3b067_14 : mrk MJ1_charAt_3b067 14 .ireturn = true := by decide +kernel
def bJ1_canEncode_9a6ad_0 : List mB := [(.iload_n 0, mI 0)]
theorem kJ1_canEncode_9a6ad_0 : mchk MJ1_canEncode_9a6ad 0 bJ1_canEncode_9a6ad_0 1 = true := by decide +kernel
theorem tJ1_canEncode_9a6ad_1 : mbk MJ1_canEncode_9a6ad 1 (.ifCond .lt 14) 15 = true := by decide +kernel
def bJ1_canEncode_9a6ad_4 : List mB := [(.iload_n 0, mI 0), (.sipush 255, mI (nI 255))]
theorem kJ1_canEncode_9a6ad_4 : mchk MJ1_canEncode_9a6ad 4 bJ1_canEncode_9a6ad_4 8 = true := by decide +kernel
theorem tJ1_canEncode_9a6ad_8 : mbk MJ1_canEncode_9a6ad 8 (.if_icmp .gt 7) 15 = true := by decide +kernel
def bJ1_canEncode_9a6ad_11 : List mB := [(.iconst 1, mI (nI 1))]
theorem kJ1_canEncode_9a6ad_11 : mchk MJ1_canEncode_9a6ad 11 bJ1_canEncode_9a6ad_11 12 = true := by decide +kernel
theorem tJ1_canEncode_9a6ad_12 : mbk MJ1_canEncode_9a6ad 12 (.goto 4) 16 = true := by decide +kernel
def bJ1_canEncode_9a6ad_15 : List mB := [(.iconst 0, mI (nI 0))]
theorem kJ1_canEncode_9a6ad_15 : mchk MJ1_canEncode_9a6ad 15 bJ1_canEncode_9a6ad_15 16 = true := by decide +kernel
theorem tJ1_canEncode_9a6ad_16 : mrk MJ1_canEncode_9a6ad 16 .ireturn = true := by decide +kernel
def bJ1_indexOf_4cfef_0 : List mB := [(.iload_n 1, mI 0)]
theorem kJ1_indexOf_4cfef_0 : mchk MJ1_indexOf_4cfef 0 bJ1_indexOf_4cfef_0 1 = true := by decide +kernel
theorem tJ1_indexOf_4cfef_1 : mdk MJ1_indexOf_4cfef 1 (.invokestatic 88) = true := by decide +kernel
theorem tJ1_indexOf_4cfef_4 : mbk MJ1_indexOf_4cfef 4 (.ifCond .ne 5) 9 = true := by decide +kernel
def bJ1_indexOf_4cfef_7 : List mB := [(.iconst (-1), mI (-1))]
theorem kJ1_indexOf_4cfef_7 : mchk MJ1_indexOf_4cfef 7 bJ1_indexOf_4cfef_7 8 = true := by decide +kernel
theorem tJ1_indexOf_4cfef_8 : mrk MJ1_indexOf_4cfef 8 .ireturn = true := by decide +kernel
def bJ1_indexOf_4cfef_9 : List mB := [(.iload_n 2, mI 0), (.iconst 0, mI (nI 0))]
theorem kJ1_indexOf_4cfef_9 : mchk MJ1_indexOf_4cfef 9 bJ1_indexOf_4cfef_9 11 = true := by decide +kernel
theorem tJ1_indexOf_4cfef_11 : mdk MJ1_indexOf_4cfef 11 (.invokestatic 92) = true := by decide +kernel
def bJ1_indexOf_4cfef_14 : List mB := [(.istore_n 2, mI 0), (.iload_n 3, mI 0), (.aload_n 0, mI 0), (.arraylength, mI 0)]
theorem kJ1_indexOf_4cfef_14 : mchk MJ1_indexOf_4cfef 14 bJ1_indexOf_4cfef_14 18 = true := by decide +kernel
theorem tJ1_indexOf_4cfef_18 : mdk MJ1_indexOf_4cfef 18 (.invokestatic 38) = true := by decide +kernel
def bJ1_indexOf_4cfef_21 : List mB := [(.istore_n 3, mI 0), (.iload_n 2, mI 0), (.iload_n 3, mI 0)]
theorem kJ1_indexOf_4cfef_21 : mchk MJ1_indexOf_4cfef 21 bJ1_indexOf_4cfef_21 24 = true := by decide +kernel
theorem tJ1_indexOf_4cfef_24 : mbk MJ1_indexOf_4cfef 24 (.if_icmp .lt 5) 29 = true := by decide +kernel
def bJ1_indexOf_4cfef_27 : List mB := [(.iconst (-1), mI (-1))]
theorem kJ1_indexOf_4cfef_27 : mchk MJ1_indexOf_4cfef 27 bJ1_indexOf_4cfef_27 28 = true := by decide +kernel
theorem tJ1_indexOf_4cfef_28 : mrk MJ1_indexOf_4cfef 28 .ireturn = true := by decide +kernel
def bJ1_indexOf_4cfef_29 : List mB := [(.aload_n 0, mI 0), (.iload_n 1, mI 0), (.iload_n 2, mI 0), (.iload_n 3, mI 0)]
theorem kJ1_indexOf_4cfef_29 : mchk MJ1_indexOf_4cfef 29 bJ1_indexOf_4cfef_29 33 = true := by decide +kernel
theorem tJ1_indexOf_4cfef_33 : mdk MJ1_indexOf_4cfef 33 (.invokestatic 95) = true := by decide +kernel
theorem tJ1_indexOf_4cfef_36 : mrk MJ1_indexOf_4cfef 36 .ireturn = true := by decide +kernel
def bJ1_indexOfChar_4cfef_0 : List mB := [(.iload_n 1, mI 0), (.i2b, mI 0), (.istore 4, mI 0), (.iload_n 2, mI 0), (.istore 5, mI 0)]
theorem kJ1_indexOfChar_4cfef_0 : mchk MJ1_indexOfChar_4cfef 0 bJ1_indexOfChar_4cfef_0 7 = true := by decide +kernel
def bJ1_indexOfChar_4cfef_7 : List mB := [(.iload 5, mI 0), (.iload_n 3, mI 0)]
theorem kJ1_indexOfChar_4cfef_7 : mchk MJ1_indexOfChar_4cfef 7 bJ1_indexOfChar_4cfef_7 10 = true := by decide +kernel
theorem tJ1_indexOfChar_4cfef_10 : mbk MJ1_indexOfChar_4cfef 10 (.if_icmp .ge 21) 31 = true := by decide +kernel
def bJ1_indexOfChar_4cfef_13 : List mB := [(.aload_n 0, mI 0), (.iload 5, mI 0), (.baload, mI 0), (.iload 4, mI 0)]
theorem kJ1_indexOfChar_4cfef_13 : mchk MJ1_indexOfChar_4cfef 13 bJ1_indexOfChar_4cfef_13 19 = true := by decide +kernel
theorem tJ1_indexOfChar_4cfef_19 : mbk MJ1_indexOfChar_4cfef 19 (.if_icmp .ne 6) 25 = true := by decide +kernel
def bJ1_indexOfChar_4cfef_22 : List mB := [(.iload 5, mI 0)]
theorem kJ1_indexOfChar_4cfef_22 : mchk MJ1_indexOfChar_4cfef 22 bJ1_indexOfChar_4cfef_22 24 = true := by decide +kernel
theorem tJ1_indexOfChar_4cfef_24 : mrk MJ1_indexOfChar_4cfef 24 .ireturn = true := by decide +kernel
def bJ1_indexOfChar_4cfef_25 : List mB := [(.iinc 5 1, mI (nI 1))]
theorem kJ1_indexOfChar_4cfef_25 : mchk MJ1_indexOfChar_4cfef 25 bJ1_indexOfChar_4cfef_25 28 = true := by decide +kernel
theorem tJ1_indexOfChar_4cfef_28 : mbk MJ1_indexOfChar_4cfef 28 (.goto (-21)) 7 = true := by decide +kernel
def bJ1_indexOfChar_4cfef_31 : List mB := [(.iconst (-1), mI (-1))]
theorem kJ1_indexOfChar_4cfef_31 : mchk MJ1_indexOfChar_4cfef 31 bJ1_indexOfChar_4cfef_31 32 = true := by decide +kernel
theorem tJ1_indexOfChar_4cfef_32 : mrk MJ1_indexOfChar_4cfef 32 .ireturn = true := by decide +kernel
def bJ3_checkIndex_8e157_0 : List mB := [(.iload_n 0, mI 0)]
theorem kJ3_checkIndex_8e157_0 : mchk MJ3_checkIndex_8e157 0 bJ3_checkIndex_8e157_0 1 = true := by decide +kernel
theorem tJ3_checkIndex_8e157_1 : mbk MJ3_checkIndex_8e157 1 (.ifCond .lt 8) 9 = true := by decide +kernel
def bJ3_checkIndex_8e157_4 : List mB := [(.iload_n 0, mI 0), (.iload_n 1, mI 0)]
theorem kJ3_checkIndex_8e157_4 : mchk MJ3_checkIndex_8e157 4 bJ3_checkIndex_8e157_4 6 = true := by decide +kernel
theorem tJ3_checkIndex_8e157_6 : mbk MJ3_checkIndex_8e157 6 (.if_icmp .lt 10) 16 = true := by decide +kernel
def bJ3_checkIndex_8e157_9 : List mB := [(.aload_n 2, mI 0), (.iload_n 0, mI 0), (.iload_n 1, mI 0)]
theorem kJ3_checkIndex_8e157_9 : mchk MJ3_checkIndex_8e157 9 bJ3_checkIndex_8e157_9 12 = true := by decide +kernel
def bJ3_checkIndex_8e157_16 : List mB := [(.iload_n 0, mI 0)]
theorem kJ3_checkIndex_8e157_16 : mchk MJ3_checkIndex_8e157 16 bJ3_checkIndex_8e157_16 17 = true := by decide +kernel
theorem tJ3_checkIndex_8e157_17 : mrk MJ3_checkIndex_8e157 17 .ireturn = true := by decide +kernel
end
section
def bX1_copyFrom_0 : List mB := [(.aload_n 1, mI 0), (.getfield 11, mR 1 0), (.iconst 0, mI (nI 0)), (.aload_n 0, mI 0), (.getfield 11, mR 1 0), (.iconst 0, mI (nI 0)), (.bipush 8, mI (nI 8))]
theorem kX1_copyFrom_0 : mchk MX1_copyFrom 0 bX1_copyFrom_0 12 = true := by decide +kernel
theorem tX1_copyFrom_12 : mdk MX1_copyFrom 12 (.invokestatic 31) = true := by decide +kernel
def bX1_copyFrom_15 : List mB := [(.aload_n 1, mI 0), (.getfield 15, mR 1 1), (.iconst 0, mI (nI 0)), (.aload_n 0, mI 0), (.getfield 15, mR 1 1), (.iconst 0, mI (nI 0)), (.bipush 8, mI (nI 8))]
theorem kX1_copyFrom_15 : mchk MX1_copyFrom 15 bX1_copyFrom_15 27 = true := by decide +kernel
theorem tX1_copyFrom_27 : mdk MX1_copyFrom 27 (.invokestatic 31) = true := by decide +kernel
def bX1_copyFrom_30 : List mB := [(.aload_n 1, mI 0), (.getfield 18, mR 1 2), (.iconst 0, mI (nI 0)), (.aload_n 0, mI 0), (.getfield 18, mR 1 2), (.iconst 0, mI (nI 0)), (.bipush 8, mI (nI 8))]
theorem kX1_copyFrom_30 : mchk MX1_copyFrom 30 bX1_copyFrom_30 42 = true := by decide +kernel
theorem tX1_copyFrom_42 : mdk MX1_copyFrom 42 (.invokestatic 31) = true := by decide +kernel
def bX1_copyFrom_45 : List mB := [(.aload_n 1, mI 0), (.getfield 21, mR 1 3), (.iconst 0, mI (nI 0)), (.aload_n 0, mI 0), (.getfield 21, mR 1 3), (.iconst 0, mI (nI 0)), (.bipush 8, mI (nI 8))]
theorem kX1_copyFrom_45 : mchk MX1_copyFrom 45 bX1_copyFrom_45 57 = true := by decide +kernel
theorem tX1_copyFrom_57 : mdk MX1_copyFrom 57 (.invokestatic 31) = true := by decide +kernel
def bX1_copyFrom_60 : List mB := [(.aload_n 1, mI 0), (.getfield 24, mR 1 4), (.iconst 0, mI (nI 0)), (.aload_n 0, mI 0), (.getfield 24, mR 1 4), (.iconst 0, mI (nI 0)), (.bipush 64, mI (nI 64))]
theorem kX1_copyFrom_60 : mchk MX1_copyFrom 60 bX1_copyFrom_60 72 = true := by decide +kernel
theorem tX1_copyFrom_72 : mdk MX1_copyFrom 72 (.invokestatic 31) = true := by decide +kernel
def bX1_copyFrom_75 : List mB := [(.aload_n 0, mI 0), (.aload_n 1, mI 0), (.getfield 37, mR 1 5), (.putfield 37, mR 1 5), (.aload_n 0, mI 0), (.aload_n 1, mI 0), (.getfield 40, mR 1 6), (.putfield 40, mR 1 6), (.aload_n 0, mI 0), (.aload_n 1, mI 0), (.getfield 43, mR 1 7), (.putfield 43, mR 1 7), (.aload_n 0, mI 0), (.aload_n 1, mI 0), (.getfield 46, mR 1 8), (.putfield 46, mR 1 8), (.aload_n 0, mI 0), (.iconst 0, mI (nI 0)), (.putfield 49, mR 1 9), (.aload_n 0, mI 0), (.iconst (-1), mI (-1)), (.putfield 27, mR 1 10)]
theorem kX1_copyFrom_75 : mchk MX1_copyFrom 75 bX1_copyFrom_75 117 = true := by decide +kernel
theorem tX1_copyFrom_117 : mrk MX1_copyFrom 117 .return_ = true := by decide +kernel
def bX1_isCell_0 : List mB := [(.iload_n 0, mI 0)]
theorem kX1_isCell_0 : mchk MX1_isCell 0 bX1_isCell_0 1 = true := by decide +kernel
theorem tX1_isCell_1 : mbk MX1_isCell 1 (.ifCond .lt 13) 14 = true := by decide +kernel
def bX1_isCell_4 : List mB := [(.iload_n 0, mI 0), (.bipush 24, mI (nI 24))]
theorem kX1_isCell_4 : mchk MX1_isCell 4 bX1_isCell_4 7 = true := by decide +kernel
theorem tX1_isCell_7 : mbk MX1_isCell 7 (.if_icmp .ge 7) 14 = true := by decide +kernel
def bX1_isCell_10 : List mB := [(.iconst 1, mI (nI 1))]
theorem kX1_isCell_10 : mchk MX1_isCell 10 bX1_isCell_10 11 = true := by decide +kernel
theorem tX1_isCell_11 : mbk MX1_isCell 11 (.goto 4) 15 = true := by decide +kernel
def bX1_isCell_14 : List mB := [(.iconst 0, mI (nI 0))]
theorem kX1_isCell_14 : mchk MX1_isCell 14 bX1_isCell_14 15 = true := by decide +kernel
theorem tX1_isCell_15 : mrk MX1_isCell 15 .ireturn = true := by decide +kernel
def bX1_apart_0 : List mB := [(.iload_n 0, mI 0), (.bipush 6, mI (nI 6)), (.idiv, mI 0), (.iload_n 1, mI 0), (.bipush 6, mI (nI 6)), (.idiv, mI 0), (.isub, mI 0), (.istore_n 2, mI 0), (.iload_n 0, mI 0), (.bipush 6, mI (nI 6)), (.irem, mI 0), (.iload_n 1, mI 0), (.bipush 6, mI (nI 6)), (.irem, mI 0), (.isub, mI 0), (.istore_n 3, mI 0), (.iload_n 2, mI 0)]
theorem kX1_apart_0 : mchk MX1_apart 0 bX1_apart_0 21 = true := by decide +kernel
theorem tX1_apart_21 : mbk MX1_apart 21 (.ifCond .ge 8) 29 = true := by decide +kernel
def bX1_apart_24 : List mB := [(.iload_n 2, mI 0), (.ineg, mI 0)]
theorem kX1_apart_24 : mchk MX1_apart 24 bX1_apart_24 26 = true := by decide +kernel
theorem tX1_apart_26 : mbk MX1_apart 26 (.goto 4) 30 = true := by decide +kernel
def bX1_apart_29 : List mB := [(.iload_n 2, mI 0)]
theorem kX1_apart_29 : mchk MX1_apart 29 bX1_apart_29 30 = true := by decide +kernel
def bX1_apart_30 : List mB := [(.iload_n 3, mI 0)]
theorem kX1_apart_30 : mchk MX1_apart 30 bX1_apart_30 31 = true := by decide +kernel
theorem tX1_apart_31 : mbk MX1_apart 31 (.ifCond .ge 8) 39 = true := by decide +kernel
def bX1_apart_34 : List mB := [(.iload_n 3, mI 0), (.ineg, mI 0)]
theorem kX1_apart_34 : mchk MX1_apart 34 bX1_apart_34 36 = true := by decide +kernel
theorem tX1_apart_36 : mbk MX1_apart 36 (.goto 4) 40 = true := by decide +kernel
def bX1_apart_39 : List mB := [(.iload_n 3, mI 0)]
theorem kX1_apart_39 : mchk MX1_apart 39 bX1_apart_39 40 = true := by decide +kernel
def bX1_apart_40 : List mB := [(.iadd, mI 0)]
theorem kX1_apart_40 : mchk MX1_apart 40 bX1_apart_40 41 = true := by decide +kernel
theorem tX1_apart_41 : mrk MX1_apart 41 .ireturn = true := by decide +kernel
def bX1_has_0 : List mB := [(.iload_n 1, mI 0)]
theorem kX1_has_0 : mchk MX1_has 0 bX1_has_0 1 = true := by decide +kernel
theorem tX1_has_1 : mbk MX1_has 1 (.ifCond .lt 15) 16 = true := by decide +kernel
def bX1_has_4 : List mB := [(.iload_n 1, mI 0), (.aload_n 0, mI 0), (.getfield 37, mR 1 5)]
theorem kX1_has_4 : mchk MX1_has 4 bX1_has_4 9 = true := by decide +kernel
theorem tX1_has_9 : mbk MX1_has 9 (.if_icmp .ge 7) 16 = true := by decide +kernel
def bX1_has_12 : List mB := [(.iconst 1, mI (nI 1))]
theorem kX1_has_12 : mchk MX1_has 12 bX1_has_12 13 = true := by decide +kernel
theorem tX1_has_13 : mbk MX1_has 13 (.goto 4) 17 = true := by decide +kernel
def bX1_has_16 : List mB := [(.iconst 0, mI (nI 0))]
theorem kX1_has_16 : mchk MX1_has 16 bX1_has_16 17 = true := by decide +kernel
theorem tX1_has_17 : mrk MX1_has 17 .ireturn = true := by decide +kernel
def bX1_kindOf_0 : List mB := [(.aload_n 0, mI 0), (.iload_n 1, mI 0)]
theorem kX1_kindOf_0 : mchk MX1_kindOf 0 bX1_kindOf_0 2 = true := by decide +kernel
theorem tX1_kindOf_2 : mdk MX1_kindOf 2 (.invokevirtual 52) = true := by decide +kernel
theorem tX1_kindOf_5 : mbk MX1_kindOf 5 (.ifCond .eq 12) 17 = true := by decide +kernel
def bX1_kindOf_8 : List mB := [(.aload_n 0, mI 0), (.getfield 11, mR 1 0), (.iload_n 1, mI 0), (.iaload, mI 0)]
theorem kX1_kindOf_8 : mchk MX1_kindOf 8 bX1_kindOf_8 14 = true := by decide +kernel
theorem tX1_kindOf_14 : mbk MX1_kindOf 14 (.goto 4) 18 = true := by decide +kernel
def bX1_kindOf_17 : List mB := [(.iconst 0, mI (nI 0))]
theorem kX1_kindOf_17 : mchk MX1_kindOf 17 bX1_kindOf_17 18 = true := by decide +kernel
theorem tX1_kindOf_18 : mrk MX1_kindOf 18 .ireturn = true := by decide +kernel
def bX1_cellOf_0 : List mB := [(.aload_n 0, mI 0), (.iload_n 1, mI 0)]
theorem kX1_cellOf_0 : mchk MX1_cellOf 0 bX1_cellOf_0 2 = true := by decide +kernel
theorem tX1_cellOf_2 : mdk MX1_cellOf 2 (.invokevirtual 52) = true := by decide +kernel
theorem tX1_cellOf_5 : mbk MX1_cellOf 5 (.ifCond .eq 12) 17 = true := by decide +kernel
def bX1_cellOf_8 : List mB := [(.aload_n 0, mI 0), (.getfield 15, mR 1 1), (.iload_n 1, mI 0), (.iaload, mI 0)]
theorem kX1_cellOf_8 : mchk MX1_cellOf 8 bX1_cellOf_8 14 = true := by decide +kernel
theorem tX1_cellOf_14 : mbk MX1_cellOf 14 (.goto 4) 18 = true := by decide +kernel
def bX1_cellOf_17 : List mB := [(.iconst 0, mI (nI 0))]
theorem kX1_cellOf_17 : mchk MX1_cellOf 17 bX1_cellOf_17 18 = true := by decide +kernel
theorem tX1_cellOf_18 : mrk MX1_cellOf 18 .ireturn = true := by decide +kernel
def bX1_friendOf_0 : List mB := [(.aload_n 0, mI 0), (.iload_n 1, mI 0)]
theorem kX1_friendOf_0 : mchk MX1_friendOf 0 bX1_friendOf_0 2 = true := by decide +kernel
theorem tX1_friendOf_2 : mdk MX1_friendOf 2 (.invokevirtual 52) = true := by decide +kernel
theorem tX1_friendOf_5 : mbk MX1_friendOf 5 (.ifCond .eq 12) 17 = true := by decide +kernel
def bX1_friendOf_8 : List mB := [(.aload_n 0, mI 0), (.getfield 18, mR 1 2), (.iload_n 1, mI 0), (.iaload, mI 0)]
theorem kX1_friendOf_8 : mchk MX1_friendOf 8 bX1_friendOf_8 14 = true := by decide +kernel
theorem tX1_friendOf_14 : mbk MX1_friendOf 14 (.goto 4) 18 = true := by decide +kernel
def bX1_friendOf_17 : List mB := [(.iconst 0, mI (nI 0))]
theorem kX1_friendOf_17 : mchk MX1_friendOf 17 bX1_friendOf_17 18 = true := by decide +kernel
theorem tX1_friendOf_18 : mrk MX1_friendOf 18 .ireturn = true := by decide +kernel
def bX1_tiredOf_0 : List mB := [(.aload_n 0, mI 0), (.iload_n 1, mI 0)]
theorem kX1_tiredOf_0 : mchk MX1_tiredOf 0 bX1_tiredOf_0 2 = true := by decide +kernel
theorem tX1_tiredOf_2 : mdk MX1_tiredOf 2 (.invokevirtual 52) = true := by decide +kernel
theorem tX1_tiredOf_5 : mbk MX1_tiredOf 5 (.ifCond .eq 12) 17 = true := by decide +kernel
def bX1_tiredOf_8 : List mB := [(.aload_n 0, mI 0), (.getfield 21, mR 1 3), (.iload_n 1, mI 0), (.iaload, mI 0)]
theorem kX1_tiredOf_8 : mchk MX1_tiredOf 8 bX1_tiredOf_8 14 = true := by decide +kernel
theorem tX1_tiredOf_14 : mbk MX1_tiredOf 14 (.goto 4) 18 = true := by decide +kernel
def bX1_tiredOf_17 : List mB := [(.iconst 0, mI (nI 0))]
theorem kX1_tiredOf_17 : mchk MX1_tiredOf 17 bX1_tiredOf_17 18 = true := by decide +kernel
theorem tX1_tiredOf_18 : mrk MX1_tiredOf 18 .ireturn = true := by decide +kernel
def bX1_isStanding_0 : List mB := [(.aload_n 0, mI 0), (.iload_n 1, mI 0)]
theorem kX1_isStanding_0 : mchk MX1_isStanding 0 bX1_isStanding_0 2 = true := by decide +kernel
theorem tX1_isStanding_2 : mdk MX1_isStanding 2 (.invokevirtual 52) = true := by decide +kernel
theorem tX1_isStanding_5 : mbk MX1_isStanding 5 (.ifCond .eq 19) 24 = true := by decide +kernel
def bX1_isStanding_8 : List mB := [(.aload_n 0, mI 0), (.getfield 40, mR 1 6), (.iload_n 1, mI 0), (.ishr, mI 0), (.iconst 1, mI (nI 1)), (.iand, mI 0), (.iconst 1, mI (nI 1))]
theorem kX1_isStanding_8 : mchk MX1_isStanding 8 bX1_isStanding_8 17 = true := by decide +kernel
theorem tX1_isStanding_17 : mbk MX1_isStanding 17 (.if_icmp .ne 7) 24 = true := by decide +kernel
def bX1_isStanding_20 : List mB := [(.iconst 1, mI (nI 1))]
theorem kX1_isStanding_20 : mchk MX1_isStanding 20 bX1_isStanding_20 21 = true := by decide +kernel
theorem tX1_isStanding_21 : mbk MX1_isStanding 21 (.goto 4) 25 = true := by decide +kernel
def bX1_isStanding_24 : List mB := [(.iconst 0, mI (nI 0))]
theorem kX1_isStanding_24 : mchk MX1_isStanding 24 bX1_isStanding_24 25 = true := by decide +kernel
theorem tX1_isStanding_25 : mrk MX1_isStanding 25 .ireturn = true := by decide +kernel
def bX1_isCatcher_0 : List mB := [(.aload_n 0, mI 0), (.iload_n 1, mI 0)]
theorem kX1_isCatcher_0 : mchk MX1_isCatcher 0 bX1_isCatcher_0 2 = true := by decide +kernel
theorem tX1_isCatcher_2 : mdk MX1_isCatcher 2 (.invokevirtual 52) = true := by decide +kernel
theorem tX1_isCatcher_5 : mbk MX1_isCatcher 5 (.ifCond .eq 17) 22 = true := by decide +kernel
def bX1_isCatcher_8 : List mB := [(.aload_n 0, mI 0), (.getfield 11, mR 1 0), (.iload_n 1, mI 0), (.iaload, mI 0), (.iconst 4, mI (nI 4))]
theorem kX1_isCatcher_8 : mchk MX1_isCatcher 8 bX1_isCatcher_8 15 = true := by decide +kernel
theorem tX1_isCatcher_15 : mbk MX1_isCatcher 15 (.if_icmp .lt 7) 22 = true := by decide +kernel
def bX1_isCatcher_18 : List mB := [(.iconst 1, mI (nI 1))]
theorem kX1_isCatcher_18 : mchk MX1_isCatcher 18 bX1_isCatcher_18 19 = true := by decide +kernel
theorem tX1_isCatcher_19 : mbk MX1_isCatcher 19 (.goto 4) 23 = true := by decide +kernel
def bX1_isCatcher_22 : List mB := [(.iconst 0, mI (nI 0))]
theorem kX1_isCatcher_22 : mchk MX1_isCatcher 22 bX1_isCatcher_22 23 = true := by decide +kernel
theorem tX1_isCatcher_23 : mrk MX1_isCatcher 23 .ireturn = true := by decide +kernel
def bX1_freedBy_0 : List mB := [(.aload_n 0, mI 0), (.iload_n 1, mI 0)]
theorem kX1_freedBy_0 : mchk MX1_freedBy 0 bX1_freedBy_0 2 = true := by decide +kernel
theorem tX1_freedBy_2 : mdk MX1_freedBy 2 (.invokevirtual 52) = true := by decide +kernel
theorem tX1_freedBy_5 : mbk MX1_freedBy 5 (.ifCond .eq 25) 30 = true := by decide +kernel
def bX1_freedBy_8 : List mB := [(.aload_n 0, mI 0), (.iload_n 2, mI 0)]
theorem kX1_freedBy_8 : mchk MX1_freedBy 8 bX1_freedBy_8 10 = true := by decide +kernel
theorem tX1_freedBy_10 : mdk MX1_freedBy 10 (.invokevirtual 52) = true := by decide +kernel
theorem tX1_freedBy_13 : mbk MX1_freedBy 13 (.ifCond .eq 17) 30 = true := by decide +kernel
def bX1_freedBy_16 : List mB := [(.aload_n 0, mI 0), (.getfield 24, mR 1 4), (.bipush 8, mI (nI 8)), (.iload_n 1, mI 0), (.imul, mI 0), (.iload_n 2, mI 0), (.iadd, mI 0), (.iaload, mI 0)]
theorem kX1_freedBy_16 : mchk MX1_freedBy 16 bX1_freedBy_16 27 = true := by decide +kernel
theorem tX1_freedBy_27 : mbk MX1_freedBy 27 (.goto 4) 31 = true := by decide +kernel
def bX1_freedBy_30 : List mB := [(.iconst 0, mI (nI 0))]
theorem kX1_freedBy_30 : mchk MX1_freedBy 30 bX1_freedBy_30 31 = true := by decide +kernel
theorem tX1_freedBy_31 : mrk MX1_freedBy 31 .ireturn = true := by decide +kernel
def bX1_childrenCount_0 : List mB := [(.aload_n 0, mI 0), (.getfield 37, mR 1 5)]
theorem kX1_childrenCount_0 : mchk MX1_childrenCount 0 bX1_childrenCount_0 4 = true := by decide +kernel
theorem tX1_childrenCount_4 : mrk MX1_childrenCount 4 .ireturn = true := by decide +kernel
def bX1_standingBits_0 : List mB := [(.aload_n 0, mI 0), (.getfield 40, mR 1 6)]
theorem kX1_standingBits_0 : mchk MX1_standingBits 0 bX1_standingBits_0 4 = true := by decide +kernel
theorem tX1_standingBits_4 : mrk MX1_standingBits 4 .ireturn = true := by decide +kernel
def bX1_standingCount_0 : List mB := [(.aload_n 0, mI 0), (.getfield 40, mR 1 6)]
theorem kX1_standingCount_0 : mchk MX1_standingCount 0 bX1_standingCount_0 4 = true := by decide +kernel
theorem tX1_standingCount_4 : mdk MX1_standingCount 4 (.invokestatic 56) = true := by decide +kernel
theorem tX1_standingCount_7 : mrk MX1_standingCount 7 .ireturn = true := by decide +kernel
def bX1_lawNow_0 : List mB := [(.aload_n 0, mI 0), (.getfield 43, mR 1 7)]
theorem kX1_lawNow_0 : mchk MX1_lawNow 0 bX1_lawNow_0 4 = true := by decide +kernel
theorem tX1_lawNow_4 : mrk MX1_lawNow 4 .ireturn = true := by decide +kernel
def bX1_secondNow_0 : List mB := [(.aload_n 0, mI 0), (.getfield 46, mR 1 8)]
theorem kX1_secondNow_0 : mchk MX1_secondNow 0 bX1_secondNow_0 4 = true := by decide +kernel
theorem tX1_secondNow_4 : mrk MX1_secondNow 4 .ireturn = true := by decide +kernel
def bX1_freeingsSinceCopied_0 : List mB := [(.aload_n 0, mI 0), (.getfield 49, mR 1 9)]
theorem kX1_freeingsSinceCopied_0 : mchk MX1_freeingsSinceCopied 0 bX1_freeingsSinceCopied_0 4 = true := by decide +kernel
theorem tX1_freeingsSinceCopied_4 : mrk MX1_freeingsSinceCopied 4 .ireturn = true := by decide +kernel
def bX1_catcherCount_0 : List mB := [(.aload_n 0, mI 0), (.getfield 37, mR 1 5), (.aload_n 0, mI 0)]
theorem kX1_catcherCount_0 : mchk MX1_catcherCount 0 bX1_catcherCount_0 5 = true := by decide +kernel
theorem tX1_catcherCount_5 : mdk MX1_catcherCount 5 (.invokevirtual 62) = true := by decide +kernel
theorem tX1_catcherCount_8 : mdk MX1_catcherCount 8 (.invokestatic 56) = true := by decide +kernel
def bX1_catcherCount_11 : List mB := [(.isub, mI 0)]
theorem kX1_catcherCount_11 : mchk MX1_catcherCount 11 bX1_catcherCount_11 12 = true := by decide +kernel
theorem tX1_catcherCount_12 : mrk MX1_catcherCount 12 .ireturn = true := by decide +kernel
def bX1_tiredSum_0 : List mB := [(.iconst 0, mI (nI 0)), (.istore_n 1, mI 0), (.iconst 0, mI (nI 0)), (.istore_n 2, mI 0)]
theorem kX1_tiredSum_0 : mchk MX1_tiredSum 0 bX1_tiredSum_0 4 = true := by decide +kernel
def bX1_tiredSum_4 : List mB := [(.iload_n 2, mI 0), (.aload_n 0, mI 0), (.getfield 37, mR 1 5)]
theorem kX1_tiredSum_4 : mchk MX1_tiredSum 4 bX1_tiredSum_4 9 = true := by decide +kernel
theorem tX1_tiredSum_9 : mbk MX1_tiredSum 9 (.if_icmp .ge 18) 27 = true := by decide +kernel
def bX1_tiredSum_12 : List mB := [(.iload_n 1, mI 0), (.aload_n 0, mI 0), (.getfield 21, mR 1 3), (.iload_n 2, mI 0), (.iaload, mI 0), (.iadd, mI 0), (.istore_n 1, mI 0), (.iinc 2 1, mI (nI 1))]
theorem kX1_tiredSum_12 : mchk MX1_tiredSum 12 bX1_tiredSum_12 24 = true := by decide +kernel
theorem tX1_tiredSum_24 : mbk MX1_tiredSum 24 (.goto (-20)) 4 = true := by decide +kernel
def bX1_tiredSum_27 : List mB := [(.iload_n 1, mI 0)]
theorem kX1_tiredSum_27 : mchk MX1_tiredSum 27 bX1_tiredSum_27 28 = true := by decide +kernel
theorem tX1_tiredSum_28 : mrk MX1_tiredSum 28 .ireturn = true := by decide +kernel
def bX1_freedSum_0 : List mB := [(.iconst 0, mI (nI 0)), (.istore_n 1, mI 0), (.iconst 0, mI (nI 0)), (.istore_n 2, mI 0)]
theorem kX1_freedSum_0 : mchk MX1_freedSum 0 bX1_freedSum_0 4 = true := by decide +kernel
def bX1_freedSum_4 : List mB := [(.iload_n 2, mI 0), (.aload_n 0, mI 0), (.getfield 24, mR 1 4), (.arraylength, mI 0)]
theorem kX1_freedSum_4 : mchk MX1_freedSum 4 bX1_freedSum_4 10 = true := by decide +kernel
theorem tX1_freedSum_10 : mbk MX1_freedSum 10 (.if_icmp .ge 18) 28 = true := by decide +kernel
def bX1_freedSum_13 : List mB := [(.iload_n 1, mI 0), (.aload_n 0, mI 0), (.getfield 24, mR 1 4), (.iload_n 2, mI 0), (.iaload, mI 0), (.iadd, mI 0), (.istore_n 1, mI 0), (.iinc 2 1, mI (nI 1))]
theorem kX1_freedSum_13 : mchk MX1_freedSum 13 bX1_freedSum_13 25 = true := by decide +kernel
theorem tX1_freedSum_25 : mbk MX1_freedSum 25 (.goto (-21)) 4 = true := by decide +kernel
def bX1_freedSum_28 : List mB := [(.iload_n 1, mI 0)]
theorem kX1_freedSum_28 : mchk MX1_freedSum 28 bX1_freedSum_28 29 = true := by decide +kernel
theorem tX1_freedSum_29 : mrk MX1_freedSum 29 .ireturn = true := by decide +kernel
def bX1_hasPlayers_0 : List mB := [(.aload_n 0, mI 0)]
theorem kX1_hasPlayers_0 : mchk MX1_hasPlayers 0 bX1_hasPlayers_0 1 = true := by decide +kernel
theorem tX1_hasPlayers_1 : mdk MX1_hasPlayers 1 (.invokevirtual 62) = true := by decide +kernel
theorem tX1_hasPlayers_4 : mbk MX1_hasPlayers 4 (.ifCond .eq 7) 11 = true := by decide +kernel
def bX1_hasPlayers_7 : List mB := [(.iconst 1, mI (nI 1))]
theorem kX1_hasPlayers_7 : mchk MX1_hasPlayers 7 bX1_hasPlayers_7 8 = true := by decide +kernel
theorem tX1_hasPlayers_8 : mbk MX1_hasPlayers 8 (.goto 4) 12 = true := by decide +kernel
def bX1_hasPlayers_11 : List mB := [(.iconst 0, mI (nI 0))]
theorem kX1_hasPlayers_11 : mchk MX1_hasPlayers 11 bX1_hasPlayers_11 12 = true := by decide +kernel
theorem tX1_hasPlayers_12 : mrk MX1_hasPlayers 12 .ireturn = true := by decide +kernel
def bX1_isOver_0 : List mB := [(.aload_n 0, mI 0)]
theorem kX1_isOver_0 : mchk MX1_isOver 0 bX1_isOver_0 1 = true := by decide +kernel
theorem tX1_isOver_1 : mdk MX1_isOver 1 (.invokevirtual 66) = true := by decide +kernel
theorem tX1_isOver_4 : mbk MX1_isOver 4 (.ifCond .eq 18) 22 = true := by decide +kernel
def bX1_isOver_7 : List mB := [(.aload_n 0, mI 0), (.getfield 40, mR 1 6), (.aload_n 0, mI 0)]
theorem kX1_isOver_7 : mchk MX1_isOver 7 bX1_isOver_7 12 = true := by decide +kernel
theorem tX1_isOver_12 : mdk MX1_isOver 12 (.invokevirtual 62) = true := by decide +kernel
theorem tX1_isOver_15 : mbk MX1_isOver 15 (.if_icmp .ne 7) 22 = true := by decide +kernel
def bX1_isOver_18 : List mB := [(.iconst 1, mI (nI 1))]
theorem kX1_isOver_18 : mchk MX1_isOver 18 bX1_isOver_18 19 = true := by decide +kernel
theorem tX1_isOver_19 : mbk MX1_isOver 19 (.goto 4) 23 = true := by decide +kernel
def bX1_isOver_22 : List mB := [(.iconst 0, mI (nI 0))]
theorem kX1_isOver_22 : mchk MX1_isOver 22 bX1_isOver_22 23 = true := by decide +kernel
theorem tX1_isOver_23 : mrk MX1_isOver 23 .ireturn = true := by decide +kernel
def bX1_add_0 : List mB := [(.iload_n 1, mI 0)]
theorem kX1_add_0 : mchk MX1_add 0 bX1_add_0 1 = true := by decide +kernel
theorem tX1_add_1 : mbk MX1_add 1 (.ifCond .lt 33) 34 = true := by decide +kernel
def bX1_add_4 : List mB := [(.iload_n 1, mI 0), (.ldc 70, mR 30 5)]
theorem kX1_add_4 : mchk MX1_add 4 bX1_add_4 7 = true := by decide +kernel
theorem tX1_add_7 : mdk MX1_add 7 (.invokevirtual 72) = true := by decide +kernel
theorem tX1_add_10 : mbk MX1_add 10 (.if_icmp .ge 24) 34 = true := by decide +kernel
def bX1_add_13 : List mB := [(.iload_n 2, mI 0)]
theorem kX1_add_13 : mchk MX1_add 13 bX1_add_13 14 = true := by decide +kernel
theorem tX1_add_14 : mdk MX1_add 14 (.invokestatic 77) = true := by decide +kernel
theorem tX1_add_17 : mbk MX1_add 17 (.ifCond .eq 17) 34 = true := by decide +kernel
def bX1_add_20 : List mB := [(.iload_n 3, mI 0)]
theorem kX1_add_20 : mchk MX1_add 20 bX1_add_20 21 = true := by decide +kernel
theorem tX1_add_21 : mbk MX1_add 21 (.ifCond .lt 13) 34 = true := by decide +kernel
def bX1_add_24 : List mB := [(.iload_n 3, mI 0), (.bipush 8, mI (nI 8))]
theorem kX1_add_24 : mchk MX1_add 24 bX1_add_24 27 = true := by decide +kernel
theorem tX1_add_27 : mbk MX1_add 27 (.if_icmp .ge 7) 34 = true := by decide +kernel
def bX1_add_30 : List mB := [(.iconst 1, mI (nI 1))]
theorem kX1_add_30 : mchk MX1_add 30 bX1_add_30 31 = true := by decide +kernel
theorem tX1_add_31 : mbk MX1_add 31 (.goto 4) 35 = true := by decide +kernel
def bX1_add_34 : List mB := [(.iconst 0, mI (nI 0))]
theorem kX1_add_34 : mchk MX1_add 34 bX1_add_34 35 = true := by decide +kernel
def bX1_add_35 : List mB := [(.istore 4, mI 0), (.iload 4, mI 0)]
theorem kX1_add_35 : mchk MX1_add 35 bX1_add_35 39 = true := by decide +kernel
theorem tX1_add_39 : mbk MX1_add 39 (.ifCond .eq 12) 51 = true := by decide +kernel
def bX1_add_42 : List mB := [(.aload_n 0, mI 0), (.getfield 37, mR 1 5), (.bipush 8, mI (nI 8))]
theorem kX1_add_42 : mchk MX1_add 42 bX1_add_42 48 = true := by decide +kernel
theorem tX1_add_48 : mbk MX1_add 48 (.if_icmp .lt 5) 53 = true := by decide +kernel
def bX1_add_51 : List mB := [(.iconst 0, mI (nI 0))]
theorem kX1_add_51 : mchk MX1_add 51 bX1_add_51 52 = true := by decide +kernel
theorem tX1_add_52 : mrk MX1_add 52 .ireturn = true := by decide +kernel
def bX1_add_53 : List mB := [(.aload_n 0, mI 0), (.getfield 11, mR 1 0), (.aload_n 0, mI 0), (.getfield 37, mR 1 5), (.iload_n 1, mI 0), (.iastore, mI 0), (.aload_n 0, mI 0), (.getfield 15, mR 1 1), (.aload_n 0, mI 0), (.getfield 37, mR 1 5), (.iload_n 2, mI 0), (.iastore, mI 0), (.aload_n 0, mI 0), (.getfield 18, mR 1 2), (.aload_n 0, mI 0), (.getfield 37, mR 1 5), (.iload_n 3, mI 0), (.iastore, mI 0), (.aload_n 0, mI 0), (.dup, mI 0), (.getfield 37, mR 1 5), (.iconst 1, mI (nI 1)), (.iadd, mI 0), (.putfield 37, mR 1 5), (.iconst 1, mI (nI 1))]
theorem kX1_add_53 : mchk MX1_add 53 bX1_add_53 94 = true := by decide +kernel
theorem tX1_add_94 : mrk MX1_add 94 .ireturn = true := by decide +kernel
def bX1_turnOver_0 : List mB := [(.aload_n 0, mI 0), (.iload_n 1, mI 0)]
theorem kX1_turnOver_0 : mchk MX1_turnOver 0 bX1_turnOver_0 2 = true := by decide +kernel
theorem tX1_turnOver_2 : mdk MX1_turnOver 2 (.invokevirtual 52) = true := by decide +kernel
theorem tX1_turnOver_5 : mbk MX1_turnOver 5 (.ifCond .eq 11) 16 = true := by decide +kernel
def bX1_turnOver_8 : List mB := [(.aload_n 0, mI 0), (.iload_n 1, mI 0)]
theorem kX1_turnOver_8 : mchk MX1_turnOver 8 bX1_turnOver_8 10 = true := by decide +kernel
theorem tX1_turnOver_10 : mdk MX1_turnOver 10 (.invokevirtual 80) = true := by decide +kernel
theorem tX1_turnOver_13 : mbk MX1_turnOver 13 (.ifCond .eq 5) 18 = true := by decide +kernel
def bX1_turnOver_16 : List mB := [(.iconst 0, mI (nI 0))]
theorem kX1_turnOver_16 : mchk MX1_turnOver 16 bX1_turnOver_16 17 = true := by decide +kernel
theorem tX1_turnOver_17 : mrk MX1_turnOver 17 .ireturn = true := by decide +kernel
def bX1_turnOver_18 : List mB := [(.aload_n 0, mI 0), (.dup, mI 0), (.getfield 40, mR 1 6), (.iconst 1, mI (nI 1)), (.iload_n 1, mI 0), (.ishl, mI 0), (.ixor, mI 0), (.putfield 40, mR 1 6), (.iconst 1, mI (nI 1))]
theorem kX1_turnOver_18 : mchk MX1_turnOver 18 bX1_turnOver_18 31 = true := by decide +kernel
theorem tX1_turnOver_31 : mrk MX1_turnOver 31 .ireturn = true := by decide +kernel
def bX1_setLaw_0 : List mB := [(.iload_n 1, mI 0)]
theorem kX1_setLaw_0 : mchk MX1_setLaw 0 bX1_setLaw_0 1 = true := by decide +kernel
theorem tX1_setLaw_1 : mbk MX1_setLaw 1 (.ifCond .lt 8) 9 = true := by decide +kernel
def bX1_setLaw_4 : List mB := [(.iload_n 1, mI 0), (.iconst 4, mI (nI 4))]
theorem kX1_setLaw_4 : mchk MX1_setLaw 4 bX1_setLaw_4 6 = true := by decide +kernel
theorem tX1_setLaw_6 : mbk MX1_setLaw 6 (.if_icmp .lt 5) 11 = true := by decide +kernel
def bX1_setLaw_9 : List mB := [(.iconst 0, mI (nI 0))]
theorem kX1_setLaw_9 : mchk MX1_setLaw 9 bX1_setLaw_9 10 = true := by decide +kernel
theorem tX1_setLaw_10 : mrk MX1_setLaw 10 .ireturn = true := by decide +kernel
def bX1_setLaw_11 : List mB := [(.aload_n 0, mI 0), (.iload_n 1, mI 0), (.putfield 43, mR 1 7), (.iconst 1, mI (nI 1))]
theorem kX1_setLaw_11 : mchk MX1_setLaw 11 bX1_setLaw_11 17 = true := by decide +kernel
theorem tX1_setLaw_17 : mrk MX1_setLaw 17 .ireturn = true := by decide +kernel
def bX1_put_0 : List mB := [(.aload_n 0, mI 0), (.iload_n 1, mI 0)]
theorem kX1_put_0 : mchk MX1_put 0 bX1_put_0 2 = true := by decide +kernel
theorem tX1_put_2 : mdk MX1_put 2 (.invokevirtual 52) = true := by decide +kernel
theorem tX1_put_5 : mbk MX1_put 5 (.ifCond .eq 10) 15 = true := by decide +kernel
def bX1_put_8 : List mB := [(.iload_n 2, mI 0)]
theorem kX1_put_8 : mchk MX1_put 8 bX1_put_8 9 = true := by decide +kernel
theorem tX1_put_9 : mdk MX1_put 9 (.invokestatic 77) = true := by decide +kernel
theorem tX1_put_12 : mbk MX1_put 12 (.ifCond .ne 5) 17 = true := by decide +kernel
def bX1_put_15 : List mB := [(.iconst 0, mI (nI 0))]
theorem kX1_put_15 : mchk MX1_put 15 bX1_put_15 16 = true := by decide +kernel
theorem tX1_put_16 : mrk MX1_put 16 .ireturn = true := by decide +kernel
def bX1_put_17 : List mB := [(.aload_n 0, mI 0), (.getfield 15, mR 1 1), (.iload_n 1, mI 0), (.iload_n 2, mI 0), (.iastore, mI 0), (.iconst 1, mI (nI 1))]
theorem kX1_put_17 : mchk MX1_put 17 bX1_put_17 25 = true := by decide +kernel
theorem tX1_put_25 : mrk MX1_put 25 .ireturn = true := by decide +kernel
def bX1_setKind_0 : List mB := [(.aload_n 0, mI 0), (.iload_n 1, mI 0)]
theorem kX1_setKind_0 : mchk MX1_setKind 0 bX1_setKind_0 2 = true := by decide +kernel
theorem tX1_setKind_2 : mdk MX1_setKind 2 (.invokevirtual 52) = true := by decide +kernel
theorem tX1_setKind_5 : mbk MX1_setKind 5 (.ifCond .eq 10) 15 = true := by decide +kernel
def bX1_setKind_8 : List mB := [(.aload_n 0, mI 0), (.getfield 11, mR 1 0), (.iload_n 1, mI 0), (.iload_n 2, mI 0), (.iastore, mI 0)]
theorem kX1_setKind_8 : mchk MX1_setKind 8 bX1_setKind_8 15 = true := by decide +kernel
theorem tX1_setKind_15 : mrk MX1_setKind 15 .return_ = true := by decide +kernel
def bX1_setAside_0 : List mB := [(.aload_n 0, mI 0), (.iload_n 1, mI 0), (.putfield 27, mR 1 10)]
theorem kX1_setAside_0 : mchk MX1_setAside 0 bX1_setAside_0 5 = true := by decide +kernel
theorem tX1_setAside_5 : mrk MX1_setAside 5 .return_ = true := by decide +kernel
def bX1_exchange_0 : List mB := [(.aload_n 0, mI 0), (.iload_n 1, mI 0)]
theorem kX1_exchange_0 : mchk MX1_exchange 0 bX1_exchange_0 2 = true := by decide +kernel
theorem tX1_exchange_2 : mdk MX1_exchange 2 (.invokevirtual 52) = true := by decide +kernel
theorem tX1_exchange_5 : mbk MX1_exchange 5 (.ifCond .eq 42) 47 = true := by decide +kernel
def bX1_exchange_8 : List mB := [(.aload_n 0, mI 0), (.iload_n 2, mI 0)]
theorem kX1_exchange_8 : mchk MX1_exchange 8 bX1_exchange_8 10 = true := by decide +kernel
theorem tX1_exchange_10 : mdk MX1_exchange 10 (.invokevirtual 52) = true := by decide +kernel
theorem tX1_exchange_13 : mbk MX1_exchange 13 (.ifCond .eq 34) 47 = true := by decide +kernel
def bX1_exchange_16 : List mB := [(.aload_n 0, mI 0), (.getfield 11, mR 1 0), (.iload_n 1, mI 0), (.iaload, mI 0), (.istore_n 3, mI 0), (.aload_n 0, mI 0), (.getfield 11, mR 1 0), (.iload_n 1, mI 0), (.aload_n 0, mI 0), (.getfield 11, mR 1 0), (.iload_n 2, mI 0), (.iaload, mI 0), (.iastore, mI 0), (.aload_n 0, mI 0), (.getfield 11, mR 1 0), (.iload_n 2, mI 0), (.iload_n 3, mI 0), (.iastore, mI 0), (.aload_n 0, mI 0), (.iload_n 2, mI 0)]
theorem kX1_exchange_16 : mchk MX1_exchange 16 bX1_exchange_16 44 = true := by decide +kernel
theorem tX1_exchange_44 : mdk MX1_exchange 44 (.invokevirtual 83) = true := by decide +kernel
theorem tX1_exchange_47 : mrk MX1_exchange 47 .return_ = true := by decide +kernel
def bX1_scatter_0 : List mB := [(.iload_n 1, mI 0), (.istore_n 2, mI 0), (.iconst 0, mI (nI 0)), (.istore_n 3, mI 0)]
theorem kX1_scatter_0 : mchk MX1_scatter 0 bX1_scatter_0 4 = true := by decide +kernel
def bX1_scatter_4 : List mB := [(.iload_n 3, mI 0), (.aload_n 0, mI 0), (.getfield 37, mR 1 5)]
theorem kX1_scatter_4 : mchk MX1_scatter 4 bX1_scatter_4 9 = true := by decide +kernel
theorem tX1_scatter_9 : mbk MX1_scatter 9 (.if_icmp .ge 41) 50 = true := by decide +kernel
def bX1_scatter_12 : List mB := [(.iload_n 2, mI 0), (.ldc 87, mI (nI 1664525)), (.imul, mI 0), (.ldc 88, mI (nI 1013904223)), (.iadd, mI 0), (.istore_n 2, mI 0), (.aload_n 0, mI 0), (.getfield 15, mR 1 1), (.iload_n 3, mI 0), (.iload_n 2, mI 0), (.ldc 89, mI (nI 2147483647)), (.iand, mI 0), (.sipush 256, mI (nI 256)), (.idiv, mI 0), (.bipush 24, mI (nI 24)), (.irem, mI 0), (.iastore, mI 0), (.aload_n 0, mI 0), (.getfield 21, mR 1 3), (.iload_n 3, mI 0), (.iconst 0, mI (nI 0)), (.iastore, mI 0), (.iinc 3 1, mI (nI 1))]
theorem kX1_scatter_12 : mchk MX1_scatter 12 bX1_scatter_12 47 = true := by decide +kernel
theorem tX1_scatter_47 : mbk MX1_scatter 47 (.goto (-43)) 4 = true := by decide +kernel
def bX1_scatter_50 : List mB := [(.aload_n 0, mI 0), (.iconst 0, mI (nI 0)), (.putfield 40, mR 1 6), (.iload_n 2, mI 0)]
theorem kX1_scatter_50 : mchk MX1_scatter 50 bX1_scatter_50 56 = true := by decide +kernel
theorem tX1_scatter_56 : mrk MX1_scatter 56 .ireturn = true := by decide +kernel
def bX1_couldFree_0 : List mB := [(.aload_n 0, mI 0), (.iload_n 1, mI 0)]
theorem kX1_couldFree_0 : mchk MX1_couldFree 0 bX1_couldFree_0 2 = true := by decide +kernel
theorem tX1_couldFree_2 : mdk MX1_couldFree 2 (.invokevirtual 52) = true := by decide +kernel
theorem tX1_couldFree_5 : mbk MX1_couldFree 5 (.ifCond .eq 11) 16 = true := by decide +kernel
def bX1_couldFree_8 : List mB := [(.aload_n 0, mI 0), (.iload_n 1, mI 0)]
theorem kX1_couldFree_8 : mchk MX1_couldFree 8 bX1_couldFree_8 10 = true := by decide +kernel
theorem tX1_couldFree_10 : mdk MX1_couldFree 10 (.invokevirtual 90) = true := by decide +kernel
theorem tX1_couldFree_13 : mbk MX1_couldFree 13 (.ifCond .eq 6) 19 = true := by decide +kernel
def bX1_couldFree_16 : List mB := [(.bipush (-9), mI (-9))]
theorem kX1_couldFree_16 : mchk MX1_couldFree 16 bX1_couldFree_16 18 = true := by decide +kernel
theorem tX1_couldFree_18 : mrk MX1_couldFree 18 .ireturn = true := by decide +kernel
def bX1_couldFree_19 : List mB := [(.aload_n 0, mI 0), (.iload_n 1, mI 0), (.aload_n 0, mI 0), (.getfield 40, mR 1 6), (.aload_n 0, mI 0), (.iload_n 1, mI 0)]
theorem kX1_couldFree_19 : mchk MX1_couldFree 19 bX1_couldFree_19 27 = true := by decide +kernel
theorem tX1_couldFree_27 : mdk MX1_couldFree 27 (.invokevirtual 93) = true := by decide +kernel
def bX1_couldFree_30 : List mB := [(.iand, mI 0)]
theorem kX1_couldFree_30 : mchk MX1_couldFree 30 bX1_couldFree_30 31 = true := by decide +kernel
theorem tX1_couldFree_31 : mdk MX1_couldFree 31 (.invokevirtual 96) = true := by decide +kernel
def bX1_couldFree_34 : List mB := [(.istore_n 2, mI 0), (.iload_n 2, mI 0), (.iconst (-1), mI (-1))]
theorem kX1_couldFree_34 : mchk MX1_couldFree 34 bX1_couldFree_34 37 = true := by decide +kernel
theorem tX1_couldFree_37 : mbk MX1_couldFree 37 (.if_icmp .ne 8) 45 = true := by decide +kernel
def bX1_couldFree_40 : List mB := [(.bipush (-9), mI (-9))]
theorem kX1_couldFree_40 : mchk MX1_couldFree 40 bX1_couldFree_40 42 = true := by decide +kernel
theorem tX1_couldFree_42 : mbk MX1_couldFree 42 (.goto 4) 46 = true := by decide +kernel
def bX1_couldFree_45 : List mB := [(.iload_n 2, mI 0)]
theorem kX1_couldFree_45 : mchk MX1_couldFree 45 bX1_couldFree_45 46 = true := by decide +kernel
theorem tX1_couldFree_46 : mrk MX1_couldFree 46 .ireturn = true := by decide +kernel
def bX1_hasFreerFor_0 : List mB := [(.iconst 0, mI (nI 0)), (.istore_n 2, mI 0)]
theorem kX1_hasFreerFor_0 : mchk MX1_hasFreerFor 0 bX1_hasFreerFor_0 2 = true := by decide +kernel
def bX1_hasFreerFor_2 : List mB := [(.iload_n 2, mI 0), (.aload_n 0, mI 0), (.getfield 37, mR 1 5)]
theorem kX1_hasFreerFor_2 : mchk MX1_hasFreerFor 2 bX1_hasFreerFor_2 7 = true := by decide +kernel
theorem tX1_hasFreerFor_7 : mbk MX1_hasFreerFor 7 (.if_icmp .ge 29) 36 = true := by decide +kernel
def bX1_hasFreerFor_10 : List mB := [(.iload_n 2, mI 0), (.iload_n 1, mI 0)]
theorem kX1_hasFreerFor_10 : mchk MX1_hasFreerFor 10 bX1_hasFreerFor_10 12 = true := by decide +kernel
theorem tX1_hasFreerFor_12 : mbk MX1_hasFreerFor 12 (.if_icmp .eq 18) 30 = true := by decide +kernel
def bX1_hasFreerFor_15 : List mB := [(.aload_n 0, mI 0), (.iload_n 2, mI 0)]
theorem kX1_hasFreerFor_15 : mchk MX1_hasFreerFor 15 bX1_hasFreerFor_15 17 = true := by decide +kernel
theorem tX1_hasFreerFor_17 : mdk MX1_hasFreerFor 17 (.invokevirtual 93) = true := by decide +kernel
def bX1_hasFreerFor_20 : List mB := [(.iload_n 1, mI 0), (.ishr, mI 0), (.iconst 1, mI (nI 1)), (.iand, mI 0), (.iconst 1, mI (nI 1))]
theorem kX1_hasFreerFor_20 : mchk MX1_hasFreerFor 20 bX1_hasFreerFor_20 25 = true := by decide +kernel
theorem tX1_hasFreerFor_25 : mbk MX1_hasFreerFor 25 (.if_icmp .ne 5) 30 = true := by decide +kernel
def bX1_hasFreerFor_28 : List mB := [(.iconst 1, mI (nI 1))]
theorem kX1_hasFreerFor_28 : mchk MX1_hasFreerFor 28 bX1_hasFreerFor_28 29 = true := by decide +kernel
theorem tX1_hasFreerFor_29 : mrk MX1_hasFreerFor 29 .ireturn = true := by decide +kernel
def bX1_hasFreerFor_30 : List mB := [(.iinc 2 1, mI (nI 1))]
theorem kX1_hasFreerFor_30 : mchk MX1_hasFreerFor 30 bX1_hasFreerFor_30 33 = true := by decide +kernel
theorem tX1_hasFreerFor_33 : mbk MX1_hasFreerFor 33 (.goto (-31)) 2 = true := by decide +kernel
def bX1_hasFreerFor_36 : List mB := [(.iconst 0, mI (nI 0))]
theorem kX1_hasFreerFor_36 : mchk MX1_hasFreerFor 36 bX1_hasFreerFor_36 37 = true := by decide +kernel
theorem tX1_hasFreerFor_37 : mrk MX1_hasFreerFor 37 .ireturn = true := by decide +kernel
def bX1_catcherApart_0 : List mB := [(.bipush 99, mI (nI 99)), (.istore_n 2, mI 0), (.iconst 0, mI (nI 0)), (.istore_n 3, mI 0)]
theorem kX1_catcherApart_0 : mchk MX1_catcherApart 0 bX1_catcherApart_0 5 = true := by decide +kernel
def bX1_catcherApart_5 : List mB := [(.iload_n 3, mI 0), (.aload_n 0, mI 0), (.getfield 37, mR 1 5)]
theorem kX1_catcherApart_5 : mchk MX1_catcherApart 5 bX1_catcherApart_5 10 = true := by decide +kernel
theorem tX1_catcherApart_10 : mbk MX1_catcherApart 10 (.if_icmp .ge 34) 44 = true := by decide +kernel
def bX1_catcherApart_13 : List mB := [(.aload_n 0, mI 0), (.getfield 11, mR 1 0), (.iload_n 3, mI 0), (.iaload, mI 0), (.iconst 4, mI (nI 4))]
theorem kX1_catcherApart_13 : mchk MX1_catcherApart 13 bX1_catcherApart_13 20 = true := by decide +kernel
theorem tX1_catcherApart_20 : mbk MX1_catcherApart 20 (.if_icmp .lt 18) 38 = true := by decide +kernel
def bX1_catcherApart_23 : List mB := [(.iload_n 2, mI 0), (.iload_n 1, mI 0), (.aload_n 0, mI 0), (.getfield 15, mR 1 1), (.iload_n 3, mI 0), (.iaload, mI 0)]
theorem kX1_catcherApart_23 : mchk MX1_catcherApart 23 bX1_catcherApart_23 31 = true := by decide +kernel
theorem tX1_catcherApart_31 : mdk MX1_catcherApart 31 (.invokestatic 100) = true := by decide +kernel
theorem tX1_catcherApart_34 : mdk MX1_catcherApart 34 (.invokestatic 103) = true := by decide +kernel
def bX1_catcherApart_37 : List mB := [(.istore_n 2, mI 0)]
theorem kX1_catcherApart_37 : mchk MX1_catcherApart 37 bX1_catcherApart_37 38 = true := by decide +kernel
def bX1_catcherApart_38 : List mB := [(.iinc 3 1, mI (nI 1))]
theorem kX1_catcherApart_38 : mchk MX1_catcherApart 38 bX1_catcherApart_38 41 = true := by decide +kernel
theorem tX1_catcherApart_41 : mbk MX1_catcherApart 41 (.goto (-36)) 5 = true := by decide +kernel
def bX1_catcherApart_44 : List mB := [(.iload_n 2, mI 0)]
theorem kX1_catcherApart_44 : mchk MX1_catcherApart 44 bX1_catcherApart_44 45 = true := by decide +kernel
theorem tX1_catcherApart_45 : mrk MX1_catcherApart 45 .ireturn = true := by decide +kernel
def bX1_passMany_0 : List mB := [(.iconst 0, mI (nI 0)), (.istore_n 2, mI 0)]
theorem kX1_passMany_0 : mchk MX1_passMany 0 bX1_passMany_0 2 = true := by decide +kernel
def bX1_passMany_2 : List mB := [(.iload_n 2, mI 0), (.iload_n 1, mI 0)]
theorem kX1_passMany_2 : mchk MX1_passMany 2 bX1_passMany_2 4 = true := by decide +kernel
theorem tX1_passMany_4 : mbk MX1_passMany 4 (.if_icmp .ge 13) 17 = true := by decide +kernel
def bX1_passMany_7 : List mB := [(.aload_n 0, mI 0)]
theorem kX1_passMany_7 : mchk MX1_passMany 7 bX1_passMany_7 8 = true := by decide +kernel
theorem tX1_passMany_8 : mdk MX1_passMany 8 (.invokevirtual 108) = true := by decide +kernel
def bX1_passMany_11 : List mB := [(.iinc 2 1, mI (nI 1))]
theorem kX1_passMany_11 : mchk MX1_passMany 11 bX1_passMany_11 14 = true := by decide +kernel
theorem tX1_passMany_14 : mbk MX1_passMany 14 (.goto (-12)) 2 = true := by decide +kernel
theorem tX1_passMany_17 : mrk MX1_passMany 17 .return_ = true := by decide +kernel
def bX1_pass_0 : List mB := [(.aload_n 0, mI 0), (.getfield 43, mR 1 7), (.iconst 3, mI (nI 3))]
theorem kX1_pass_0 : mchk MX1_pass 0 bX1_pass_0 5 = true := by decide +kernel
theorem tX1_pass_5 : mbk MX1_pass 5 (.if_icmp .ne 18) 23 = true := by decide +kernel
def bX1_pass_8 : List mB := [(.aload_n 0, mI 0), (.getfield 46, mR 1 8), (.bipush 10, mI (nI 10)), (.irem, mI 0)]
theorem kX1_pass_8 : mchk MX1_pass 8 bX1_pass_8 15 = true := by decide +kernel
theorem tX1_pass_15 : mbk MX1_pass 15 (.ifCond .ne 8) 23 = true := by decide +kernel
def bX1_pass_18 : List mB := [(.aload_n 0, mI 0), (.iconst 0, mI (nI 0)), (.putfield 40, mR 1 6)]
theorem kX1_pass_18 : mchk MX1_pass 18 bX1_pass_18 23 = true := by decide +kernel
def bX1_pass_23 : List mB := [(.iconst 0, mI (nI 0)), (.istore_n 1, mI 0)]
theorem kX1_pass_23 : mchk MX1_pass 23 bX1_pass_23 25 = true := by decide +kernel
def bX1_pass_25 : List mB := [(.iload_n 1, mI 0), (.aload_n 0, mI 0), (.getfield 37, mR 1 5)]
theorem kX1_pass_25 : mchk MX1_pass 25 bX1_pass_25 30 = true := by decide +kernel
theorem tX1_pass_30 : mbk MX1_pass 30 (.if_icmp .ge 30) 60 = true := by decide +kernel
def bX1_pass_33 : List mB := [(.aload_n 0, mI 0), (.iload_n 1, mI 0)]
theorem kX1_pass_33 : mchk MX1_pass 33 bX1_pass_33 35 = true := by decide +kernel
theorem tX1_pass_35 : mdk MX1_pass 35 (.invokevirtual 80) = true := by decide +kernel
theorem tX1_pass_38 : mbk MX1_pass 38 (.ifCond .eq 11) 49 = true := by decide +kernel
def bX1_pass_41 : List mB := [(.aload_n 0, mI 0), (.iload_n 1, mI 0)]
theorem kX1_pass_41 : mchk MX1_pass 41 bX1_pass_41 43 = true := by decide +kernel
theorem tX1_pass_43 : mdk MX1_pass 43 (.invokevirtual 111) = true := by decide +kernel
theorem tX1_pass_46 : mbk MX1_pass 46 (.goto 8) 54 = true := by decide +kernel
def bX1_pass_49 : List mB := [(.aload_n 0, mI 0), (.iload_n 1, mI 0)]
theorem kX1_pass_49 : mchk MX1_pass 49 bX1_pass_49 51 = true := by decide +kernel
theorem tX1_pass_51 : mdk MX1_pass 51 (.invokevirtual 114) = true := by decide +kernel
def bX1_pass_54 : List mB := [(.iinc 1 1, mI (nI 1))]
theorem kX1_pass_54 : mchk MX1_pass 54 bX1_pass_54 57 = true := by decide +kernel
theorem tX1_pass_57 : mbk MX1_pass 57 (.goto (-32)) 25 = true := by decide +kernel
def bX1_pass_60 : List mB := [(.aload_n 0, mI 0), (.dup, mI 0), (.getfield 46, mR 1 8), (.iconst 1, mI (nI 1)), (.iadd, mI 0), (.putfield 46, mR 1 8)]
theorem kX1_pass_60 : mchk MX1_pass 60 bX1_pass_60 70 = true := by decide +kernel
theorem tX1_pass_70 : mrk MX1_pass 70 .return_ = true := by decide +kernel
def bX1_playerActs_0 : List mB := [(.aload_n 0, mI 0), (.iload_n 1, mI 0)]
theorem kX1_playerActs_0 : mchk MX1_playerActs 0 bX1_playerActs_0 2 = true := by decide +kernel
theorem tX1_playerActs_2 : mdk MX1_playerActs 2 (.invokevirtual 90) = true := by decide +kernel
theorem tX1_playerActs_5 : mbk MX1_playerActs 5 (.ifCond .ne 11) 16 = true := by decide +kernel
def bX1_playerActs_8 : List mB := [(.iload_n 1, mI 0), (.aload_n 0, mI 0), (.getfield 27, mR 1 10)]
theorem kX1_playerActs_8 : mchk MX1_playerActs 8 bX1_playerActs_8 13 = true := by decide +kernel
theorem tX1_playerActs_13 : mbk MX1_playerActs 13 (.if_icmp .ne 10) 23 = true := by decide +kernel
def bX1_playerActs_16 : List mB := [(.aload_n 0, mI 0), (.iload_n 1, mI 0), (.iconst (-1), mI (-1))]
theorem kX1_playerActs_16 : mchk MX1_playerActs 16 bX1_playerActs_16 19 = true := by decide +kernel
theorem tX1_playerActs_19 : mdk MX1_playerActs 19 (.invokevirtual 117) = true := by decide +kernel
theorem tX1_playerActs_22 : mrk MX1_playerActs 22 .return_ = true := by decide +kernel
def bX1_playerActs_23 : List mB := [(.aload_n 0, mI 0), (.getfield 21, mR 1 3), (.iload_n 1, mI 0), (.iaload, mI 0), (.bipush 9, mI (nI 9))]
theorem kX1_playerActs_23 : mchk MX1_playerActs 23 bX1_playerActs_23 31 = true := by decide +kernel
theorem tX1_playerActs_31 : mbk MX1_playerActs 31 (.if_icmp .ne 11) 42 = true := by decide +kernel
def bX1_playerActs_34 : List mB := [(.aload_n 0, mI 0), (.getfield 21, mR 1 3), (.iload_n 1, mI 0), (.iconst 0, mI (nI 0)), (.iastore, mI 0)]
theorem kX1_playerActs_34 : mchk MX1_playerActs 34 bX1_playerActs_34 41 = true := by decide +kernel
theorem tX1_playerActs_41 : mrk MX1_playerActs 41 .return_ = true := by decide +kernel
def bX1_playerActs_42 : List mB := [(.aload_n 0, mI 0), (.getfield 15, mR 1 1), (.iload_n 1, mI 0), (.iaload, mI 0), (.istore_n 2, mI 0), (.iconst 0, mI (nI 0)), (.istore_n 3, mI 0), (.aload_n 0, mI 0), (.getfield 11, mR 1 0), (.iload_n 1, mI 0), (.iaload, mI 0), (.iconst 1, mI (nI 1))]
theorem kX1_playerActs_42 : mchk MX1_playerActs 42 bX1_playerActs_42 58 = true := by decide +kernel
theorem tX1_playerActs_58 : mbk MX1_playerActs 58 (.if_icmp .eq 13) 71 = true := by decide +kernel
def bX1_playerActs_61 : List mB := [(.aload_n 0, mI 0), (.getfield 11, mR 1 0), (.iload_n 1, mI 0), (.iaload, mI 0), (.iconst 2, mI (nI 2))]
theorem kX1_playerActs_61 : mchk MX1_playerActs 61 bX1_playerActs_61 68 = true := by decide +kernel
theorem tX1_playerActs_68 : mbk MX1_playerActs 68 (.if_icmp .ne 12) 80 = true := by decide +kernel
def bX1_playerActs_71 : List mB := [(.aload_n 0, mI 0), (.iload_n 1, mI 0)]
theorem kX1_playerActs_71 : mchk MX1_playerActs 71 bX1_playerActs_71 73 = true := by decide +kernel
theorem tX1_playerActs_73 : mdk MX1_playerActs 73 (.invokevirtual 121) = true := by decide +kernel
def bX1_playerActs_76 : List mB := [(.istore_n 3, mI 0)]
theorem kX1_playerActs_76 : mchk MX1_playerActs 76 bX1_playerActs_76 77 = true := by decide +kernel
theorem tX1_playerActs_77 : mbk MX1_playerActs 77 (.goto 35) 112 = true := by decide +kernel
def bX1_playerActs_80 : List mB := [(.aload_n 0, mI 0), (.getfield 11, mR 1 0), (.iload_n 1, mI 0), (.iaload, mI 0), (.iconst 3, mI (nI 3))]
theorem kX1_playerActs_80 : mchk MX1_playerActs 80 bX1_playerActs_80 87 = true := by decide +kernel
theorem tX1_playerActs_87 : mbk MX1_playerActs 87 (.if_icmp .ne 25) 112 = true := by decide +kernel
def bX1_playerActs_90 : List mB := [(.iload_n 2, mI 0)]
theorem kX1_playerActs_90 : mchk MX1_playerActs 90 bX1_playerActs_90 91 = true := by decide +kernel
theorem tX1_playerActs_91 : mdk MX1_playerActs 91 (.invokestatic 124) = true := by decide +kernel
theorem tX1_playerActs_94 : mbk MX1_playerActs 94 (.ifCond .eq 16) 110 = true := by decide +kernel
def bX1_playerActs_97 : List mB := [(.aload_n 0, mI 0), (.iload_n 2, mI 0)]
theorem kX1_playerActs_97 : mchk MX1_playerActs 97 bX1_playerActs_97 99 = true := by decide +kernel
theorem tX1_playerActs_99 : mdk MX1_playerActs 99 (.invokevirtual 127) = true := by decide +kernel
def bX1_playerActs_102 : List mB := [(.iconst 1, mI (nI 1))]
theorem kX1_playerActs_102 : mchk MX1_playerActs 102 bX1_playerActs_102 103 = true := by decide +kernel
theorem tX1_playerActs_103 : mbk MX1_playerActs 103 (.if_icmp .le 7) 110 = true := by decide +kernel
def bX1_playerActs_106 : List mB := [(.iconst 1, mI (nI 1))]
theorem kX1_playerActs_106 : mchk MX1_playerActs 106 bX1_playerActs_106 107 = true := by decide +kernel
theorem tX1_playerActs_107 : mbk MX1_playerActs 107 (.goto 4) 111 = true := by decide +kernel
def bX1_playerActs_110 : List mB := [(.iconst 0, mI (nI 0))]
theorem kX1_playerActs_110 : mchk MX1_playerActs 110 bX1_playerActs_110 111 = true := by decide +kernel
def bX1_playerActs_111 : List mB := [(.istore_n 3, mI 0)]
theorem kX1_playerActs_111 : mchk MX1_playerActs 111 bX1_playerActs_111 112 = true := by decide +kernel
def bX1_playerActs_112 : List mB := [(.iload_n 3, mI 0)]
theorem kX1_playerActs_112 : mchk MX1_playerActs 112 bX1_playerActs_112 113 = true := by decide +kernel
theorem tX1_playerActs_113 : mbk MX1_playerActs 113 (.ifCond .ne 8) 121 = true := by decide +kernel
def bX1_playerActs_116 : List mB := [(.aload_n 0, mI 0), (.iload_n 1, mI 0)]
theorem kX1_playerActs_116 : mchk MX1_playerActs 116 bX1_playerActs_116 118 = true := by decide +kernel
theorem tX1_playerActs_118 : mdk MX1_playerActs 118 (.invokevirtual 130) = true := by decide +kernel
def bX1_playerActs_121 : List mB := [(.aload_n 0, mI 0), (.iload_n 1, mI 0), (.aload_n 0, mI 0), (.getfield 15, mR 1 1), (.iload_n 1, mI 0), (.iaload, mI 0), (.iload_n 2, mI 0)]
theorem kX1_playerActs_121 : mchk MX1_playerActs 121 bX1_playerActs_121 130 = true := by decide +kernel
theorem tX1_playerActs_130 : mbk MX1_playerActs 130 (.if_icmp .ne 7) 137 = true := by decide +kernel
def bX1_playerActs_133 : List mB := [(.iconst (-1), mI (-1))]
theorem kX1_playerActs_133 : mchk MX1_playerActs 133 bX1_playerActs_133 134 = true := by decide +kernel
theorem tX1_playerActs_134 : mbk MX1_playerActs 134 (.goto 4) 138 = true := by decide +kernel
def bX1_playerActs_137 : List mB := [(.iconst 1, mI (nI 1))]
theorem kX1_playerActs_137 : mchk MX1_playerActs 137 bX1_playerActs_137 138 = true := by decide +kernel
theorem tX1_playerActs_138 : mdk MX1_playerActs 138 (.invokevirtual 117) = true := by decide +kernel
theorem tX1_playerActs_141 : mrk MX1_playerActs 141 .return_ = true := by decide +kernel
def bX1_tire_0 : List mB := [(.aload_n 0, mI 0), (.getfield 21, mR 1 3), (.iload_n 1, mI 0), (.iconst 0, mI (nI 0)), (.bipush 9, mI (nI 9)), (.aload_n 0, mI 0), (.getfield 21, mR 1 3), (.iload_n 1, mI 0), (.iaload, mI 0), (.iload_n 2, mI 0), (.iadd, mI 0)]
theorem kX1_tire_0 : mchk MX1_tire 0 bX1_tire_0 16 = true := by decide +kernel
theorem tX1_tire_16 : mdk MX1_tire 16 (.invokestatic 103) = true := by decide +kernel
theorem tX1_tire_19 : mdk MX1_tire 19 (.invokestatic 133) = true := by decide +kernel
def bX1_tire_22 : List mB := [(.iastore, mI 0)]
theorem kX1_tire_22 : mchk MX1_tire 22 bX1_tire_22 23 = true := by decide +kernel
theorem tX1_tire_23 : mrk MX1_tire 23 .return_ = true := by decide +kernel
def bX1_freesOrFetches_0 : List mB := [(.aload_n 0, mI 0), (.getfield 40, mR 1 6), (.aload_n 0, mI 0), (.iload_n 1, mI 0)]
theorem kX1_freesOrFetches_0 : mchk MX1_freesOrFetches 0 bX1_freesOrFetches_0 6 = true := by decide +kernel
theorem tX1_freesOrFetches_6 : mdk MX1_freesOrFetches 6 (.invokevirtual 93) = true := by decide +kernel
def bX1_freesOrFetches_9 : List mB := [(.iand, mI 0), (.istore_n 2, mI 0), (.aload_n 0, mI 0), (.iload_n 1, mI 0), (.iload_n 2, mI 0)]
theorem kX1_freesOrFetches_9 : mchk MX1_freesOrFetches 9 bX1_freesOrFetches_9 14 = true := by decide +kernel
theorem tX1_freesOrFetches_14 : mdk MX1_freesOrFetches 14 (.invokevirtual 96) = true := by decide +kernel
def bX1_freesOrFetches_17 : List mB := [(.istore_n 3, mI 0), (.iload_n 3, mI 0), (.iconst (-1), mI (-1))]
theorem kX1_freesOrFetches_17 : mchk MX1_freesOrFetches 17 bX1_freesOrFetches_17 20 = true := by decide +kernel
theorem tX1_freesOrFetches_20 : mbk MX1_freesOrFetches 20 (.if_icmp .eq 11) 31 = true := by decide +kernel
def bX1_freesOrFetches_23 : List mB := [(.aload_n 0, mI 0), (.iload_n 1, mI 0), (.iload_n 3, mI 0)]
theorem kX1_freesOrFetches_23 : mchk MX1_freesOrFetches 23 bX1_freesOrFetches_23 26 = true := by decide +kernel
theorem tX1_freesOrFetches_26 : mdk MX1_freesOrFetches 26 (.invokevirtual 136) = true := by decide +kernel
def bX1_freesOrFetches_29 : List mB := [(.iconst 1, mI (nI 1))]
theorem kX1_freesOrFetches_29 : mchk MX1_freesOrFetches 29 bX1_freesOrFetches_29 30 = true := by decide +kernel
theorem tX1_freesOrFetches_30 : mrk MX1_freesOrFetches 30 .ireturn = true := by decide +kernel
def bX1_freesOrFetches_31 : List mB := [(.aload_n 0, mI 0), (.iload_n 1, mI 0), (.iload_n 2, mI 0)]
theorem kX1_freesOrFetches_31 : mchk MX1_freesOrFetches 31 bX1_freesOrFetches_31 34 = true := by decide +kernel
theorem tX1_freesOrFetches_34 : mdk MX1_freesOrFetches 34 (.invokevirtual 139) = true := by decide +kernel
def bX1_freesOrFetches_37 : List mB := [(.istore 4, mI 0), (.iload 4, mI 0), (.iconst (-1), mI (-1))]
theorem kX1_freesOrFetches_37 : mchk MX1_freesOrFetches 37 bX1_freesOrFetches_37 42 = true := by decide +kernel
theorem tX1_freesOrFetches_42 : mbk MX1_freesOrFetches 42 (.if_icmp .eq 17) 59 = true := by decide +kernel
def bX1_freesOrFetches_45 : List mB := [(.aload_n 0, mI 0), (.aload_n 0, mI 0), (.getfield 15, mR 1 1), (.iload_n 1, mI 0), (.iaload, mI 0)]
theorem kX1_freesOrFetches_45 : mchk MX1_freesOrFetches 45 bX1_freesOrFetches_45 52 = true := by decide +kernel
theorem tX1_freesOrFetches_52 : mdk MX1_freesOrFetches 52 (.invokevirtual 127) = true := by decide +kernel
def bX1_freesOrFetches_55 : List mB := [(.iconst 2, mI (nI 2))]
theorem kX1_freesOrFetches_55 : mchk MX1_freesOrFetches 55 bX1_freesOrFetches_55 56 = true := by decide +kernel
theorem tX1_freesOrFetches_56 : mbk MX1_freesOrFetches 56 (.if_icmp .ge 5) 61 = true := by decide +kernel
def bX1_freesOrFetches_59 : List mB := [(.iconst 0, mI (nI 0))]
theorem kX1_freesOrFetches_59 : mchk MX1_freesOrFetches 59 bX1_freesOrFetches_59 60 = true := by decide +kernel
theorem tX1_freesOrFetches_60 : mrk MX1_freesOrFetches 60 .ireturn = true := by decide +kernel
def bX1_freesOrFetches_61 : List mB := [(.aload_n 0, mI 0), (.iload_n 1, mI 0), (.aload_n 0, mI 0), (.getfield 15, mR 1 1), (.iload 4, mI 0), (.iaload, mI 0)]
theorem kX1_freesOrFetches_61 : mchk MX1_freesOrFetches 61 bX1_freesOrFetches_61 70 = true := by decide +kernel
theorem tX1_freesOrFetches_70 : mdk MX1_freesOrFetches 70 (.invokevirtual 142) = true := by decide +kernel
def bX1_freesOrFetches_73 : List mB := [(.iconst 1, mI (nI 1))]
theorem kX1_freesOrFetches_73 : mchk MX1_freesOrFetches 73 bX1_freesOrFetches_73 74 = true := by decide +kernel
theorem tX1_freesOrFetches_74 : mrk MX1_freesOrFetches 74 .ireturn = true := by decide +kernel
def bX1_setFree_0 : List mB := [(.iconst 0, mI (nI 0)), (.istore_n 3, mI 0)]
theorem kX1_setFree_0 : mchk MX1_setFree 0 bX1_setFree_0 2 = true := by decide +kernel
def bX1_setFree_2 : List mB := [(.iload_n 3, mI 0), (.aload_n 0, mI 0), (.getfield 37, mR 1 5)]
theorem kX1_setFree_2 : mchk MX1_setFree 2 bX1_setFree_2 7 = true := by decide +kernel
theorem tX1_setFree_7 : mbk MX1_setFree 7 (.if_icmp .ge 113) 120 = true := by decide +kernel
def bX1_setFree_10 : List mB := [(.aload_n 0, mI 0), (.getfield 43, mR 1 7), (.iconst 2, mI (nI 2))]
theorem kX1_setFree_10 : mchk MX1_setFree 10 bX1_setFree_10 15 = true := by decide +kernel
theorem tX1_setFree_15 : mbk MX1_setFree 15 (.if_icmp .ne 30) 45 = true := by decide +kernel
def bX1_setFree_18 : List mB := [(.aload_n 0, mI 0), (.getfield 15, mR 1 1), (.iload_n 1, mI 0), (.iaload, mI 0), (.aload_n 0, mI 0), (.getfield 15, mR 1 1), (.iload_n 3, mI 0), (.iaload, mI 0)]
theorem kX1_setFree_18 : mchk MX1_setFree 18 bX1_setFree_18 30 = true := by decide +kernel
theorem tX1_setFree_30 : mdk MX1_setFree 30 (.invokestatic 100) = true := by decide +kernel
def bX1_setFree_33 : List mB := [(.iconst 1, mI (nI 1))]
theorem kX1_setFree_33 : mchk MX1_setFree 33 bX1_setFree_33 34 = true := by decide +kernel
theorem tX1_setFree_34 : mbk MX1_setFree 34 (.if_icmp .gt 7) 41 = true := by decide +kernel
def bX1_setFree_37 : List mB := [(.iconst 1, mI (nI 1))]
theorem kX1_setFree_37 : mchk MX1_setFree 37 bX1_setFree_37 38 = true := by decide +kernel
theorem tX1_setFree_38 : mbk MX1_setFree 38 (.goto 17) 55 = true := by decide +kernel
def bX1_setFree_41 : List mB := [(.iconst 0, mI (nI 0))]
theorem kX1_setFree_41 : mchk MX1_setFree 41 bX1_setFree_41 42 = true := by decide +kernel
theorem tX1_setFree_42 : mbk MX1_setFree 42 (.goto 13) 55 = true := by decide +kernel
def bX1_setFree_45 : List mB := [(.iload_n 3, mI 0), (.iload_n 2, mI 0)]
theorem kX1_setFree_45 : mchk MX1_setFree 45 bX1_setFree_45 47 = true := by decide +kernel
theorem tX1_setFree_47 : mbk MX1_setFree 47 (.if_icmp .ne 7) 54 = true := by decide +kernel
def bX1_setFree_50 : List mB := [(.iconst 1, mI (nI 1))]
theorem kX1_setFree_50 : mchk MX1_setFree 50 bX1_setFree_50 51 = true := by decide +kernel
theorem tX1_setFree_51 : mbk MX1_setFree 51 (.goto 4) 55 = true := by decide +kernel
def bX1_setFree_54 : List mB := [(.iconst 0, mI (nI 0))]
theorem kX1_setFree_54 : mchk MX1_setFree 54 bX1_setFree_54 55 = true := by decide +kernel
def bX1_setFree_55 : List mB := [(.istore 4, mI 0), (.iload 4, mI 0)]
theorem kX1_setFree_55 : mchk MX1_setFree 55 bX1_setFree_55 59 = true := by decide +kernel
theorem tX1_setFree_59 : mbk MX1_setFree 59 (.ifCond .eq 55) 114 = true := by decide +kernel
def bX1_setFree_62 : List mB := [(.aload_n 0, mI 0), (.iload_n 3, mI 0)]
theorem kX1_setFree_62 : mchk MX1_setFree 62 bX1_setFree_62 64 = true := by decide +kernel
theorem tX1_setFree_64 : mdk MX1_setFree 64 (.invokevirtual 90) = true := by decide +kernel
theorem tX1_setFree_67 : mbk MX1_setFree 67 (.ifCond .eq 47) 114 = true := by decide +kernel
def bX1_setFree_70 : List mB := [(.aload_n 0, mI 0), (.iload_n 3, mI 0)]
theorem kX1_setFree_70 : mchk MX1_setFree 70 bX1_setFree_70 72 = true := by decide +kernel
theorem tX1_setFree_72 : mdk MX1_setFree 72 (.invokevirtual 83) = true := by decide +kernel
def bX1_setFree_75 : List mB := [(.aload_n 0, mI 0), (.dup, mI 0), (.getfield 49, mR 1 9), (.iconst 1, mI (nI 1)), (.iadd, mI 0), (.putfield 49, mR 1 9), (.bipush 8, mI (nI 8)), (.iload_n 1, mI 0), (.imul, mI 0), (.iload_n 3, mI 0), (.iadd, mI 0), (.istore 5, mI 0), (.aload_n 0, mI 0), (.getfield 24, mR 1 4), (.iload 5, mI 0), (.bipush 99, mI (nI 99)), (.aload_n 0, mI 0), (.getfield 24, mR 1 4), (.iload 5, mI 0), (.iaload, mI 0), (.iconst 1, mI (nI 1)), (.iadd, mI 0)]
theorem kX1_setFree_75 : mchk MX1_setFree 75 bX1_setFree_75 110 = true := by decide +kernel
theorem tX1_setFree_110 : mdk MX1_setFree 110 (.invokestatic 103) = true := by decide +kernel
def bX1_setFree_113 : List mB := [(.iastore, mI 0)]
theorem kX1_setFree_113 : mchk MX1_setFree 113 bX1_setFree_113 114 = true := by decide +kernel
def bX1_setFree_114 : List mB := [(.iinc 3 1, mI (nI 1))]
theorem kX1_setFree_114 : mchk MX1_setFree 114 bX1_setFree_114 117 = true := by decide +kernel
theorem tX1_setFree_117 : mbk MX1_setFree 117 (.goto (-115)) 2 = true := by decide +kernel
theorem tX1_setFree_120 : mrk MX1_setFree 120 .return_ = true := by decide +kernel
def bX1_catcherActs_0 : List mB := [(.aload_n 0, mI 0), (.getfield 11, mR 1 0), (.iload_n 1, mI 0), (.iaload, mI 0), (.istore_n 2, mI 0), (.iload_n 2, mI 0), (.bipush 7, mI (nI 7))]
theorem kX1_catcherActs_0 : mchk MX1_catcherActs 0 bX1_catcherActs_0 10 = true := by decide +kernel
theorem tX1_catcherActs_10 : mbk MX1_catcherActs 10 (.if_icmp .ne 13) 23 = true := by decide +kernel
def bX1_catcherActs_13 : List mB := [(.aload_n 0, mI 0), (.getfield 46, mR 1 8), (.iconst 3, mI (nI 3)), (.irem, mI 0)]
theorem kX1_catcherActs_13 : mchk MX1_catcherActs 13 bX1_catcherActs_13 19 = true := by decide +kernel
theorem tX1_catcherActs_19 : mbk MX1_catcherActs 19 (.ifCond .ne 4) 23 = true := by decide +kernel
theorem tX1_catcherActs_22 : mrk MX1_catcherActs 22 .return_ = true := by decide +kernel
def bX1_catcherActs_23 : List mB := [(.aload_n 0, mI 0), (.iload_n 1, mI 0), (.aload_n 0, mI 0)]
theorem kX1_catcherActs_23 : mchk MX1_catcherActs 23 bX1_catcherActs_23 26 = true := by decide +kernel
theorem tX1_catcherActs_26 : mdk MX1_catcherActs 26 (.invokevirtual 145) = true := by decide +kernel
def bX1_catcherActs_29 : List mB := [(.aload_n 0, mI 0)]
theorem kX1_catcherActs_29 : mchk MX1_catcherActs 29 bX1_catcherActs_29 30 = true := by decide +kernel
theorem tX1_catcherActs_30 : mdk MX1_catcherActs 30 (.invokevirtual 148) = true := by decide +kernel
def bX1_catcherActs_33 : List mB := [(.iconst (-1), mI (-1)), (.ixor, mI 0), (.iand, mI 0)]
theorem kX1_catcherActs_33 : mchk MX1_catcherActs 33 bX1_catcherActs_33 36 = true := by decide +kernel
theorem tX1_catcherActs_36 : mdk MX1_catcherActs 36 (.invokevirtual 96) = true := by decide +kernel
def bX1_catcherActs_39 : List mB := [(.istore_n 3, mI 0), (.iload_n 3, mI 0), (.iconst (-1), mI (-1))]
theorem kX1_catcherActs_39 : mchk MX1_catcherActs 39 bX1_catcherActs_39 42 = true := by decide +kernel
theorem tX1_catcherActs_42 : mbk MX1_catcherActs 42 (.if_icmp .eq 18) 60 = true := by decide +kernel
def bX1_catcherActs_45 : List mB := [(.aload_n 0, mI 0), (.dup, mI 0), (.getfield 40, mR 1 6), (.iconst 1, mI (nI 1)), (.iload_n 3, mI 0), (.ishl, mI 0), (.ior, mI 0), (.putfield 40, mR 1 6)]
theorem kX1_catcherActs_45 : mchk MX1_catcherActs 45 bX1_catcherActs_45 57 = true := by decide +kernel
theorem tX1_catcherActs_57 : mbk MX1_catcherActs 57 (.goto 66) 123 = true := by decide +kernel
def bX1_catcherActs_60 : List mB := [(.iload_n 2, mI 0), (.bipush 6, mI (nI 6))]
theorem kX1_catcherActs_60 : mchk MX1_catcherActs 60 bX1_catcherActs_60 63 = true := by decide +kernel
theorem tX1_catcherActs_63 : mbk MX1_catcherActs 63 (.if_icmp .ne 11) 74 = true := by decide +kernel
def bX1_catcherActs_66 : List mB := [(.aload_n 0, mI 0), (.getfield 40, mR 1 6)]
theorem kX1_catcherActs_66 : mchk MX1_catcherActs 66 bX1_catcherActs_66 70 = true := by decide +kernel
theorem tX1_catcherActs_70 : mbk MX1_catcherActs 70 (.ifCond .eq 4) 74 = true := by decide +kernel
theorem tX1_catcherActs_73 : mrk MX1_catcherActs 73 .return_ = true := by decide +kernel
def bX1_catcherActs_74 : List mB := [(.iload_n 2, mI 0), (.iconst 5, mI (nI 5))]
theorem kX1_catcherActs_74 : mchk MX1_catcherActs 74 bX1_catcherActs_74 76 = true := by decide +kernel
theorem tX1_catcherActs_76 : mbk MX1_catcherActs 76 (.if_icmp .ne 18) 94 = true := by decide +kernel
def bX1_catcherActs_79 : List mB := [(.aload_n 0, mI 0), (.getfield 40, mR 1 6)]
theorem kX1_catcherActs_79 : mchk MX1_catcherActs 79 bX1_catcherActs_79 83 = true := by decide +kernel
theorem tX1_catcherActs_83 : mbk MX1_catcherActs 83 (.ifCond .eq 11) 94 = true := by decide +kernel
def bX1_catcherActs_86 : List mB := [(.aload_n 0, mI 0), (.iload_n 1, mI 0)]
theorem kX1_catcherActs_86 : mchk MX1_catcherActs 86 bX1_catcherActs_86 88 = true := by decide +kernel
theorem tX1_catcherActs_88 : mdk MX1_catcherActs 88 (.invokevirtual 151) = true := by decide +kernel
theorem tX1_catcherActs_91 : mbk MX1_catcherActs 91 (.goto 32) 123 = true := by decide +kernel
def bX1_catcherActs_94 : List mB := [(.aload_n 0, mI 0), (.iload_n 1, mI 0), (.aload_n 0, mI 0)]
theorem kX1_catcherActs_94 : mchk MX1_catcherActs 94 bX1_catcherActs_94 97 = true := by decide +kernel
theorem tX1_catcherActs_97 : mdk MX1_catcherActs 97 (.invokevirtual 145) = true := by decide +kernel
theorem tX1_catcherActs_100 : mdk MX1_catcherActs 100 (.invokevirtual 139) = true := by decide +kernel
def bX1_catcherActs_103 : List mB := [(.istore 4, mI 0), (.iload 4, mI 0), (.iconst (-1), mI (-1))]
theorem kX1_catcherActs_103 : mchk MX1_catcherActs 103 bX1_catcherActs_103 108 = true := by decide +kernel
theorem tX1_catcherActs_108 : mbk MX1_catcherActs 108 (.if_icmp .eq 15) 123 = true := by decide +kernel
def bX1_catcherActs_111 : List mB := [(.aload_n 0, mI 0), (.iload_n 1, mI 0), (.aload_n 0, mI 0), (.getfield 15, mR 1 1), (.iload 4, mI 0), (.iaload, mI 0)]
theorem kX1_catcherActs_111 : mchk MX1_catcherActs 111 bX1_catcherActs_111 120 = true := by decide +kernel
theorem tX1_catcherActs_120 : mdk MX1_catcherActs 120 (.invokevirtual 142) = true := by decide +kernel
theorem tX1_catcherActs_123 : mrk MX1_catcherActs 123 .return_ = true := by decide +kernel
def bX1_guards_0 : List mB := [(.aload_n 0, mI 0), (.iload_n 1, mI 0), (.aload_n 0, mI 0), (.getfield 40, mR 1 6)]
theorem kX1_guards_0 : mchk MX1_guards 0 bX1_guards_0 6 = true := by decide +kernel
theorem tX1_guards_6 : mdk MX1_guards 6 (.invokevirtual 139) = true := by decide +kernel
def bX1_guards_9 : List mB := [(.istore_n 2, mI 0), (.iload_n 2, mI 0), (.iconst (-1), mI (-1))]
theorem kX1_guards_9 : mchk MX1_guards 9 bX1_guards_9 12 = true := by decide +kernel
theorem tX1_guards_12 : mbk MX1_guards 12 (.if_icmp .eq 33) 45 = true := by decide +kernel
def bX1_guards_15 : List mB := [(.aload_n 0, mI 0), (.getfield 15, mR 1 1), (.iload_n 1, mI 0), (.iaload, mI 0), (.aload_n 0, mI 0), (.getfield 15, mR 1 1), (.iload_n 2, mI 0), (.iaload, mI 0)]
theorem kX1_guards_15 : mchk MX1_guards 15 bX1_guards_15 27 = true := by decide +kernel
theorem tX1_guards_27 : mdk MX1_guards 27 (.invokestatic 100) = true := by decide +kernel
def bX1_guards_30 : List mB := [(.iconst 1, mI (nI 1))]
theorem kX1_guards_30 : mchk MX1_guards 30 bX1_guards_30 31 = true := by decide +kernel
theorem tX1_guards_31 : mbk MX1_guards 31 (.if_icmp .le 14) 45 = true := by decide +kernel
def bX1_guards_34 : List mB := [(.aload_n 0, mI 0), (.iload_n 1, mI 0), (.aload_n 0, mI 0), (.getfield 15, mR 1 1), (.iload_n 2, mI 0), (.iaload, mI 0)]
theorem kX1_guards_34 : mchk MX1_guards 34 bX1_guards_34 42 = true := by decide +kernel
theorem tX1_guards_42 : mdk MX1_guards 42 (.invokevirtual 142) = true := by decide +kernel
theorem tX1_guards_45 : mrk MX1_guards 45 .return_ = true := by decide +kernel
def bX1_letRun_0 : List mB := [(.aload_n 0, mI 0), (.dup, mI 0), (.getfield 40, mR 1 6), (.iconst 1, mI (nI 1)), (.iload_n 1, mI 0), (.ishl, mI 0), (.iconst (-1), mI (-1)), (.ixor, mI 0), (.iand, mI 0), (.putfield 40, mR 1 6)]
theorem kX1_letRun_0 : mchk MX1_letRun 0 bX1_letRun_0 14 = true := by decide +kernel
theorem tX1_letRun_14 : mrk MX1_letRun 14 .return_ = true := by decide +kernel
def bX1_leastBeside_0 : List mB := [(.iconst 0, mI (nI 0)), (.istore_n 3, mI 0)]
theorem kX1_leastBeside_0 : mchk MX1_leastBeside 0 bX1_leastBeside_0 2 = true := by decide +kernel
def bX1_leastBeside_2 : List mB := [(.iload_n 3, mI 0), (.aload_n 0, mI 0), (.getfield 37, mR 1 5)]
theorem kX1_leastBeside_2 : mchk MX1_leastBeside 2 bX1_leastBeside_2 7 = true := by decide +kernel
theorem tX1_leastBeside_7 : mbk MX1_leastBeside 7 (.if_icmp .ge 39) 46 = true := by decide +kernel
def bX1_leastBeside_10 : List mB := [(.iload_n 2, mI 0), (.iload_n 3, mI 0), (.ishr, mI 0), (.iconst 1, mI (nI 1)), (.iand, mI 0), (.iconst 1, mI (nI 1))]
theorem kX1_leastBeside_10 : mchk MX1_leastBeside 10 bX1_leastBeside_10 16 = true := by decide +kernel
theorem tX1_leastBeside_16 : mbk MX1_leastBeside 16 (.if_icmp .ne 24) 40 = true := by decide +kernel
def bX1_leastBeside_19 : List mB := [(.aload_n 0, mI 0), (.getfield 15, mR 1 1), (.iload_n 1, mI 0), (.iaload, mI 0), (.aload_n 0, mI 0), (.getfield 15, mR 1 1), (.iload_n 3, mI 0), (.iaload, mI 0)]
theorem kX1_leastBeside_19 : mchk MX1_leastBeside 19 bX1_leastBeside_19 31 = true := by decide +kernel
theorem tX1_leastBeside_31 : mdk MX1_leastBeside 31 (.invokestatic 100) = true := by decide +kernel
def bX1_leastBeside_34 : List mB := [(.iconst 1, mI (nI 1))]
theorem kX1_leastBeside_34 : mchk MX1_leastBeside 34 bX1_leastBeside_34 35 = true := by decide +kernel
theorem tX1_leastBeside_35 : mbk MX1_leastBeside 35 (.if_icmp .gt 5) 40 = true := by decide +kernel
def bX1_leastBeside_38 : List mB := [(.iload_n 3, mI 0)]
theorem kX1_leastBeside_38 : mchk MX1_leastBeside 38 bX1_leastBeside_38 39 = true := by decide +kernel
theorem tX1_leastBeside_39 : mrk MX1_leastBeside 39 .ireturn = true := by decide +kernel
def bX1_leastBeside_40 : List mB := [(.iinc 3 1, mI (nI 1))]
theorem kX1_leastBeside_40 : mchk MX1_leastBeside 40 bX1_leastBeside_40 43 = true := by decide +kernel
theorem tX1_leastBeside_43 : mbk MX1_leastBeside 43 (.goto (-41)) 2 = true := by decide +kernel
def bX1_leastBeside_46 : List mB := [(.iconst (-1), mI (-1))]
theorem kX1_leastBeside_46 : mchk MX1_leastBeside 46 bX1_leastBeside_46 47 = true := by decide +kernel
theorem tX1_leastBeside_47 : mrk MX1_leastBeside 47 .ireturn = true := by decide +kernel
def bX1_nearest_0 : List mB := [(.iconst (-1), mI (-1)), (.istore_n 3, mI 0), (.bipush 99, mI (nI 99)), (.istore 4, mI 0), (.iconst 0, mI (nI 0)), (.istore 5, mI 0)]
theorem kX1_nearest_0 : mchk MX1_nearest 0 bX1_nearest_0 9 = true := by decide +kernel
def bX1_nearest_9 : List mB := [(.iload 5, mI 0), (.aload_n 0, mI 0), (.getfield 37, mR 1 5)]
theorem kX1_nearest_9 : mchk MX1_nearest 9 bX1_nearest_9 15 = true := by decide +kernel
theorem tX1_nearest_15 : mbk MX1_nearest 15 (.if_icmp .ge 51) 66 = true := by decide +kernel
def bX1_nearest_18 : List mB := [(.aload_n 0, mI 0), (.getfield 15, mR 1 1), (.iload_n 1, mI 0), (.iaload, mI 0), (.aload_n 0, mI 0), (.getfield 15, mR 1 1), (.iload 5, mI 0), (.iaload, mI 0)]
theorem kX1_nearest_18 : mchk MX1_nearest 18 bX1_nearest_18 31 = true := by decide +kernel
theorem tX1_nearest_31 : mdk MX1_nearest 31 (.invokestatic 100) = true := by decide +kernel
def bX1_nearest_34 : List mB := [(.istore 6, mI 0), (.iload_n 2, mI 0), (.iload 5, mI 0), (.ishr, mI 0), (.iconst 1, mI (nI 1)), (.iand, mI 0), (.iconst 1, mI (nI 1))]
theorem kX1_nearest_34 : mchk MX1_nearest 34 bX1_nearest_34 43 = true := by decide +kernel
theorem tX1_nearest_43 : mbk MX1_nearest 43 (.if_icmp .ne 17) 60 = true := by decide +kernel
def bX1_nearest_46 : List mB := [(.iload 6, mI 0), (.iload 4, mI 0)]
theorem kX1_nearest_46 : mchk MX1_nearest 46 bX1_nearest_46 50 = true := by decide +kernel
theorem tX1_nearest_50 : mbk MX1_nearest 50 (.if_icmp .ge 10) 60 = true := by decide +kernel
def bX1_nearest_53 : List mB := [(.iload 6, mI 0), (.istore 4, mI 0), (.iload 5, mI 0), (.istore_n 3, mI 0)]
theorem kX1_nearest_53 : mchk MX1_nearest 53 bX1_nearest_53 60 = true := by decide +kernel
def bX1_nearest_60 : List mB := [(.iinc 5 1, mI (nI 1))]
theorem kX1_nearest_60 : mchk MX1_nearest 60 bX1_nearest_60 63 = true := by decide +kernel
theorem tX1_nearest_63 : mbk MX1_nearest 63 (.goto (-54)) 9 = true := by decide +kernel
def bX1_nearest_66 : List mB := [(.iload_n 3, mI 0)]
theorem kX1_nearest_66 : mchk MX1_nearest 66 bX1_nearest_66 67 = true := by decide +kernel
theorem tX1_nearest_67 : mrk MX1_nearest 67 .ireturn = true := by decide +kernel
def bX1_playerBits_0 : List mB := [(.iconst 0, mI (nI 0)), (.istore_n 1, mI 0), (.iconst 0, mI (nI 0)), (.istore_n 2, mI 0)]
theorem kX1_playerBits_0 : mchk MX1_playerBits 0 bX1_playerBits_0 4 = true := by decide +kernel
def bX1_playerBits_4 : List mB := [(.iload_n 2, mI 0), (.aload_n 0, mI 0), (.getfield 37, mR 1 5)]
theorem kX1_playerBits_4 : mchk MX1_playerBits 4 bX1_playerBits_4 9 = true := by decide +kernel
theorem tX1_playerBits_9 : mbk MX1_playerBits 9 (.if_icmp .ge 25) 34 = true := by decide +kernel
def bX1_playerBits_12 : List mB := [(.aload_n 0, mI 0), (.getfield 11, mR 1 0), (.iload_n 2, mI 0), (.iaload, mI 0), (.iconst 4, mI (nI 4))]
theorem kX1_playerBits_12 : mchk MX1_playerBits 12 bX1_playerBits_12 19 = true := by decide +kernel
theorem tX1_playerBits_19 : mbk MX1_playerBits 19 (.if_icmp .ge 9) 28 = true := by decide +kernel
def bX1_playerBits_22 : List mB := [(.iload_n 1, mI 0), (.iconst 1, mI (nI 1)), (.iload_n 2, mI 0), (.ishl, mI 0), (.ior, mI 0), (.istore_n 1, mI 0)]
theorem kX1_playerBits_22 : mchk MX1_playerBits 22 bX1_playerBits_22 28 = true := by decide +kernel
def bX1_playerBits_28 : List mB := [(.iinc 2 1, mI (nI 1))]
theorem kX1_playerBits_28 : mchk MX1_playerBits 28 bX1_playerBits_28 31 = true := by decide +kernel
theorem tX1_playerBits_31 : mbk MX1_playerBits 31 (.goto (-27)) 4 = true := by decide +kernel
def bX1_playerBits_34 : List mB := [(.iload_n 1, mI 0)]
theorem kX1_playerBits_34 : mchk MX1_playerBits 34 bX1_playerBits_34 35 = true := by decide +kernel
theorem tX1_playerBits_35 : mrk MX1_playerBits 35 .ireturn = true := by decide +kernel
def bX1_runningBits_0 : List mB := [(.aload_n 0, mI 0)]
theorem kX1_runningBits_0 : mchk MX1_runningBits 0 bX1_runningBits_0 1 = true := by decide +kernel
theorem tX1_runningBits_1 : mdk MX1_runningBits 1 (.invokevirtual 62) = true := by decide +kernel
def bX1_runningBits_4 : List mB := [(.aload_n 0, mI 0), (.getfield 40, mR 1 6), (.iconst (-1), mI (-1)), (.ixor, mI 0), (.iand, mI 0)]
theorem kX1_runningBits_4 : mchk MX1_runningBits 4 bX1_runningBits_4 11 = true := by decide +kernel
theorem tX1_runningBits_11 : mrk MX1_runningBits 11 .ireturn = true := by decide +kernel
def bX1_safeBits_0 : List mB := [(.iconst 0, mI (nI 0)), (.istore_n 1, mI 0), (.iconst 0, mI (nI 0)), (.istore_n 2, mI 0)]
theorem kX1_safeBits_0 : mchk MX1_safeBits 0 bX1_safeBits_0 4 = true := by decide +kernel
def bX1_safeBits_4 : List mB := [(.iload_n 2, mI 0), (.aload_n 0, mI 0), (.getfield 37, mR 1 5)]
theorem kX1_safeBits_4 : mchk MX1_safeBits 4 bX1_safeBits_4 9 = true := by decide +kernel
theorem tX1_safeBits_9 : mbk MX1_safeBits 9 (.if_icmp .ge 43) 52 = true := by decide +kernel
def bX1_safeBits_12 : List mB := [(.iload_n 2, mI 0), (.aload_n 0, mI 0), (.getfield 27, mR 1 10)]
theorem kX1_safeBits_12 : mchk MX1_safeBits 12 bX1_safeBits_12 17 = true := by decide +kernel
theorem tX1_safeBits_17 : mbk MX1_safeBits 17 (.if_icmp .eq 23) 40 = true := by decide +kernel
def bX1_safeBits_20 : List mB := [(.aload_n 0, mI 0), (.getfield 43, mR 1 7), (.iconst 1, mI (nI 1))]
theorem kX1_safeBits_20 : mchk MX1_safeBits 20 bX1_safeBits_20 25 = true := by decide +kernel
theorem tX1_safeBits_25 : mbk MX1_safeBits 25 (.if_icmp .ne 21) 46 = true := by decide +kernel
def bX1_safeBits_28 : List mB := [(.aload_n 0, mI 0), (.getfield 15, mR 1 1), (.iload_n 2, mI 0), (.iaload, mI 0)]
theorem kX1_safeBits_28 : mchk MX1_safeBits 28 bX1_safeBits_28 34 = true := by decide +kernel
theorem tX1_safeBits_34 : mdk MX1_safeBits 34 (.invokestatic 124) = true := by decide +kernel
theorem tX1_safeBits_37 : mbk MX1_safeBits 37 (.ifCond .eq 9) 46 = true := by decide +kernel
def bX1_safeBits_40 : List mB := [(.iload_n 1, mI 0), (.iconst 1, mI (nI 1)), (.iload_n 2, mI 0), (.ishl, mI 0), (.ior, mI 0), (.istore_n 1, mI 0)]
theorem kX1_safeBits_40 : mchk MX1_safeBits 40 bX1_safeBits_40 46 = true := by decide +kernel
def bX1_safeBits_46 : List mB := [(.iinc 2 1, mI (nI 1))]
theorem kX1_safeBits_46 : mchk MX1_safeBits 46 bX1_safeBits_46 49 = true := by decide +kernel
theorem tX1_safeBits_49 : mbk MX1_safeBits 49 (.goto (-45)) 4 = true := by decide +kernel
def bX1_safeBits_52 : List mB := [(.iload_n 1, mI 0)]
theorem kX1_safeBits_52 : mchk MX1_safeBits 52 bX1_safeBits_52 53 = true := by decide +kernel
theorem tX1_safeBits_53 : mrk MX1_safeBits 53 .ireturn = true := by decide +kernel
def bX1_freeableBits_0 : List mB := [(.aload_n 0, mI 0), (.getfield 11, mR 1 0), (.iload_n 1, mI 0), (.iaload, mI 0), (.iconst 1, mI (nI 1))]
theorem kX1_freeableBits_0 : mchk MX1_freeableBits 0 bX1_freeableBits_0 7 = true := by decide +kernel
theorem tX1_freeableBits_7 : mbk MX1_freeableBits 7 (.if_icmp .ne 5) 12 = true := by decide +kernel
def bX1_freeableBits_10 : List mB := [(.iconst (-1), mI (-1))]
theorem kX1_freeableBits_10 : mchk MX1_freeableBits 10 bX1_freeableBits_10 11 = true := by decide +kernel
theorem tX1_freeableBits_11 : mrk MX1_freeableBits 11 .ireturn = true := by decide +kernel
def bX1_freeableBits_12 : List mB := [(.aload_n 0, mI 0), (.getfield 11, mR 1 0), (.iload_n 1, mI 0), (.iaload, mI 0), (.iconst 2, mI (nI 2))]
theorem kX1_freeableBits_12 : mchk MX1_freeableBits 12 bX1_freeableBits_12 19 = true := by decide +kernel
theorem tX1_freeableBits_19 : mbk MX1_freeableBits 19 (.if_icmp .ne 14) 33 = true := by decide +kernel
def bX1_freeableBits_22 : List mB := [(.iconst 1, mI (nI 1)), (.aload_n 0, mI 0), (.getfield 18, mR 1 2), (.iload_n 1, mI 0), (.iaload, mI 0), (.ishl, mI 0)]
theorem kX1_freeableBits_22 : mchk MX1_freeableBits 22 bX1_freeableBits_22 30 = true := by decide +kernel
theorem tX1_freeableBits_30 : mbk MX1_freeableBits 30 (.goto 4) 34 = true := by decide +kernel
def bX1_freeableBits_33 : List mB := [(.iconst 0, mI (nI 0))]
theorem kX1_freeableBits_33 : mchk MX1_freeableBits 33 bX1_freeableBits_33 34 = true := by decide +kernel
theorem tX1_freeableBits_34 : mrk MX1_freeableBits 34 .ireturn = true := by decide +kernel
def bX1_isEdge_0 : List mB := [(.iload_n 0, mI 0), (.bipush 6, mI (nI 6)), (.idiv, mI 0), (.istore_n 1, mI 0), (.iload_n 0, mI 0), (.bipush 6, mI (nI 6)), (.irem, mI 0), (.istore_n 2, mI 0), (.iload_n 1, mI 0)]
theorem kX1_isEdge_0 : mchk MX1_isEdge 0 bX1_isEdge_0 11 = true := by decide +kernel
theorem tX1_isEdge_11 : mbk MX1_isEdge 11 (.ifCond .eq 17) 28 = true := by decide +kernel
def bX1_isEdge_14 : List mB := [(.iload_n 1, mI 0), (.iconst 3, mI (nI 3))]
theorem kX1_isEdge_14 : mchk MX1_isEdge 14 bX1_isEdge_14 16 = true := by decide +kernel
theorem tX1_isEdge_16 : mbk MX1_isEdge 16 (.if_icmp .eq 12) 28 = true := by decide +kernel
def bX1_isEdge_19 : List mB := [(.iload_n 2, mI 0)]
theorem kX1_isEdge_19 : mchk MX1_isEdge 19 bX1_isEdge_19 20 = true := by decide +kernel
theorem tX1_isEdge_20 : mbk MX1_isEdge 20 (.ifCond .eq 8) 28 = true := by decide +kernel
def bX1_isEdge_23 : List mB := [(.iload_n 2, mI 0), (.iconst 5, mI (nI 5))]
theorem kX1_isEdge_23 : mchk MX1_isEdge 23 bX1_isEdge_23 25 = true := by decide +kernel
theorem tX1_isEdge_25 : mbk MX1_isEdge 25 (.if_icmp .ne 7) 32 = true := by decide +kernel
def bX1_isEdge_28 : List mB := [(.iconst 1, mI (nI 1))]
theorem kX1_isEdge_28 : mchk MX1_isEdge 28 bX1_isEdge_28 29 = true := by decide +kernel
theorem tX1_isEdge_29 : mbk MX1_isEdge 29 (.goto 4) 33 = true := by decide +kernel
def bX1_isEdge_32 : List mB := [(.iconst 0, mI (nI 0))]
theorem kX1_isEdge_32 : mchk MX1_isEdge 32 bX1_isEdge_32 33 = true := by decide +kernel
theorem tX1_isEdge_33 : mrk MX1_isEdge 33 .ireturn = true := by decide +kernel
def bX1_stepAway_0 : List mB := [(.aload_n 0, mI 0), (.getfield 15, mR 1 1), (.iload_n 1, mI 0), (.iaload, mI 0), (.istore_n 2, mI 0), (.iconst (-1), mI (-1)), (.istore_n 3, mI 0), (.iconst 0, mI (nI 0)), (.istore 4, mI 0)]
theorem kX1_stepAway_0 : mchk MX1_stepAway 0 bX1_stepAway_0 12 = true := by decide +kernel
def bX1_stepAway_12 : List mB := [(.iload 4, mI 0), (.iconst 5, mI (nI 5))]
theorem kX1_stepAway_12 : mchk MX1_stepAway 12 bX1_stepAway_12 15 = true := by decide +kernel
theorem tX1_stepAway_15 : mbk MX1_stepAway 15 (.if_icmp .ge 48) 63 = true := by decide +kernel
def bX1_stepAway_18 : List mB := [(.aload_n 0, mI 0), (.getfield 15, mR 1 1), (.iload_n 1, mI 0), (.iaload, mI 0), (.iload 4, mI 0)]
theorem kX1_stepAway_18 : mchk MX1_stepAway 18 bX1_stepAway_18 26 = true := by decide +kernel
theorem tX1_stepAway_26 : mdk MX1_stepAway 26 (.invokestatic 154) = true := by decide +kernel
def bX1_stepAway_29 : List mB := [(.istore 5, mI 0), (.iload 5, mI 0), (.iconst (-1), mI (-1))]
theorem kX1_stepAway_29 : mchk MX1_stepAway 29 bX1_stepAway_29 34 = true := by decide +kernel
theorem tX1_stepAway_34 : mbk MX1_stepAway 34 (.if_icmp .eq 23) 57 = true := by decide +kernel
def bX1_stepAway_37 : List mB := [(.aload_n 0, mI 0), (.iload 5, mI 0)]
theorem kX1_stepAway_37 : mchk MX1_stepAway 37 bX1_stepAway_37 40 = true := by decide +kernel
theorem tX1_stepAway_40 : mdk MX1_stepAway 40 (.invokevirtual 127) = true := by decide +kernel
def bX1_stepAway_43 : List mB := [(.iload_n 3, mI 0)]
theorem kX1_stepAway_43 : mchk MX1_stepAway 43 bX1_stepAway_43 44 = true := by decide +kernel
theorem tX1_stepAway_44 : mbk MX1_stepAway 44 (.if_icmp .le 13) 57 = true := by decide +kernel
def bX1_stepAway_47 : List mB := [(.aload_n 0, mI 0), (.iload 5, mI 0)]
theorem kX1_stepAway_47 : mchk MX1_stepAway 47 bX1_stepAway_47 50 = true := by decide +kernel
theorem tX1_stepAway_50 : mdk MX1_stepAway 50 (.invokevirtual 127) = true := by decide +kernel
def bX1_stepAway_53 : List mB := [(.istore_n 3, mI 0), (.iload 5, mI 0), (.istore_n 2, mI 0)]
theorem kX1_stepAway_53 : mchk MX1_stepAway 53 bX1_stepAway_53 57 = true := by decide +kernel
def bX1_stepAway_57 : List mB := [(.iinc 4 1, mI (nI 1))]
theorem kX1_stepAway_57 : mchk MX1_stepAway 57 bX1_stepAway_57 60 = true := by decide +kernel
theorem tX1_stepAway_60 : mbk MX1_stepAway 60 (.goto (-48)) 12 = true := by decide +kernel
def bX1_stepAway_63 : List mB := [(.aload_n 0, mI 0), (.getfield 15, mR 1 1), (.iload_n 1, mI 0), (.iload_n 2, mI 0), (.iastore, mI 0)]
theorem kX1_stepAway_63 : mchk MX1_stepAway 63 bX1_stepAway_63 70 = true := by decide +kernel
theorem tX1_stepAway_70 : mrk MX1_stepAway 70 .return_ = true := by decide +kernel
def bX1_stepToward_0 : List mB := [(.aload_n 0, mI 0), (.getfield 15, mR 1 1), (.iload_n 1, mI 0), (.iaload, mI 0), (.istore_n 3, mI 0), (.bipush 99, mI (nI 99)), (.istore 4, mI 0), (.iconst 0, mI (nI 0)), (.istore 5, mI 0)]
theorem kX1_stepToward_0 : mchk MX1_stepToward 0 bX1_stepToward_0 14 = true := by decide +kernel
def bX1_stepToward_14 : List mB := [(.iload 5, mI 0), (.iconst 5, mI (nI 5))]
theorem kX1_stepToward_14 : mchk MX1_stepToward 14 bX1_stepToward_14 17 = true := by decide +kernel
theorem tX1_stepToward_17 : mbk MX1_stepToward 17 (.if_icmp .ge 50) 67 = true := by decide +kernel
def bX1_stepToward_20 : List mB := [(.aload_n 0, mI 0), (.getfield 15, mR 1 1), (.iload_n 1, mI 0), (.iaload, mI 0), (.iload 5, mI 0)]
theorem kX1_stepToward_20 : mchk MX1_stepToward 20 bX1_stepToward_20 28 = true := by decide +kernel
theorem tX1_stepToward_28 : mdk MX1_stepToward 28 (.invokestatic 154) = true := by decide +kernel
def bX1_stepToward_31 : List mB := [(.istore 6, mI 0), (.iload 6, mI 0), (.iconst (-1), mI (-1))]
theorem kX1_stepToward_31 : mchk MX1_stepToward 31 bX1_stepToward_31 36 = true := by decide +kernel
theorem tX1_stepToward_36 : mbk MX1_stepToward 36 (.if_icmp .eq 25) 61 = true := by decide +kernel
def bX1_stepToward_39 : List mB := [(.iload 6, mI 0), (.iload_n 2, mI 0)]
theorem kX1_stepToward_39 : mchk MX1_stepToward 39 bX1_stepToward_39 42 = true := by decide +kernel
theorem tX1_stepToward_42 : mdk MX1_stepToward 42 (.invokestatic 100) = true := by decide +kernel
def bX1_stepToward_45 : List mB := [(.iload 4, mI 0)]
theorem kX1_stepToward_45 : mchk MX1_stepToward 45 bX1_stepToward_45 47 = true := by decide +kernel
theorem tX1_stepToward_47 : mbk MX1_stepToward 47 (.if_icmp .ge 14) 61 = true := by decide +kernel
def bX1_stepToward_50 : List mB := [(.iload 6, mI 0), (.iload_n 2, mI 0)]
theorem kX1_stepToward_50 : mchk MX1_stepToward 50 bX1_stepToward_50 53 = true := by decide +kernel
theorem tX1_stepToward_53 : mdk MX1_stepToward 53 (.invokestatic 100) = true := by decide +kernel
def bX1_stepToward_56 : List mB := [(.istore 4, mI 0), (.iload 6, mI 0), (.istore_n 3, mI 0)]
theorem kX1_stepToward_56 : mchk MX1_stepToward 56 bX1_stepToward_56 61 = true := by decide +kernel
def bX1_stepToward_61 : List mB := [(.iinc 5 1, mI (nI 1))]
theorem kX1_stepToward_61 : mchk MX1_stepToward 61 bX1_stepToward_61 64 = true := by decide +kernel
theorem tX1_stepToward_64 : mbk MX1_stepToward 64 (.goto (-50)) 14 = true := by decide +kernel
def bX1_stepToward_67 : List mB := [(.aload_n 0, mI 0), (.getfield 15, mR 1 1), (.iload_n 1, mI 0), (.iload_n 3, mI 0), (.iastore, mI 0)]
theorem kX1_stepToward_67 : mchk MX1_stepToward 67 bX1_stepToward_67 74 = true := by decide +kernel
theorem tX1_stepToward_74 : mrk MX1_stepToward 74 .return_ = true := by decide +kernel
def bX1_cellBehind_0 : List mB := [(.iload_n 0, mI 0), (.bipush 6, mI (nI 6)), (.idiv, mI 0), (.istore_n 2, mI 0), (.iload_n 0, mI 0), (.bipush 6, mI (nI 6)), (.irem, mI 0), (.istore_n 3, mI 0), (.iload_n 1, mI 0)]
theorem kX1_cellBehind_0 : mchk MX1_cellBehind 0 bX1_cellBehind_0 11 = true := by decide +kernel
def sX1_cellBehind_11 : Instr := .tableswitch 87 0 4 #[33, 35, 48, 62, 74]
theorem tX1_cellBehind_11 : mswk MX1_cellBehind 11 sX1_cellBehind_11 33 = true := by decide +kernel
def bX1_cellBehind_44 : List mB := [(.iload_n 0, mI 0)]
theorem kX1_cellBehind_44 : mchk MX1_cellBehind 44 bX1_cellBehind_44 45 = true := by decide +kernel
theorem tX1_cellBehind_45 : mrk MX1_cellBehind 45 .ireturn = true := by decide +kernel
def bX1_cellBehind_46 : List mB := [(.iload_n 2, mI 0)]
theorem kX1_cellBehind_46 : mchk MX1_cellBehind 46 bX1_cellBehind_46 47 = true := by decide +kernel
theorem tX1_cellBehind_47 : mbk MX1_cellBehind 47 (.ifCond .le 10) 57 = true := by decide +kernel
def bX1_cellBehind_50 : List mB := [(.iload_n 0, mI 0), (.bipush 6, mI (nI 6)), (.isub, mI 0)]
theorem kX1_cellBehind_50 : mchk MX1_cellBehind 50 bX1_cellBehind_50 54 = true := by decide +kernel
theorem tX1_cellBehind_54 : mbk MX1_cellBehind 54 (.goto 4) 58 = true := by decide +kernel
def bX1_cellBehind_57 : List mB := [(.iconst (-1), mI (-1))]
theorem kX1_cellBehind_57 : mchk MX1_cellBehind 57 bX1_cellBehind_57 58 = true := by decide +kernel
theorem tX1_cellBehind_58 : mrk MX1_cellBehind 58 .ireturn = true := by decide +kernel
def bX1_cellBehind_59 : List mB := [(.iload_n 2, mI 0), (.iconst 3, mI (nI 3))]
theorem kX1_cellBehind_59 : mchk MX1_cellBehind 59 bX1_cellBehind_59 61 = true := by decide +kernel
theorem tX1_cellBehind_61 : mbk MX1_cellBehind 61 (.if_icmp .ge 10) 71 = true := by decide +kernel
def bX1_cellBehind_64 : List mB := [(.iload_n 0, mI 0), (.bipush 6, mI (nI 6)), (.iadd, mI 0)]
theorem kX1_cellBehind_64 : mchk MX1_cellBehind 64 bX1_cellBehind_64 68 = true := by decide +kernel
theorem tX1_cellBehind_68 : mbk MX1_cellBehind 68 (.goto 4) 72 = true := by decide +kernel
def bX1_cellBehind_71 : List mB := [(.iconst (-1), mI (-1))]
theorem kX1_cellBehind_71 : mchk MX1_cellBehind 71 bX1_cellBehind_71 72 = true := by decide +kernel
theorem tX1_cellBehind_72 : mrk MX1_cellBehind 72 .ireturn = true := by decide +kernel
def bX1_cellBehind_73 : List mB := [(.iload_n 3, mI 0)]
theorem kX1_cellBehind_73 : mchk MX1_cellBehind 73 bX1_cellBehind_73 74 = true := by decide +kernel
theorem tX1_cellBehind_74 : mbk MX1_cellBehind 74 (.ifCond .le 9) 83 = true := by decide +kernel
def bX1_cellBehind_77 : List mB := [(.iload_n 0, mI 0), (.iconst 1, mI (nI 1)), (.isub, mI 0)]
theorem kX1_cellBehind_77 : mchk MX1_cellBehind 77 bX1_cellBehind_77 80 = true := by decide +kernel
theorem tX1_cellBehind_80 : mbk MX1_cellBehind 80 (.goto 4) 84 = true := by decide +kernel
def bX1_cellBehind_83 : List mB := [(.iconst (-1), mI (-1))]
theorem kX1_cellBehind_83 : mchk MX1_cellBehind 83 bX1_cellBehind_83 84 = true := by decide +kernel
theorem tX1_cellBehind_84 : mrk MX1_cellBehind 84 .ireturn = true := by decide +kernel
def bX1_cellBehind_85 : List mB := [(.iload_n 3, mI 0), (.iconst 5, mI (nI 5))]
theorem kX1_cellBehind_85 : mchk MX1_cellBehind 85 bX1_cellBehind_85 87 = true := by decide +kernel
theorem tX1_cellBehind_87 : mbk MX1_cellBehind 87 (.if_icmp .ge 9) 96 = true := by decide +kernel
def bX1_cellBehind_90 : List mB := [(.iload_n 0, mI 0), (.iconst 1, mI (nI 1)), (.iadd, mI 0)]
theorem kX1_cellBehind_90 : mchk MX1_cellBehind 90 bX1_cellBehind_90 93 = true := by decide +kernel
theorem tX1_cellBehind_93 : mbk MX1_cellBehind 93 (.goto 4) 97 = true := by decide +kernel
def bX1_cellBehind_96 : List mB := [(.iconst (-1), mI (-1))]
theorem kX1_cellBehind_96 : mchk MX1_cellBehind 96 bX1_cellBehind_96 97 = true := by decide +kernel
theorem tX1_cellBehind_97 : mrk MX1_cellBehind 97 .ireturn = true := by decide +kernel
def bX1_cellBehind_98 : List mB := [(.iconst (-1), mI (-1))]
theorem kX1_cellBehind_98 : mchk MX1_cellBehind 98 bX1_cellBehind_98 99 = true := by decide +kernel
theorem tX1_cellBehind_99 : mrk MX1_cellBehind 99 .ireturn = true := by decide +kernel
end
section
def bX0_hasRoom_0 : List mB := [(.aload_n 0, mI 0), (.getfield 15, mR 0 1), (.bipush 96, mI (nI 96))]
theorem kX0_hasRoom_0 : mchk MX0_hasRoom 0 bX0_hasRoom_0 6 = true := by decide +kernel
theorem tX0_hasRoom_6 : mbk MX0_hasRoom 6 (.if_icmp .ge 7) 13 = true := by decide +kernel
def bX0_hasRoom_9 : List mB := [(.iconst 1, mI (nI 1))]
theorem kX0_hasRoom_9 : mchk MX0_hasRoom 9 bX0_hasRoom_9 10 = true := by decide +kernel
theorem tX0_hasRoom_10 : mbk MX0_hasRoom 10 (.goto 4) 14 = true := by decide +kernel
def bX0_hasRoom_13 : List mB := [(.iconst 0, mI (nI 0))]
theorem kX0_hasRoom_13 : mchk MX0_hasRoom 13 bX0_hasRoom_13 14 = true := by decide +kernel
theorem tX0_hasRoom_14 : mrk MX0_hasRoom 14 .ireturn = true := by decide +kernel
def bX0_size_0 : List mB := [(.aload_n 0, mI 0), (.getfield 15, mR 0 1)]
theorem kX0_size_0 : mchk MX0_size 0 bX0_size_0 4 = true := by decide +kernel
theorem tX0_size_4 : mrk MX0_size 4 .ireturn = true := by decide +kernel
def bX0_statementCount_0 : List mB := [(.aload_n 0, mI 0), (.getfield 19, mR 0 2)]
theorem kX0_statementCount_0 : mchk MX0_statementCount 0 bX0_statementCount_0 4 = true := by decide +kernel
theorem tX0_statementCount_4 : mrk MX0_statementCount 4 .ireturn = true := by decide +kernel
def bX0_hear_0 : List mB := [(.aload_n 0, mI 0)]
theorem kX0_hear_0 : mchk MX0_hear 0 bX0_hear_0 1 = true := by decide +kernel
theorem tX0_hear_1 : mdk MX0_hear 1 (.invokevirtual 22) = true := by decide +kernel
theorem tX0_hear_4 : mbk MX0_hear 4 (.ifCond .eq 23) 27 = true := by decide +kernel
def bX0_hear_7 : List mB := [(.aload_n 0, mI 0), (.getfield 11, mR 0 0), (.aload_n 0, mI 0), (.getfield 15, mR 0 1), (.iload_n 1, mI 0), (.iastore, mI 0), (.aload_n 0, mI 0), (.dup, mI 0), (.getfield 15, mR 0 1), (.iconst 1, mI (nI 1)), (.iadd, mI 0), (.putfield 15, mR 0 1)]
theorem kX0_hear_7 : mchk MX0_hear 7 bX0_hear_7 27 = true := by decide +kernel
def bX0_hear_27 : List mB := [(.aload_n 0, mI 0), (.getfield 15, mR 0 1)]
theorem kX0_hear_27 : mchk MX0_hear 27 bX0_hear_27 31 = true := by decide +kernel
theorem tX0_hear_31 : mrk MX0_hear 31 .ireturn = true := by decide +kernel
def bX0_forget_0 : List mB := [(.aload_n 0, mI 0), (.iconst 0, mI (nI 0)), (.putfield 15, mR 0 1)]
theorem kX0_forget_0 : mchk MX0_forget 0 bX0_forget_0 5 = true := by decide +kernel
theorem tX0_forget_5 : mrk MX0_forget 5 .return_ = true := by decide +kernel
def bX0_firstMisfit_0 : List mB := [(.ldc 26, mR 30 0), (.astore_n 1, mI 0), (.iconst 0, mI (nI 0)), (.istore_n 2, mI 0), (.iconst 0, mI (nI 0)), (.istore_n 3, mI 0)]
theorem kX0_firstMisfit_0 : mchk MX0_firstMisfit 0 bX0_firstMisfit_0 7 = true := by decide +kernel
def bX0_firstMisfit_7 : List mB := [(.iload_n 3, mI 0), (.aload_n 0, mI 0), (.getfield 15, mR 0 1)]
theorem kX0_firstMisfit_7 : mchk MX0_firstMisfit 7 bX0_firstMisfit_7 12 = true := by decide +kernel
theorem tX0_firstMisfit_12 : mbk MX0_firstMisfit 12 (.if_icmp .ge 55) 67 = true := by decide +kernel
def bX0_firstMisfit_15 : List mB := [(.iload_n 2, mI 0), (.aload_n 1, mI 0)]
theorem kX0_firstMisfit_15 : mchk MX0_firstMisfit 15 bX0_firstMisfit_15 17 = true := by decide +kernel
theorem tX0_firstMisfit_17 : mdk MX0_firstMisfit 17 (.invokevirtual 28) = true := by decide +kernel
theorem tX0_firstMisfit_20 : mbk MX0_firstMisfit 20 (.if_icmp .ne 11) 31 = true := by decide +kernel
def bX0_firstMisfit_23 : List mB := [(.aload_n 0, mI 0), (.iload_n 3, mI 0)]
theorem kX0_firstMisfit_23 : mchk MX0_firstMisfit 23 bX0_firstMisfit_23 25 = true := by decide +kernel
theorem tX0_firstMisfit_25 : mdk MX0_firstMisfit 25 (.invokevirtual 34) = true := by decide +kernel
def bX0_firstMisfit_28 : List mB := [(.astore_n 1, mI 0), (.iconst 0, mI (nI 0)), (.istore_n 2, mI 0)]
theorem kX0_firstMisfit_28 : mchk MX0_firstMisfit 28 bX0_firstMisfit_28 31 = true := by decide +kernel
def bX0_firstMisfit_31 : List mB := [(.iload_n 2, mI 0), (.aload_n 1, mI 0)]
theorem kX0_firstMisfit_31 : mchk MX0_firstMisfit 31 bX0_firstMisfit_31 33 = true := by decide +kernel
theorem tX0_firstMisfit_33 : mdk MX0_firstMisfit 33 (.invokevirtual 28) = true := by decide +kernel
theorem tX0_firstMisfit_36 : mbk MX0_firstMisfit 36 (.if_icmp .ge 20) 56 = true := by decide +kernel
def bX0_firstMisfit_39 : List mB := [(.aload_n 0, mI 0), (.getfield 11, mR 0 0), (.iload_n 3, mI 0), (.iaload, mI 0), (.aload_n 1, mI 0), (.iload_n 2, mI 0)]
theorem kX0_firstMisfit_39 : mchk MX0_firstMisfit 39 bX0_firstMisfit_39 47 = true := by decide +kernel
theorem tX0_firstMisfit_47 : mdk MX0_firstMisfit 47 (.invokevirtual 38) = true := by decide +kernel
theorem tX0_firstMisfit_50 : mdk MX0_firstMisfit 50 (.invokestatic 42) = true := by decide +kernel
theorem tX0_firstMisfit_53 : mbk MX0_firstMisfit 53 (.ifCond .ne 5) 58 = true := by decide +kernel
def bX0_firstMisfit_56 : List mB := [(.iload_n 3, mI 0)]
theorem kX0_firstMisfit_56 : mchk MX0_firstMisfit 56 bX0_firstMisfit_56 57 = true := by decide +kernel
theorem tX0_firstMisfit_57 : mrk MX0_firstMisfit 57 .ireturn = true := by decide +kernel
def bX0_firstMisfit_58 : List mB := [(.iinc 2 1, mI (nI 1)), (.iinc 3 1, mI (nI 1))]
theorem kX0_firstMisfit_58 : mchk MX0_firstMisfit 58 bX0_firstMisfit_58 64 = true := by decide +kernel
theorem tX0_firstMisfit_64 : mbk MX0_firstMisfit 64 (.goto (-57)) 7 = true := by decide +kernel
def bX0_firstMisfit_67 : List mB := [(.aload_n 0, mI 0), (.getfield 15, mR 0 1)]
theorem kX0_firstMisfit_67 : mchk MX0_firstMisfit 67 bX0_firstMisfit_67 71 = true := by decide +kernel
theorem tX0_firstMisfit_71 : mbk MX0_firstMisfit 71 (.ifCond .le 16) 87 = true := by decide +kernel
def bX0_firstMisfit_74 : List mB := [(.iload_n 2, mI 0), (.aload_n 1, mI 0)]
theorem kX0_firstMisfit_74 : mchk MX0_firstMisfit 74 bX0_firstMisfit_74 76 = true := by decide +kernel
theorem tX0_firstMisfit_76 : mdk MX0_firstMisfit 76 (.invokevirtual 28) = true := by decide +kernel
theorem tX0_firstMisfit_79 : mbk MX0_firstMisfit 79 (.if_icmp .ne 8) 87 = true := by decide +kernel
def bX0_firstMisfit_82 : List mB := [(.bipush (-9), mI (-9))]
theorem kX0_firstMisfit_82 : mchk MX0_firstMisfit 82 bX0_firstMisfit_82 84 = true := by decide +kernel
theorem tX0_firstMisfit_84 : mbk MX0_firstMisfit 84 (.goto 7) 91 = true := by decide +kernel
def bX0_firstMisfit_87 : List mB := [(.aload_n 0, mI 0), (.getfield 15, mR 0 1)]
theorem kX0_firstMisfit_87 : mchk MX0_firstMisfit 87 bX0_firstMisfit_87 91 = true := by decide +kernel
theorem tX0_firstMisfit_91 : mrk MX0_firstMisfit 91 .ireturn = true := by decide +kernel
def bX0_tellTo_0 : List mB := [(.aload_n 0, mI 0), (.iconst 0, mI (nI 0)), (.putfield 19, mR 0 2), (.iconst 0, mI (nI 0)), (.istore_n 2, mI 0)]
theorem kX0_tellTo_0 : mchk MX0_tellTo 0 bX0_tellTo_0 7 = true := by decide +kernel
def bX0_tellTo_7 : List mB := [(.iload_n 2, mI 0), (.aload_n 0, mI 0), (.getfield 15, mR 0 1)]
theorem kX0_tellTo_7 : mchk MX0_tellTo 7 bX0_tellTo_7 12 = true := by decide +kernel
theorem tX0_tellTo_12 : mbk MX0_tellTo 12 (.if_icmp .ge 42) 54 = true := by decide +kernel
def bX0_tellTo_15 : List mB := [(.aload_n 0, mI 0), (.aload_n 1, mI 0), (.iload_n 2, mI 0)]
theorem kX0_tellTo_15 : mchk MX0_tellTo 15 bX0_tellTo_15 18 = true := by decide +kernel
theorem tX0_tellTo_18 : mdk MX0_tellTo 18 (.invokevirtual 46) = true := by decide +kernel
theorem tX0_tellTo_21 : mbk MX0_tellTo 21 (.ifCond .ne 5) 26 = true := by decide +kernel
def bX0_tellTo_24 : List mB := [(.iload_n 2, mI 0)]
theorem kX0_tellTo_24 : mchk MX0_tellTo 24 bX0_tellTo_24 25 = true := by decide +kernel
theorem tX0_tellTo_25 : mrk MX0_tellTo 25 .ireturn = true := by decide +kernel
def bX0_tellTo_26 : List mB := [(.aload_n 0, mI 0), (.dup, mI 0), (.getfield 19, mR 0 2), (.iconst 1, mI (nI 1)), (.iadd, mI 0), (.putfield 19, mR 0 2), (.iload_n 2, mI 0), (.iconst 1, mI (nI 1)), (.aload_n 0, mI 0), (.iload_n 2, mI 0)]
theorem kX0_tellTo_26 : mchk MX0_tellTo 26 bX0_tellTo_26 40 = true := by decide +kernel
theorem tX0_tellTo_40 : mdk MX0_tellTo 40 (.invokevirtual 34) = true := by decide +kernel
theorem tX0_tellTo_43 : mdk MX0_tellTo 43 (.invokevirtual 28) = true := by decide +kernel
theorem tX0_tellTo_46 : mdk MX0_tellTo 46 (.invokestatic 50) = true := by decide +kernel
def bX0_tellTo_49 : List mB := [(.iadd, mI 0), (.istore_n 2, mI 0)]
theorem kX0_tellTo_49 : mchk MX0_tellTo 49 bX0_tellTo_49 51 = true := by decide +kernel
theorem tX0_tellTo_51 : mbk MX0_tellTo 51 (.goto (-44)) 7 = true := by decide +kernel
def bX0_tellTo_54 : List mB := [(.bipush (-9), mI (-9))]
theorem kX0_tellTo_54 : mchk MX0_tellTo 54 bX0_tellTo_54 56 = true := by decide +kernel
theorem tX0_tellTo_56 : mrk MX0_tellTo 56 .ireturn = true := by decide +kernel
def bX0_tellStatement_0 : List mB := [(.aload_n 0, mI 0), (.iload_n 2, mI 0)]
theorem kX0_tellStatement_0 : mchk MX0_tellStatement 0 bX0_tellStatement_0 2 = true := by decide +kernel
theorem tX0_tellStatement_2 : mdk MX0_tellStatement 2 (.invokevirtual 56) = true := by decide +kernel
def sX0_tellStatement_5 : Instr := .lookupswitch 112 #[(103, 93), (107, 43), (108, 81), (116, 69)]
theorem tX0_tellStatement_5 : mswk MX0_tellStatement 5 sX0_tellStatement_5 43 = true := by decide +kernel
def bX0_tellStatement_48 : List mB := [(.aload_n 1, mI 0), (.aload_n 0, mI 0), (.iload_n 2, mI 0), (.iconst 1, mI (nI 1)), (.iadd, mI 0)]
theorem kX0_tellStatement_48 : mchk MX0_tellStatement 48 bX0_tellStatement_48 53 = true := by decide +kernel
theorem tX0_tellStatement_53 : mdk MX0_tellStatement 53 (.invokevirtual 60) = true := by decide +kernel
def bX0_tellStatement_56 : List mB := [(.aload_n 0, mI 0), (.iload_n 2, mI 0), (.iconst 2, mI (nI 2)), (.iadd, mI 0)]
theorem kX0_tellStatement_56 : mchk MX0_tellStatement 56 bX0_tellStatement_56 60 = true := by decide +kernel
theorem tX0_tellStatement_60 : mdk MX0_tellStatement 60 (.invokevirtual 63) = true := by decide +kernel
def bX0_tellStatement_63 : List mB := [(.aload_n 0, mI 0), (.iload_n 2, mI 0), (.iconst 4, mI (nI 4)), (.iadd, mI 0)]
theorem kX0_tellStatement_63 : mchk MX0_tellStatement 63 bX0_tellStatement_63 67 = true := by decide +kernel
theorem tX0_tellStatement_67 : mdk MX0_tellStatement 67 (.invokevirtual 66) = true := by decide +kernel
theorem tX0_tellStatement_70 : mdk MX0_tellStatement 70 (.invokevirtual 69) = true := by decide +kernel
theorem tX0_tellStatement_73 : mrk MX0_tellStatement 73 .ireturn = true := by decide +kernel
def bX0_tellStatement_74 : List mB := [(.aload_n 1, mI 0), (.aload_n 0, mI 0), (.iload_n 2, mI 0), (.iconst 1, mI (nI 1)), (.iadd, mI 0)]
theorem kX0_tellStatement_74 : mchk MX0_tellStatement 74 bX0_tellStatement_74 79 = true := by decide +kernel
theorem tX0_tellStatement_79 : mdk MX0_tellStatement 79 (.invokevirtual 66) = true := by decide +kernel
theorem tX0_tellStatement_82 : mdk MX0_tellStatement 82 (.invokevirtual 75) = true := by decide +kernel
theorem tX0_tellStatement_85 : mrk MX0_tellStatement 85 .ireturn = true := by decide +kernel
def bX0_tellStatement_86 : List mB := [(.aload_n 1, mI 0), (.aload_n 0, mI 0), (.iload_n 2, mI 0), (.iconst 1, mI (nI 1)), (.iadd, mI 0)]
theorem kX0_tellStatement_86 : mchk MX0_tellStatement 86 bX0_tellStatement_86 91 = true := by decide +kernel
theorem tX0_tellStatement_91 : mdk MX0_tellStatement 91 (.invokevirtual 66) = true := by decide +kernel
theorem tX0_tellStatement_94 : mdk MX0_tellStatement 94 (.invokevirtual 79) = true := by decide +kernel
theorem tX0_tellStatement_97 : mrk MX0_tellStatement 97 .ireturn = true := by decide +kernel
def bX0_tellStatement_98 : List mB := [(.aload_n 1, mI 0), (.aload_n 0, mI 0), (.iload_n 2, mI 0), (.iconst 1, mI (nI 1)), (.iadd, mI 0)]
theorem kX0_tellStatement_98 : mchk MX0_tellStatement 98 bX0_tellStatement_98 103 = true := by decide +kernel
theorem tX0_tellStatement_103 : mdk MX0_tellStatement 103 (.invokevirtual 66) = true := by decide +kernel
def bX0_tellStatement_106 : List mB := [(.aload_n 0, mI 0), (.iload_n 2, mI 0), (.iconst 2, mI (nI 2)), (.iadd, mI 0)]
theorem kX0_tellStatement_106 : mchk MX0_tellStatement 106 bX0_tellStatement_106 110 = true := by decide +kernel
theorem tX0_tellStatement_110 : mdk MX0_tellStatement 110 (.invokevirtual 63) = true := by decide +kernel
theorem tX0_tellStatement_113 : mdk MX0_tellStatement 113 (.invokevirtual 82) = true := by decide +kernel
theorem tX0_tellStatement_116 : mrk MX0_tellStatement 116 .ireturn = true := by decide +kernel
def bX0_tellStatement_117 : List mB := [(.iconst 0, mI (nI 0))]
theorem kX0_tellStatement_117 : mchk MX0_tellStatement 117 bX0_tellStatement_117 118 = true := by decide +kernel
theorem tX0_tellStatement_118 : mrk MX0_tellStatement 118 .ireturn = true := by decide +kernel
def bX0_shapeAt_0 : List mB := [(.aload_n 0, mI 0), (.iload_n 1, mI 0)]
theorem kX0_shapeAt_0 : mchk MX0_shapeAt 0 bX0_shapeAt_0 2 = true := by decide +kernel
theorem tX0_shapeAt_2 : mdk MX0_shapeAt 2 (.invokevirtual 56) = true := by decide +kernel
def sX0_shapeAt_5 : Instr := .lookupswitch 55 #[(103, 52), (107, 43), (108, 49), (116, 46)]
theorem tX0_shapeAt_5 : mswk MX0_shapeAt 5 sX0_shapeAt_5 43 = true := by decide +kernel
def bX0_shapeAt_48 : List mB := [(.ldc 86, mR 30 1)]
theorem kX0_shapeAt_48 : mchk MX0_shapeAt 48 bX0_shapeAt_48 50 = true := by decide +kernel
theorem tX0_shapeAt_50 : mrk MX0_shapeAt 50 .areturn = true := by decide +kernel
def bX0_shapeAt_51 : List mB := [(.ldc 88, mR 30 2)]
theorem kX0_shapeAt_51 : mchk MX0_shapeAt 51 bX0_shapeAt_51 53 = true := by decide +kernel
theorem tX0_shapeAt_53 : mrk MX0_shapeAt 53 .areturn = true := by decide +kernel
def bX0_shapeAt_54 : List mB := [(.ldc 90, mR 30 3)]
theorem kX0_shapeAt_54 : mchk MX0_shapeAt 54 bX0_shapeAt_54 56 = true := by decide +kernel
theorem tX0_shapeAt_56 : mrk MX0_shapeAt 56 .areturn = true := by decide +kernel
def bX0_shapeAt_57 : List mB := [(.ldc 92, mR 30 4)]
theorem kX0_shapeAt_57 : mchk MX0_shapeAt 57 bX0_shapeAt_57 59 = true := by decide +kernel
theorem tX0_shapeAt_59 : mrk MX0_shapeAt 59 .areturn = true := by decide +kernel
def bX0_shapeAt_60 : List mB := [(.ldc 26, mR 30 0)]
theorem kX0_shapeAt_60 : mchk MX0_shapeAt 60 bX0_shapeAt_60 62 = true := by decide +kernel
theorem tX0_shapeAt_62 : mrk MX0_shapeAt 62 .areturn = true := by decide +kernel
def bX0_fitsShape_0 : List mB := [(.iload_n 1, mI 0), (.bipush 75, mI (nI 75))]
theorem kX0_fitsShape_0 : mchk MX0_fitsShape 0 bX0_fitsShape_0 3 = true := by decide +kernel
theorem tX0_fitsShape_3 : mbk MX0_fitsShape 3 (.if_icmp .ne 19) 22 = true := by decide +kernel
def bX0_fitsShape_6 : List mB := [(.ldc 94, mR 30 5), (.iload_n 0, mI 0), (.i2c, mI 0)]
theorem kX0_fitsShape_6 : mchk MX0_fitsShape 6 bX0_fitsShape_6 10 = true := by decide +kernel
theorem tX0_fitsShape_10 : mdk MX0_fitsShape 10 (.invokevirtual 96) = true := by decide +kernel
theorem tX0_fitsShape_13 : mbk MX0_fitsShape 13 (.ifCond .lt 7) 20 = true := by decide +kernel
def bX0_fitsShape_16 : List mB := [(.iconst 1, mI (nI 1))]
theorem kX0_fitsShape_16 : mchk MX0_fitsShape 16 bX0_fitsShape_16 17 = true := by decide +kernel
theorem tX0_fitsShape_17 : mbk MX0_fitsShape 17 (.goto 4) 21 = true := by decide +kernel
def bX0_fitsShape_20 : List mB := [(.iconst 0, mI (nI 0))]
theorem kX0_fitsShape_20 : mchk MX0_fitsShape 20 bX0_fitsShape_20 21 = true := by decide +kernel
theorem tX0_fitsShape_21 : mrk MX0_fitsShape 21 .ireturn = true := by decide +kernel
def bX0_fitsShape_22 : List mB := [(.iload_n 1, mI 0), (.bipush 68, mI (nI 68))]
theorem kX0_fitsShape_22 : mchk MX0_fitsShape 22 bX0_fitsShape_22 25 = true := by decide +kernel
theorem tX0_fitsShape_25 : mbk MX0_fitsShape 25 (.if_icmp .ne 21) 46 = true := by decide +kernel
def bX0_fitsShape_28 : List mB := [(.iload_n 0, mI 0), (.bipush 48, mI (nI 48))]
theorem kX0_fitsShape_28 : mchk MX0_fitsShape 28 bX0_fitsShape_28 31 = true := by decide +kernel
theorem tX0_fitsShape_31 : mbk MX0_fitsShape 31 (.if_icmp .lt 13) 44 = true := by decide +kernel
def bX0_fitsShape_34 : List mB := [(.iload_n 0, mI 0), (.bipush 57, mI (nI 57))]
theorem kX0_fitsShape_34 : mchk MX0_fitsShape 34 bX0_fitsShape_34 37 = true := by decide +kernel
theorem tX0_fitsShape_37 : mbk MX0_fitsShape 37 (.if_icmp .gt 7) 44 = true := by decide +kernel
def bX0_fitsShape_40 : List mB := [(.iconst 1, mI (nI 1))]
theorem kX0_fitsShape_40 : mchk MX0_fitsShape 40 bX0_fitsShape_40 41 = true := by decide +kernel
theorem tX0_fitsShape_41 : mbk MX0_fitsShape 41 (.goto 4) 45 = true := by decide +kernel
def bX0_fitsShape_44 : List mB := [(.iconst 0, mI (nI 0))]
theorem kX0_fitsShape_44 : mchk MX0_fitsShape 44 bX0_fitsShape_44 45 = true := by decide +kernel
theorem tX0_fitsShape_45 : mrk MX0_fitsShape 45 .ireturn = true := by decide +kernel
def bX0_fitsShape_46 : List mB := [(.iload_n 0, mI 0), (.iload_n 1, mI 0)]
theorem kX0_fitsShape_46 : mchk MX0_fitsShape 46 bX0_fitsShape_46 48 = true := by decide +kernel
theorem tX0_fitsShape_48 : mbk MX0_fitsShape 48 (.if_icmp .ne 7) 55 = true := by decide +kernel
def bX0_fitsShape_51 : List mB := [(.iconst 1, mI (nI 1))]
theorem kX0_fitsShape_51 : mchk MX0_fitsShape 51 bX0_fitsShape_51 52 = true := by decide +kernel
theorem tX0_fitsShape_52 : mbk MX0_fitsShape 52 (.goto 4) 56 = true := by decide +kernel
def bX0_fitsShape_55 : List mB := [(.iconst 0, mI (nI 0))]
theorem kX0_fitsShape_55 : mchk MX0_fitsShape 55 bX0_fitsShape_55 56 = true := by decide +kernel
theorem tX0_fitsShape_56 : mrk MX0_fitsShape 56 .ireturn = true := by decide +kernel
def bX0_signAt_0 : List mB := [(.iload_n 1, mI 0)]
theorem kX0_signAt_0 : mchk MX0_signAt 0 bX0_signAt_0 1 = true := by decide +kernel
theorem tX0_signAt_1 : mbk MX0_signAt 1 (.ifCond .lt 20) 21 = true := by decide +kernel
def bX0_signAt_4 : List mB := [(.iload_n 1, mI 0), (.aload_n 0, mI 0), (.getfield 15, mR 0 1)]
theorem kX0_signAt_4 : mchk MX0_signAt 4 bX0_signAt_4 9 = true := by decide +kernel
theorem tX0_signAt_9 : mbk MX0_signAt 9 (.if_icmp .ge 12) 21 = true := by decide +kernel
def bX0_signAt_12 : List mB := [(.aload_n 0, mI 0), (.getfield 11, mR 0 0), (.iload_n 1, mI 0), (.iaload, mI 0)]
theorem kX0_signAt_12 : mchk MX0_signAt 12 bX0_signAt_12 18 = true := by decide +kernel
theorem tX0_signAt_18 : mbk MX0_signAt 18 (.goto 4) 22 = true := by decide +kernel
def bX0_signAt_21 : List mB := [(.iconst (-1), mI (-1))]
theorem kX0_signAt_21 : mchk MX0_signAt 21 bX0_signAt_21 22 = true := by decide +kernel
theorem tX0_signAt_22 : mrk MX0_signAt 22 .ireturn = true := by decide +kernel
def bX0_kindAt_0 : List mB := [(.ldc 94, mR 30 5), (.aload_n 0, mI 0), (.iload_n 1, mI 0)]
theorem kX0_kindAt_0 : mchk MX0_kindAt 0 bX0_kindAt_0 4 = true := by decide +kernel
theorem tX0_kindAt_4 : mdk MX0_kindAt 4 (.invokevirtual 56) = true := by decide +kernel
def bX0_kindAt_7 : List mB := [(.i2c, mI 0)]
theorem kX0_kindAt_7 : mchk MX0_kindAt 7 bX0_kindAt_7 8 = true := by decide +kernel
theorem tX0_kindAt_8 : mdk MX0_kindAt 8 (.invokevirtual 96) = true := by decide +kernel
theorem tX0_kindAt_11 : mrk MX0_kindAt 11 .ireturn = true := by decide +kernel
def bX0_digitAt_0 : List mB := [(.aload_n 0, mI 0), (.iload_n 1, mI 0)]
theorem kX0_digitAt_0 : mchk MX0_digitAt 0 bX0_digitAt_0 2 = true := by decide +kernel
theorem tX0_digitAt_2 : mdk MX0_digitAt 2 (.invokevirtual 56) = true := by decide +kernel
def bX0_digitAt_5 : List mB := [(.bipush 48, mI (nI 48)), (.isub, mI 0)]
theorem kX0_digitAt_5 : mchk MX0_digitAt 5 bX0_digitAt_5 8 = true := by decide +kernel
theorem tX0_digitAt_8 : mrk MX0_digitAt 8 .ireturn = true := by decide +kernel
def bX0_cellAt_0 : List mB := [(.bipush 10, mI (nI 10)), (.aload_n 0, mI 0), (.iload_n 1, mI 0)]
theorem kX0_cellAt_0 : mchk MX0_cellAt 0 bX0_cellAt_0 4 = true := by decide +kernel
theorem tX0_cellAt_4 : mdk MX0_cellAt 4 (.invokevirtual 66) = true := by decide +kernel
def bX0_cellAt_7 : List mB := [(.imul, mI 0), (.aload_n 0, mI 0), (.iload_n 1, mI 0), (.iconst 1, mI (nI 1)), (.iadd, mI 0)]
theorem kX0_cellAt_7 : mchk MX0_cellAt 7 bX0_cellAt_7 12 = true := by decide +kernel
theorem tX0_cellAt_12 : mdk MX0_cellAt 12 (.invokevirtual 66) = true := by decide +kernel
def bX0_cellAt_15 : List mB := [(.iadd, mI 0)]
theorem kX0_cellAt_15 : mchk MX0_cellAt 15 bX0_cellAt_15 16 = true := by decide +kernel
theorem tX0_cellAt_16 : mrk MX0_cellAt 16 .ireturn = true := by decide +kernel
end
section
def bX2_letter_0 : List mB := [(.iload_n 1, mI 0)]
theorem kX2_letter_0 : mchk MX2_letter 0 bX2_letter_0 1 = true := by decide +kernel
theorem tX2_letter_1 : mbk MX2_letter 1 (.ifCond .ge 10) 11 = true := by decide +kernel
def bX2_letter_4 : List mB := [(.aload_n 0, mI 0), (.bipush (-4), mI (-4))]
theorem kX2_letter_4 : mchk MX2_letter 4 bX2_letter_4 7 = true := by decide +kernel
theorem tX2_letter_7 : mdk MX2_letter 7 (.invokevirtual 39) = true := by decide +kernel
theorem tX2_letter_10 : mrk MX2_letter 10 .ireturn = true := by decide +kernel
def bX2_letter_11 : List mB := [(.iload_n 1, mI 0), (.sipush 255, mI (nI 255))]
theorem kX2_letter_11 : mchk MX2_letter 11 bX2_letter_11 15 = true := by decide +kernel
theorem tX2_letter_15 : mbk MX2_letter 15 (.if_icmp .gt 13) 28 = true := by decide +kernel
def bX2_letter_18 : List mB := [(.aload_n 0, mI 0), (.getfield 28, mR 2 5)]
theorem kX2_letter_18 : mchk MX2_letter 18 bX2_letter_18 22 = true := by decide +kernel
theorem tX2_letter_22 : mdk MX2_letter 22 (.invokevirtual 43) = true := by decide +kernel
theorem tX2_letter_25 : mbk MX2_letter 25 (.ifCond .ne 10) 35 = true := by decide +kernel
def bX2_letter_28 : List mB := [(.aload_n 0, mI 0), (.bipush (-6), mI (-6))]
theorem kX2_letter_28 : mchk MX2_letter 28 bX2_letter_28 31 = true := by decide +kernel
theorem tX2_letter_31 : mdk MX2_letter 31 (.invokevirtual 39) = true := by decide +kernel
theorem tX2_letter_34 : mrk MX2_letter 34 .ireturn = true := by decide +kernel
def bX2_letter_35 : List mB := [(.aload_n 0, mI 0), (.getfield 28, mR 2 5), (.iload_n 1, mI 0)]
theorem kX2_letter_35 : mchk MX2_letter 35 bX2_letter_35 40 = true := by decide +kernel
theorem tX2_letter_40 : mdk MX2_letter 40 (.invokevirtual 47) = true := by decide +kernel
theorem tX2_letter_43 : mrk MX2_letter 43 .ireturn = true := by decide +kernel
def bX2_yard_0 : List mB := [(.aload_n 0, mI 0)]
theorem kX2_yard_0 : mchk MX2_yard 0 bX2_yard_0 1 = true := by decide +kernel
theorem tX2_yard_1 : mdk MX2_yard 1 (.invokevirtual 50) = true := by decide +kernel
def bX2_yard_4 : List mB := [(.istore_n 1, mI 0), (.aload_n 0, mI 0), (.getfield 28, mR 2 5)]
theorem kX2_yard_4 : mchk MX2_yard 4 bX2_yard_4 9 = true := by decide +kernel
theorem tX2_yard_9 : mdk MX2_yard 9 (.invokevirtual 54) = true := by decide +kernel
def bX2_yard_12 : List mB := [(.iload_n 1, mI 0)]
theorem kX2_yard_12 : mchk MX2_yard 12 bX2_yard_12 13 = true := by decide +kernel
theorem tX2_yard_13 : mrk MX2_yard 13 .ireturn = true := by decide +kernel
def bX2_child_0 : List mB := [(.aload_n 0, mI 0), (.getfield 10, mR 2 0), (.iload_n 1, mI 0)]
theorem kX2_child_0 : mchk MX2_child 0 bX2_child_0 5 = true := by decide +kernel
theorem tX2_child_5 : mdk MX2_child 5 (.invokevirtual 57) = true := by decide +kernel
theorem tX2_child_8 : mbk MX2_child 8 (.ifCond .ne 9) 17 = true := by decide +kernel
def bX2_child_11 : List mB := [(.aload_n 0, mI 0), (.iconst (-1), mI (-1))]
theorem kX2_child_11 : mchk MX2_child 11 bX2_child_11 13 = true := by decide +kernel
theorem tX2_child_13 : mdk MX2_child 13 (.invokevirtual 39) = true := by decide +kernel
theorem tX2_child_16 : mrk MX2_child 16 .ireturn = true := by decide +kernel
def bX2_child_17 : List mB := [(.iload_n 2, mI 0)]
theorem kX2_child_17 : mchk MX2_child 17 bX2_child_17 18 = true := by decide +kernel
def sX2_child_18 : Instr := .tableswitch 87 0 4 #[34, 43, 52, 61, 78]
theorem tX2_child_18 : mswk MX2_child 18 sX2_child_18 34 = true := by decide +kernel
def bX2_child_52 : List mB := [(.aload_n 0, mI 0), (.getfield 10, mR 2 0), (.iload_n 1, mI 0)]
theorem kX2_child_52 : mchk MX2_child 52 bX2_child_52 57 = true := by decide +kernel
theorem tX2_child_57 : mdk MX2_child 57 (.invokevirtual 61) = true := by decide +kernel
theorem tX2_child_60 : mrk MX2_child 60 .ireturn = true := by decide +kernel
def bX2_child_61 : List mB := [(.aload_n 0, mI 0), (.getfield 10, mR 2 0), (.iload_n 1, mI 0)]
theorem kX2_child_61 : mchk MX2_child 61 bX2_child_61 66 = true := by decide +kernel
theorem tX2_child_66 : mdk MX2_child 66 (.invokevirtual 64) = true := by decide +kernel
theorem tX2_child_69 : mrk MX2_child 69 .ireturn = true := by decide +kernel
def bX2_child_70 : List mB := [(.aload_n 0, mI 0), (.getfield 10, mR 2 0), (.iload_n 1, mI 0)]
theorem kX2_child_70 : mchk MX2_child 70 bX2_child_70 75 = true := by decide +kernel
theorem tX2_child_75 : mdk MX2_child 75 (.invokevirtual 67) = true := by decide +kernel
theorem tX2_child_78 : mrk MX2_child 78 .ireturn = true := by decide +kernel
def bX2_child_79 : List mB := [(.aload_n 0, mI 0), (.getfield 10, mR 2 0), (.iload_n 1, mI 0)]
theorem kX2_child_79 : mchk MX2_child 79 bX2_child_79 84 = true := by decide +kernel
theorem tX2_child_84 : mdk MX2_child 84 (.invokevirtual 70) = true := by decide +kernel
theorem tX2_child_87 : mbk MX2_child 87 (.ifCond .eq 7) 94 = true := by decide +kernel
def bX2_child_90 : List mB := [(.iconst 1, mI (nI 1))]
theorem kX2_child_90 : mchk MX2_child 90 bX2_child_90 91 = true := by decide +kernel
theorem tX2_child_91 : mbk MX2_child 91 (.goto 4) 95 = true := by decide +kernel
def bX2_child_94 : List mB := [(.iconst 0, mI (nI 0))]
theorem kX2_child_94 : mchk MX2_child 94 bX2_child_94 95 = true := by decide +kernel
theorem tX2_child_95 : mrk MX2_child 95 .ireturn = true := by decide +kernel
def bX2_child_96 : List mB := [(.aload_n 0, mI 0), (.getfield 10, mR 2 0), (.iload_n 1, mI 0)]
theorem kX2_child_96 : mchk MX2_child 96 bX2_child_96 101 = true := by decide +kernel
theorem tX2_child_101 : mdk MX2_child 101 (.invokevirtual 73) = true := by decide +kernel
theorem tX2_child_104 : mrk MX2_child 104 .ireturn = true := by decide +kernel
def bX2_child_105 : List mB := [(.aload_n 0, mI 0), (.bipush (-2), mI (-2))]
theorem kX2_child_105 : mchk MX2_child 105 bX2_child_105 108 = true := by decide +kernel
theorem tX2_child_108 : mdk MX2_child 108 (.invokevirtual 39) = true := by decide +kernel
theorem tX2_child_111 : mrk MX2_child 111 .ireturn = true := by decide +kernel
def bX2_go_0 : List mB := [(.aload_n 0, mI 0), (.getfield 10, mR 2 0), (.iload_n 1, mI 0)]
theorem kX2_go_0 : mchk MX2_go 0 bX2_go_0 5 = true := by decide +kernel
theorem tX2_go_5 : mdk MX2_go 5 (.invokevirtual 57) = true := by decide +kernel
theorem tX2_go_8 : mbk MX2_go 8 (.ifCond .eq 10) 18 = true := by decide +kernel
def bX2_go_11 : List mB := [(.iload_n 2, mI 0)]
theorem kX2_go_11 : mchk MX2_go 11 bX2_go_11 12 = true := by decide +kernel
theorem tX2_go_12 : mdk MX2_go 12 (.invokestatic 76) = true := by decide +kernel
theorem tX2_go_15 : mbk MX2_go 15 (.ifCond .ne 9) 24 = true := by decide +kernel
def bX2_go_18 : List mB := [(.aload_n 0, mI 0), (.iconst (-1), mI (-1))]
theorem kX2_go_18 : mchk MX2_go 18 bX2_go_18 20 = true := by decide +kernel
theorem tX2_go_20 : mdk MX2_go 20 (.invokevirtual 39) = true := by decide +kernel
theorem tX2_go_23 : mrk MX2_go 23 .ireturn = true := by decide +kernel
def bX2_go_24 : List mB := [(.aload_n 0, mI 0), (.getfield 10, mR 2 0), (.iload_n 1, mI 0)]
theorem kX2_go_24 : mchk MX2_go 24 bX2_go_24 29 = true := by decide +kernel
theorem tX2_go_29 : mdk MX2_go 29 (.invokevirtual 64) = true := by decide +kernel
def bX2_go_32 : List mB := [(.istore_n 3, mI 0), (.aload_n 0, mI 0), (.getfield 10, mR 2 0), (.iload_n 1, mI 0), (.iload_n 2, mI 0)]
theorem kX2_go_32 : mchk MX2_go 32 bX2_go_32 39 = true := by decide +kernel
theorem tX2_go_39 : mdk MX2_go 39 (.invokevirtual 79) = true := by decide +kernel
def bX2_go_42 : List mB := [(.pop, mI 0), (.iload_n 3, mI 0)]
theorem kX2_go_42 : mchk MX2_go 42 bX2_go_42 44 = true := by decide +kernel
theorem tX2_go_44 : mrk MX2_go 44 .ireturn = true := by decide +kernel
def bX2_touch_0 : List mB := [(.aload_n 0, mI 0), (.getfield 10, mR 2 0), (.iload_n 1, mI 0)]
theorem kX2_touch_0 : mchk MX2_touch 0 bX2_touch_0 5 = true := by decide +kernel
theorem tX2_touch_5 : mdk MX2_touch 5 (.invokevirtual 57) = true := by decide +kernel
theorem tX2_touch_8 : mbk MX2_touch 8 (.ifCond .ne 9) 17 = true := by decide +kernel
def bX2_touch_11 : List mB := [(.aload_n 0, mI 0), (.iconst (-1), mI (-1))]
theorem kX2_touch_11 : mchk MX2_touch 11 bX2_touch_11 13 = true := by decide +kernel
theorem tX2_touch_13 : mdk MX2_touch 13 (.invokevirtual 39) = true := by decide +kernel
theorem tX2_touch_16 : mrk MX2_touch 16 .ireturn = true := by decide +kernel
def bX2_touch_17 : List mB := [(.aload_n 0, mI 0), (.getfield 10, mR 2 0), (.iload_n 1, mI 0)]
theorem kX2_touch_17 : mchk MX2_touch 17 bX2_touch_17 22 = true := by decide +kernel
theorem tX2_touch_22 : mdk MX2_touch 22 (.invokevirtual 83) = true := by decide +kernel
theorem tX2_touch_25 : mbk MX2_touch 25 (.ifCond .ne 10) 35 = true := by decide +kernel
def bX2_touch_28 : List mB := [(.aload_n 0, mI 0), (.bipush (-3), mI (-3))]
theorem kX2_touch_28 : mchk MX2_touch 28 bX2_touch_28 31 = true := by decide +kernel
theorem tX2_touch_31 : mdk MX2_touch 31 (.invokevirtual 39) = true := by decide +kernel
theorem tX2_touch_34 : mrk MX2_touch 34 .ireturn = true := by decide +kernel
def bX2_touch_35 : List mB := [(.aload_n 0, mI 0), (.getfield 10, mR 2 0), (.iload_n 1, mI 0)]
theorem kX2_touch_35 : mchk MX2_touch 35 bX2_touch_35 40 = true := by decide +kernel
theorem tX2_touch_40 : mdk MX2_touch 40 (.invokevirtual 70) = true := by decide +kernel
theorem tX2_touch_43 : mbk MX2_touch 43 (.ifCond .eq 7) 50 = true := by decide +kernel
def bX2_touch_46 : List mB := [(.iconst 1, mI (nI 1))]
theorem kX2_touch_46 : mchk MX2_touch 46 bX2_touch_46 47 = true := by decide +kernel
theorem tX2_touch_47 : mbk MX2_touch 47 (.goto 4) 51 = true := by decide +kernel
def bX2_touch_50 : List mB := [(.iconst 0, mI (nI 0))]
theorem kX2_touch_50 : mchk MX2_touch 50 bX2_touch_50 51 = true := by decide +kernel
theorem tX2_touch_51 : mrk MX2_touch 51 .ireturn = true := by decide +kernel
def bX2_law_0 : List mB := [(.aload_n 0, mI 0), (.getfield 10, mR 2 0)]
theorem kX2_law_0 : mchk MX2_law 0 bX2_law_0 4 = true := by decide +kernel
theorem tX2_law_4 : mdk MX2_law 4 (.invokevirtual 86) = true := by decide +kernel
def bX2_law_7 : List mB := [(.istore_n 2, mI 0), (.aload_n 0, mI 0), (.getfield 10, mR 2 0), (.iload_n 1, mI 0)]
theorem kX2_law_7 : mchk MX2_law 7 bX2_law_7 13 = true := by decide +kernel
theorem tX2_law_13 : mdk MX2_law 13 (.invokevirtual 89) = true := by decide +kernel
theorem tX2_law_16 : mbk MX2_law 16 (.ifCond .eq 7) 23 = true := by decide +kernel
def bX2_law_19 : List mB := [(.iload_n 2, mI 0)]
theorem kX2_law_19 : mchk MX2_law 19 bX2_law_19 20 = true := by decide +kernel
theorem tX2_law_20 : mbk MX2_law 20 (.goto 9) 29 = true := by decide +kernel
def bX2_law_23 : List mB := [(.aload_n 0, mI 0), (.bipush (-2), mI (-2))]
theorem kX2_law_23 : mchk MX2_law 23 bX2_law_23 26 = true := by decide +kernel
theorem tX2_law_26 : mdk MX2_law 26 (.invokevirtual 39) = true := by decide +kernel
theorem tX2_law_29 : mrk MX2_law 29 .ireturn = true := by decide +kernel
def bX2_far_0 : List mB := [(.iload_n 1, mI 0)]
theorem kX2_far_0 : mchk MX2_far 0 bX2_far_0 1 = true := by decide +kernel
theorem tX2_far_1 : mdk MX2_far 1 (.invokestatic 76) = true := by decide +kernel
theorem tX2_far_4 : mbk MX2_far 4 (.ifCond .eq 10) 14 = true := by decide +kernel
def bX2_far_7 : List mB := [(.iload_n 2, mI 0)]
theorem kX2_far_7 : mchk MX2_far 7 bX2_far_7 8 = true := by decide +kernel
theorem tX2_far_8 : mdk MX2_far 8 (.invokestatic 76) = true := by decide +kernel
theorem tX2_far_11 : mbk MX2_far 11 (.ifCond .ne 9) 20 = true := by decide +kernel
def bX2_far_14 : List mB := [(.aload_n 0, mI 0), (.iconst (-1), mI (-1))]
theorem kX2_far_14 : mchk MX2_far 14 bX2_far_14 16 = true := by decide +kernel
theorem tX2_far_16 : mdk MX2_far 16 (.invokevirtual 39) = true := by decide +kernel
theorem tX2_far_19 : mrk MX2_far 19 .ireturn = true := by decide +kernel
def bX2_far_20 : List mB := [(.iload_n 1, mI 0), (.iload_n 2, mI 0)]
theorem kX2_far_20 : mchk MX2_far 20 bX2_far_20 22 = true := by decide +kernel
theorem tX2_far_22 : mdk MX2_far 22 (.invokestatic 92) = true := by decide +kernel
theorem tX2_far_25 : mrk MX2_far 25 .ireturn = true := by decide +kernel
def bX2_seconds_0 : List mB := [(.iload_n 1, mI 0), (.iconst 1, mI (nI 1)), (.bipush 60, mI (nI 60))]
theorem kX2_seconds_0 : mchk MX2_seconds 0 bX2_seconds_0 4 = true := by decide +kernel
theorem tX2_seconds_4 : mdk MX2_seconds 4 (.invokestatic 96) = true := by decide +kernel
def bX2_seconds_7 : List mB := [(.istore_n 2, mI 0), (.iload_n 2, mI 0)]
theorem kX2_seconds_7 : mchk MX2_seconds 7 bX2_seconds_7 9 = true := by decide +kernel
theorem tX2_seconds_9 : mbk MX2_seconds 9 (.ifCond .ne 21) 30 = true := by decide +kernel
def bX2_seconds_12 : List mB := [(.aload_n 0, mI 0), (.getfield 10, mR 2 0)]
theorem kX2_seconds_12 : mchk MX2_seconds 12 bX2_seconds_12 16 = true := by decide +kernel
theorem tX2_seconds_16 : mdk MX2_seconds 16 (.invokevirtual 100) = true := by decide +kernel
def bX2_seconds_19 : List mB := [(.iload_n 1, mI 0), (.iadd, mI 0), (.sipush 999, mI (nI 999))]
theorem kX2_seconds_19 : mchk MX2_seconds 19 bX2_seconds_19 24 = true := by decide +kernel
theorem tX2_seconds_24 : mbk MX2_seconds 24 (.if_icmp .le 6) 30 = true := by decide +kernel
def bX2_seconds_27 : List mB := [(.bipush (-6), mI (-6)), (.istore_n 2, mI 0)]
theorem kX2_seconds_27 : mchk MX2_seconds 27 bX2_seconds_27 30 = true := by decide +kernel
def bX2_seconds_30 : List mB := [(.iload_n 2, mI 0)]
theorem kX2_seconds_30 : mchk MX2_seconds 30 bX2_seconds_30 31 = true := by decide +kernel
theorem tX2_seconds_31 : mbk MX2_seconds 31 (.ifCond .eq 9) 40 = true := by decide +kernel
def bX2_seconds_34 : List mB := [(.aload_n 0, mI 0), (.iload_n 2, mI 0)]
theorem kX2_seconds_34 : mchk MX2_seconds 34 bX2_seconds_34 36 = true := by decide +kernel
theorem tX2_seconds_36 : mdk MX2_seconds 36 (.invokevirtual 39) = true := by decide +kernel
theorem tX2_seconds_39 : mrk MX2_seconds 39 .ireturn = true := by decide +kernel
def bX2_seconds_40 : List mB := [(.aload_n 0, mI 0), (.getfield 10, mR 2 0), (.iload_n 1, mI 0)]
theorem kX2_seconds_40 : mchk MX2_seconds 40 bX2_seconds_40 45 = true := by decide +kernel
theorem tX2_seconds_45 : mdk MX2_seconds 45 (.invokevirtual 103) = true := by decide +kernel
def bX2_seconds_48 : List mB := [(.aload_n 0, mI 0), (.getfield 10, mR 2 0)]
theorem kX2_seconds_48 : mchk MX2_seconds 48 bX2_seconds_48 52 = true := by decide +kernel
theorem tX2_seconds_52 : mdk MX2_seconds 52 (.invokevirtual 100) = true := by decide +kernel
theorem tX2_seconds_55 : mrk MX2_seconds 55 .ireturn = true := by decide +kernel
def bX2_stand_0 : List mB := [(.iload_n 1, mI 0), (.iconst 0, mI (nI 0)), (.bipush 60, mI (nI 60))]
theorem kX2_stand_0 : mchk MX2_stand 0 bX2_stand_0 4 = true := by decide +kernel
theorem tX2_stand_4 : mdk MX2_stand 4 (.invokestatic 96) = true := by decide +kernel
def bX2_stand_7 : List mB := [(.istore_n 2, mI 0), (.iload_n 2, mI 0)]
theorem kX2_stand_7 : mchk MX2_stand 7 bX2_stand_7 9 = true := by decide +kernel
theorem tX2_stand_9 : mbk MX2_stand 9 (.ifCond .eq 9) 18 = true := by decide +kernel
def bX2_stand_12 : List mB := [(.aload_n 0, mI 0), (.iload_n 2, mI 0)]
theorem kX2_stand_12 : mchk MX2_stand 12 bX2_stand_12 14 = true := by decide +kernel
theorem tX2_stand_14 : mdk MX2_stand 14 (.invokevirtual 39) = true := by decide +kernel
theorem tX2_stand_17 : mrk MX2_stand 17 .ireturn = true := by decide +kernel
def bX2_stand_18 : List mB := [(.aload_n 0, mI 0), (.getfield 16, mR 2 1), (.aload_n 0, mI 0), (.getfield 10, mR 2 0)]
theorem kX2_stand_18 : mchk MX2_stand 18 bX2_stand_18 26 = true := by decide +kernel
theorem tX2_stand_26 : mdk MX2_stand 26 (.invokevirtual 107) = true := by decide +kernel
def bX2_stand_29 : List mB := [(.aload_n 0, mI 0), (.getfield 16, mR 2 1), (.iload_n 1, mI 0)]
theorem kX2_stand_29 : mchk MX2_stand 29 bX2_stand_29 34 = true := by decide +kernel
theorem tX2_stand_34 : mdk MX2_stand 34 (.invokevirtual 103) = true := by decide +kernel
def bX2_stand_37 : List mB := [(.aload_n 0, mI 0), (.getfield 16, mR 2 1)]
theorem kX2_stand_37 : mchk MX2_stand 37 bX2_stand_37 41 = true := by decide +kernel
theorem tX2_stand_41 : mdk MX2_stand 41 (.invokevirtual 111) = true := by decide +kernel
theorem tX2_stand_44 : mrk MX2_stand 44 .ireturn = true := by decide +kernel
def bX2_where_0 : List mB := [(.aload_n 0, mI 0), (.getfield 10, mR 2 0), (.iload_n 1, mI 0)]
theorem kX2_where_0 : mchk MX2_where 0 bX2_where_0 5 = true := by decide +kernel
theorem tX2_where_5 : mdk MX2_where 5 (.invokevirtual 57) = true := by decide +kernel
theorem tX2_where_8 : mbk MX2_where 8 (.ifCond .eq 13) 21 = true := by decide +kernel
def bX2_where_11 : List mB := [(.iload_n 2, mI 0), (.iconst 0, mI (nI 0)), (.bipush 60, mI (nI 60))]
theorem kX2_where_11 : mchk MX2_where 11 bX2_where_11 15 = true := by decide +kernel
theorem tX2_where_15 : mdk MX2_where 15 (.invokestatic 96) = true := by decide +kernel
theorem tX2_where_18 : mbk MX2_where 18 (.goto 4) 22 = true := by decide +kernel
def bX2_where_21 : List mB := [(.iconst (-1), mI (-1))]
theorem kX2_where_21 : mchk MX2_where 21 bX2_where_21 22 = true := by decide +kernel
def bX2_where_22 : List mB := [(.istore_n 3, mI 0), (.iload_n 3, mI 0)]
theorem kX2_where_22 : mchk MX2_where 22 bX2_where_22 24 = true := by decide +kernel
theorem tX2_where_24 : mbk MX2_where 24 (.ifCond .eq 9) 33 = true := by decide +kernel
def bX2_where_27 : List mB := [(.aload_n 0, mI 0), (.iload_n 3, mI 0)]
theorem kX2_where_27 : mchk MX2_where 27 bX2_where_27 29 = true := by decide +kernel
theorem tX2_where_29 : mdk MX2_where 29 (.invokevirtual 39) = true := by decide +kernel
theorem tX2_where_32 : mrk MX2_where 32 .ireturn = true := by decide +kernel
def bX2_where_33 : List mB := [(.aload_n 0, mI 0), (.getfield 16, mR 2 1), (.aload_n 0, mI 0), (.getfield 10, mR 2 0)]
theorem kX2_where_33 : mchk MX2_where 33 bX2_where_33 41 = true := by decide +kernel
theorem tX2_where_41 : mdk MX2_where 41 (.invokevirtual 107) = true := by decide +kernel
def bX2_where_44 : List mB := [(.aload_n 0, mI 0), (.getfield 16, mR 2 1), (.iload_n 2, mI 0)]
theorem kX2_where_44 : mchk MX2_where 44 bX2_where_44 49 = true := by decide +kernel
theorem tX2_where_49 : mdk MX2_where 49 (.invokevirtual 103) = true := by decide +kernel
def bX2_where_52 : List mB := [(.aload_n 0, mI 0), (.getfield 16, mR 2 1), (.iload_n 1, mI 0)]
theorem kX2_where_52 : mchk MX2_where 52 bX2_where_52 57 = true := by decide +kernel
theorem tX2_where_57 : mdk MX2_where 57 (.invokevirtual 64) = true := by decide +kernel
theorem tX2_where_60 : mrk MX2_where 60 .ireturn = true := by decide +kernel
def bX2_over_0 : List mB := [(.aload_n 0, mI 0), (.getfield 10, mR 2 0)]
theorem kX2_over_0 : mchk MX2_over 0 bX2_over_0 4 = true := by decide +kernel
theorem tX2_over_4 : mdk MX2_over 4 (.invokevirtual 114) = true := by decide +kernel
theorem tX2_over_7 : mbk MX2_over 7 (.ifCond .ne 10) 17 = true := by decide +kernel
def bX2_over_10 : List mB := [(.aload_n 0, mI 0), (.bipush (-3), mI (-3))]
theorem kX2_over_10 : mchk MX2_over 10 bX2_over_10 13 = true := by decide +kernel
theorem tX2_over_13 : mdk MX2_over 13 (.invokevirtual 39) = true := by decide +kernel
theorem tX2_over_16 : mrk MX2_over 16 .ireturn = true := by decide +kernel
def bX2_over_17 : List mB := [(.aload_n 0, mI 0), (.getfield 16, mR 2 1), (.aload_n 0, mI 0), (.getfield 10, mR 2 0)]
theorem kX2_over_17 : mchk MX2_over 17 bX2_over_17 25 = true := by decide +kernel
theorem tX2_over_25 : mdk MX2_over 25 (.invokevirtual 107) = true := by decide +kernel
def bX2_over_28 : List mB := [(.aload_n 0, mI 0)]
theorem kX2_over_28 : mchk MX2_over 28 bX2_over_28 29 = true := by decide +kernel
theorem tX2_over_29 : mdk MX2_over 29 (.invokevirtual 117) = true := by decide +kernel
theorem tX2_over_32 : mrk MX2_over 32 .ireturn = true := by decide +kernel
def bX2_mean_0 : List mB := [(.iload_n 1, mI 0), (.iconst 0, mI (nI 0)), (.bipush 60, mI (nI 60))]
theorem kX2_mean_0 : mchk MX2_mean 0 bX2_mean_0 4 = true := by decide +kernel
theorem tX2_mean_4 : mdk MX2_mean 4 (.invokestatic 96) = true := by decide +kernel
def bX2_mean_7 : List mB := [(.istore_n 3, mI 0), (.iload_n 3, mI 0)]
theorem kX2_mean_7 : mchk MX2_mean 7 bX2_mean_7 9 = true := by decide +kernel
theorem tX2_mean_9 : mbk MX2_mean 9 (.ifCond .ne 15) 24 = true := by decide +kernel
def bX2_mean_12 : List mB := [(.iload_n 2, mI 0)]
theorem kX2_mean_12 : mchk MX2_mean 12 bX2_mean_12 13 = true := by decide +kernel
theorem tX2_mean_13 : mbk MX2_mean 13 (.ifCond .eq 11) 24 = true := by decide +kernel
def bX2_mean_16 : List mB := [(.iload_n 2, mI 0), (.iconst 1, mI (nI 1))]
theorem kX2_mean_16 : mchk MX2_mean 16 bX2_mean_16 18 = true := by decide +kernel
theorem tX2_mean_18 : mbk MX2_mean 18 (.if_icmp .eq 6) 24 = true := by decide +kernel
def bX2_mean_21 : List mB := [(.bipush (-2), mI (-2)), (.istore_n 3, mI 0)]
theorem kX2_mean_21 : mchk MX2_mean 21 bX2_mean_21 24 = true := by decide +kernel
def bX2_mean_24 : List mB := [(.iload_n 3, mI 0)]
theorem kX2_mean_24 : mchk MX2_mean 24 bX2_mean_24 25 = true := by decide +kernel
theorem tX2_mean_25 : mbk MX2_mean 25 (.ifCond .eq 14) 39 = true := by decide +kernel
def bX2_mean_28 : List mB := [(.ldc2_w 120, mJ (lN 4000000000000000000)), (.aload_n 0, mI 0), (.iload_n 3, mI 0)]
theorem kX2_mean_28 : mchk MX2_mean 28 bX2_mean_28 33 = true := by decide +kernel
theorem tX2_mean_33 : mdk MX2_mean 33 (.invokevirtual 39) = true := by decide +kernel
def bX2_mean_36 : List mB := [(.i2l, mI 0), (.lsub, mI 0)]
theorem kX2_mean_36 : mchk MX2_mean 36 bX2_mean_36 38 = true := by decide +kernel
theorem tX2_mean_38 : mrk MX2_mean 38 .lreturn = true := by decide +kernel
def bX2_mean_39 : List mB := [(.aload_n 0, mI 0), (.getfield 16, mR 2 1), (.aload_n 0, mI 0), (.getfield 10, mR 2 0)]
theorem kX2_mean_39 : mchk MX2_mean 39 bX2_mean_39 47 = true := by decide +kernel
theorem tX2_mean_47 : mdk MX2_mean 47 (.invokevirtual 107) = true := by decide +kernel
def bX2_mean_50 : List mB := [(.aload_n 0, mI 0), (.getfield 16, mR 2 1)]
theorem kX2_mean_50 : mchk MX2_mean 50 bX2_mean_50 54 = true := by decide +kernel
theorem tX2_mean_54 : mdk MX2_mean 54 (.invokevirtual 122) = true := by decide +kernel
def bX2_mean_57 : List mB := [(.aload_n 0, mI 0), (.iload_n 1, mI 0)]
theorem kX2_mean_57 : mchk MX2_mean 57 bX2_mean_57 59 = true := by decide +kernel
theorem tX2_mean_59 : mdk MX2_mean 59 (.invokevirtual 125) = true := by decide +kernel
def bX2_mean_62 : List mB := [(.iadd, mI 0), (.istore 4, mI 0), (.iload_n 1, mI 0), (.iconst 1, mI (nI 1)), (.iadd, mI 0), (.istore 5, mI 0), (.iload 4, mI 0), (.iload 5, mI 0)]
theorem kX2_mean_62 : mchk MX2_mean 62 bX2_mean_62 74 = true := by decide +kernel
theorem tX2_mean_74 : mdk MX2_mean 74 (.invokestatic 128) = true := by decide +kernel
def bX2_mean_77 : List mB := [(.istore 6, mI 0), (.iload_n 2, mI 0)]
theorem kX2_mean_77 : mchk MX2_mean 77 bX2_mean_77 80 = true := by decide +kernel
theorem tX2_mean_80 : mbk MX2_mean 80 (.ifCond .ne 12) 92 = true := by decide +kernel
def bX2_mean_83 : List mB := [(.iload 4, mI 0), (.iload 6, mI 0), (.idiv, mI 0), (.i2l, mI 0)]
theorem kX2_mean_83 : mchk MX2_mean 83 bX2_mean_83 89 = true := by decide +kernel
theorem tX2_mean_89 : mbk MX2_mean 89 (.goto 9) 98 = true := by decide +kernel
def bX2_mean_92 : List mB := [(.iload 5, mI 0), (.iload 6, mI 0), (.idiv, mI 0), (.i2l, mI 0)]
theorem kX2_mean_92 : mchk MX2_mean 92 bX2_mean_92 98 = true := by decide +kernel
theorem tX2_mean_98 : mrk MX2_mean 98 .lreturn = true := by decide +kernel
def bX2_frees_0 : List mB := [(.iload_n 1, mI 0), (.iconst 0, mI (nI 0)), (.bipush 60, mI (nI 60))]
theorem kX2_frees_0 : mchk MX2_frees 0 bX2_frees_0 4 = true := by decide +kernel
theorem tX2_frees_4 : mdk MX2_frees 4 (.invokestatic 96) = true := by decide +kernel
def bX2_frees_7 : List mB := [(.istore_n 2, mI 0), (.iload_n 2, mI 0)]
theorem kX2_frees_7 : mchk MX2_frees 7 bX2_frees_7 9 = true := by decide +kernel
theorem tX2_frees_9 : mbk MX2_frees 9 (.ifCond .eq 9) 18 = true := by decide +kernel
def bX2_frees_12 : List mB := [(.aload_n 0, mI 0), (.iload_n 2, mI 0)]
theorem kX2_frees_12 : mchk MX2_frees 12 bX2_frees_12 14 = true := by decide +kernel
theorem tX2_frees_14 : mdk MX2_frees 14 (.invokevirtual 39) = true := by decide +kernel
theorem tX2_frees_17 : mrk MX2_frees 17 .ireturn = true := by decide +kernel
def bX2_frees_18 : List mB := [(.aload_n 0, mI 0), (.getfield 16, mR 2 1), (.aload_n 0, mI 0), (.getfield 10, mR 2 0)]
theorem kX2_frees_18 : mchk MX2_frees 18 bX2_frees_18 26 = true := by decide +kernel
theorem tX2_frees_26 : mdk MX2_frees 26 (.invokevirtual 107) = true := by decide +kernel
def bX2_frees_29 : List mB := [(.aload_n 0, mI 0), (.getfield 16, mR 2 1), (.iload_n 1, mI 0)]
theorem kX2_frees_29 : mchk MX2_frees 29 bX2_frees_29 34 = true := by decide +kernel
theorem tX2_frees_34 : mdk MX2_frees 34 (.invokevirtual 103) = true := by decide +kernel
def bX2_frees_37 : List mB := [(.aload_n 0, mI 0), (.getfield 16, mR 2 1)]
theorem kX2_frees_37 : mchk MX2_frees 37 bX2_frees_37 41 = true := by decide +kernel
theorem tX2_frees_41 : mdk MX2_frees 41 (.invokevirtual 131) = true := by decide +kernel
theorem tX2_frees_44 : mrk MX2_frees 44 .ireturn = true := by decide +kernel
def bX2_never_0 : List mB := [(.iload_n 1, mI 0), (.iconst 0, mI (nI 0)), (.bipush 60, mI (nI 60))]
theorem kX2_never_0 : mchk MX2_never 0 bX2_never_0 4 = true := by decide +kernel
theorem tX2_never_4 : mdk MX2_never 4 (.invokestatic 96) = true := by decide +kernel
def bX2_never_7 : List mB := [(.istore_n 2, mI 0), (.iload_n 2, mI 0)]
theorem kX2_never_7 : mchk MX2_never 7 bX2_never_7 9 = true := by decide +kernel
theorem tX2_never_9 : mbk MX2_never 9 (.ifCond .eq 9) 18 = true := by decide +kernel
def bX2_never_12 : List mB := [(.aload_n 0, mI 0), (.iload_n 2, mI 0)]
theorem kX2_never_12 : mchk MX2_never 12 bX2_never_12 14 = true := by decide +kernel
theorem tX2_never_14 : mdk MX2_never 14 (.invokevirtual 39) = true := by decide +kernel
theorem tX2_never_17 : mrk MX2_never 17 .ireturn = true := by decide +kernel
def bX2_never_18 : List mB := [(.iload_n 1, mI 0)]
theorem kX2_never_18 : mchk MX2_never 18 bX2_never_18 19 = true := by decide +kernel
theorem tX2_never_19 : mbk MX2_never 19 (.ifCond .ne 11) 30 = true := by decide +kernel
def bX2_never_22 : List mB := [(.aload_n 0, mI 0), (.getfield 10, mR 2 0)]
theorem kX2_never_22 : mchk MX2_never 22 bX2_never_22 26 = true := by decide +kernel
theorem tX2_never_26 : mdk MX2_never 26 (.invokevirtual 111) = true := by decide +kernel
theorem tX2_never_29 : mrk MX2_never 29 .ireturn = true := by decide +kernel
def bX2_never_30 : List mB := [(.aload_n 0, mI 0), (.getfield 16, mR 2 1), (.aload_n 0, mI 0), (.getfield 10, mR 2 0)]
theorem kX2_never_30 : mchk MX2_never 30 bX2_never_30 38 = true := by decide +kernel
theorem tX2_never_38 : mdk MX2_never 38 (.invokevirtual 107) = true := by decide +kernel
def bX2_never_41 : List mB := [(.iconst (-1), mI (-1)), (.istore_n 3, mI 0), (.iconst 1, mI (nI 1)), (.istore 4, mI 0)]
theorem kX2_never_41 : mchk MX2_never 41 bX2_never_41 46 = true := by decide +kernel
def bX2_never_46 : List mB := [(.iload 4, mI 0), (.iload_n 1, mI 0)]
theorem kX2_never_46 : mchk MX2_never 46 bX2_never_46 49 = true := by decide +kernel
theorem tX2_never_49 : mbk MX2_never 49 (.if_icmp .gt 26) 75 = true := by decide +kernel
def bX2_never_52 : List mB := [(.aload_n 0, mI 0), (.getfield 16, mR 2 1)]
theorem kX2_never_52 : mchk MX2_never 52 bX2_never_52 56 = true := by decide +kernel
theorem tX2_never_56 : mdk MX2_never 56 (.invokevirtual 134) = true := by decide +kernel
def bX2_never_59 : List mB := [(.iload_n 3, mI 0), (.aload_n 0, mI 0), (.getfield 16, mR 2 1)]
theorem kX2_never_59 : mchk MX2_never 59 bX2_never_59 64 = true := by decide +kernel
theorem tX2_never_64 : mdk MX2_never 64 (.invokevirtual 111) = true := by decide +kernel
def bX2_never_67 : List mB := [(.iand, mI 0), (.istore_n 3, mI 0), (.iinc 4 1, mI (nI 1))]
theorem kX2_never_67 : mchk MX2_never 67 bX2_never_67 72 = true := by decide +kernel
theorem tX2_never_72 : mbk MX2_never 72 (.goto (-26)) 46 = true := by decide +kernel
def bX2_never_75 : List mB := [(.iload_n 3, mI 0)]
theorem kX2_never_75 : mchk MX2_never 75 bX2_never_75 76 = true := by decide +kernel
theorem tX2_never_76 : mrk MX2_never 76 .ireturn = true := by decide +kernel
def bX2_mayFree_0 : List mB := [(.aload_n 0, mI 0), (.getfield 10, mR 2 0), (.iload_n 1, mI 0)]
theorem kX2_mayFree_0 : mchk MX2_mayFree 0 bX2_mayFree_0 5 = true := by decide +kernel
theorem tX2_mayFree_5 : mdk MX2_mayFree 5 (.invokevirtual 57) = true := by decide +kernel
theorem tX2_mayFree_8 : mbk MX2_mayFree 8 (.ifCond .ne 9) 17 = true := by decide +kernel
def bX2_mayFree_11 : List mB := [(.aload_n 0, mI 0), (.iconst (-1), mI (-1))]
theorem kX2_mayFree_11 : mchk MX2_mayFree 11 bX2_mayFree_11 13 = true := by decide +kernel
theorem tX2_mayFree_13 : mdk MX2_mayFree 13 (.invokevirtual 39) = true := by decide +kernel
theorem tX2_mayFree_16 : mrk MX2_mayFree 16 .ireturn = true := by decide +kernel
def bX2_mayFree_17 : List mB := [(.aload_n 0, mI 0), (.getfield 10, mR 2 0), (.iload_n 1, mI 0)]
theorem kX2_mayFree_17 : mchk MX2_mayFree 17 bX2_mayFree_17 22 = true := by decide +kernel
theorem tX2_mayFree_22 : mdk MX2_mayFree 22 (.invokevirtual 137) = true := by decide +kernel
theorem tX2_mayFree_25 : mrk MX2_mayFree 25 .ireturn = true := by decide +kernel
def bX2_worth_0 : List mB := [(.aload_n 0, mI 0), (.getfield 10, mR 2 0), (.iload_n 1, mI 0)]
theorem kX2_worth_0 : mchk MX2_worth 0 bX2_worth_0 5 = true := by decide +kernel
theorem tX2_worth_5 : mdk MX2_worth 5 (.invokevirtual 57) = true := by decide +kernel
theorem tX2_worth_8 : mbk MX2_worth 8 (.ifCond .ne 7) 15 = true := by decide +kernel
def bX2_worth_11 : List mB := [(.iconst (-1), mI (-1))]
theorem kX2_worth_11 : mchk MX2_worth 11 bX2_worth_11 12 = true := by decide +kernel
theorem tX2_worth_12 : mbk MX2_worth 12 (.goto 20) 32 = true := by decide +kernel
def bX2_worth_15 : List mB := [(.aload_n 0, mI 0), (.getfield 10, mR 2 0), (.iload_n 1, mI 0)]
theorem kX2_worth_15 : mchk MX2_worth 15 bX2_worth_15 20 = true := by decide +kernel
theorem tX2_worth_20 : mdk MX2_worth 20 (.invokevirtual 140) = true := by decide +kernel
theorem tX2_worth_23 : mbk MX2_worth 23 (.ifCond .eq 8) 31 = true := by decide +kernel
def bX2_worth_26 : List mB := [(.bipush (-3), mI (-3))]
theorem kX2_worth_26 : mchk MX2_worth 26 bX2_worth_26 28 = true := by decide +kernel
theorem tX2_worth_28 : mbk MX2_worth 28 (.goto 4) 32 = true := by decide +kernel
def bX2_worth_31 : List mB := [(.iconst 0, mI (nI 0))]
theorem kX2_worth_31 : mchk MX2_worth 31 bX2_worth_31 32 = true := by decide +kernel
def bX2_worth_32 : List mB := [(.istore_n 2, mI 0), (.iload_n 2, mI 0)]
theorem kX2_worth_32 : mchk MX2_worth 32 bX2_worth_32 34 = true := by decide +kernel
theorem tX2_worth_34 : mbk MX2_worth 34 (.ifCond .eq 12) 46 = true := by decide +kernel
def bX2_worth_37 : List mB := [(.ldc 143, mI (nI 1000000000)), (.aload_n 0, mI 0), (.iload_n 2, mI 0)]
theorem kX2_worth_37 : mchk MX2_worth 37 bX2_worth_37 41 = true := by decide +kernel
theorem tX2_worth_41 : mdk MX2_worth 41 (.invokevirtual 39) = true := by decide +kernel
def bX2_worth_44 : List mB := [(.isub, mI 0)]
theorem kX2_worth_44 : mchk MX2_worth 44 bX2_worth_44 45 = true := by decide +kernel
theorem tX2_worth_45 : mrk MX2_worth 45 .ireturn = true := by decide +kernel
def bX2_worth_46 : List mB := [(.aload_n 0, mI 0), (.getfield 16, mR 2 1), (.aload_n 0, mI 0), (.getfield 10, mR 2 0)]
theorem kX2_worth_46 : mchk MX2_worth 46 bX2_worth_46 54 = true := by decide +kernel
theorem tX2_worth_54 : mdk MX2_worth 54 (.invokevirtual 107) = true := by decide +kernel
def bX2_worth_57 : List mB := [(.aload_n 0, mI 0), (.iload_n 1, mI 0)]
theorem kX2_worth_57 : mchk MX2_worth 57 bX2_worth_57 59 = true := by decide +kernel
theorem tX2_worth_59 : mdk MX2_worth 59 (.invokevirtual 144) = true := by decide +kernel
def bX2_worth_62 : List mB := [(.istore_n 3, mI 0), (.aload_n 0, mI 0), (.getfield 16, mR 2 1), (.aload_n 0, mI 0), (.getfield 10, mR 2 0)]
theorem kX2_worth_62 : mchk MX2_worth 62 bX2_worth_62 71 = true := by decide +kernel
theorem tX2_worth_71 : mdk MX2_worth 71 (.invokevirtual 107) = true := by decide +kernel
def bX2_worth_74 : List mB := [(.aload_n 0, mI 0), (.getfield 16, mR 2 1), (.iload_n 1, mI 0)]
theorem kX2_worth_74 : mchk MX2_worth 74 bX2_worth_74 79 = true := by decide +kernel
theorem tX2_worth_79 : mdk MX2_worth 79 (.invokevirtual 147) = true := by decide +kernel
def bX2_worth_82 : List mB := [(.aload_n 0, mI 0), (.iload_n 1, mI 0)]
theorem kX2_worth_82 : mchk MX2_worth 82 bX2_worth_82 84 = true := by decide +kernel
theorem tX2_worth_84 : mdk MX2_worth 84 (.invokevirtual 144) = true := by decide +kernel
def bX2_worth_87 : List mB := [(.iload_n 3, mI 0), (.isub, mI 0)]
theorem kX2_worth_87 : mchk MX2_worth 87 bX2_worth_87 89 = true := by decide +kernel
theorem tX2_worth_89 : mrk MX2_worth 89 .ireturn = true := by decide +kernel
def bX2_hunt_0 : List mB := [(.aload_n 0, mI 0), (.getfield 10, mR 2 0), (.iload_n 1, mI 0)]
theorem kX2_hunt_0 : mchk MX2_hunt 0 bX2_hunt_0 5 = true := by decide +kernel
theorem tX2_hunt_5 : mdk MX2_hunt 5 (.invokevirtual 57) = true := by decide +kernel
theorem tX2_hunt_8 : mbk MX2_hunt 8 (.ifCond .ne 7) 15 = true := by decide +kernel
def bX2_hunt_11 : List mB := [(.iconst (-1), mI (-1))]
theorem kX2_hunt_11 : mchk MX2_hunt 11 bX2_hunt_11 12 = true := by decide +kernel
theorem tX2_hunt_12 : mbk MX2_hunt 12 (.goto 26) 38 = true := by decide +kernel
def bX2_hunt_15 : List mB := [(.aload_n 0, mI 0), (.getfield 10, mR 2 0), (.iload_n 1, mI 0)]
theorem kX2_hunt_15 : mchk MX2_hunt 15 bX2_hunt_15 20 = true := by decide +kernel
theorem tX2_hunt_20 : mdk MX2_hunt 20 (.invokevirtual 140) = true := by decide +kernel
theorem tX2_hunt_23 : mbk MX2_hunt 23 (.ifCond .ne 8) 31 = true := by decide +kernel
def bX2_hunt_26 : List mB := [(.bipush (-3), mI (-3))]
theorem kX2_hunt_26 : mchk MX2_hunt 26 bX2_hunt_26 28 = true := by decide +kernel
theorem tX2_hunt_28 : mbk MX2_hunt 28 (.goto 10) 38 = true := by decide +kernel
def bX2_hunt_31 : List mB := [(.iload_n 2, mI 0), (.iconst 1, mI (nI 1)), (.bipush 60, mI (nI 60))]
theorem kX2_hunt_31 : mchk MX2_hunt 31 bX2_hunt_31 35 = true := by decide +kernel
theorem tX2_hunt_35 : mdk MX2_hunt 35 (.invokestatic 96) = true := by decide +kernel
def bX2_hunt_38 : List mB := [(.istore 4, mI 0), (.iload 4, mI 0)]
theorem kX2_hunt_38 : mchk MX2_hunt 38 bX2_hunt_38 42 = true := by decide +kernel
theorem tX2_hunt_42 : mbk MX2_hunt 42 (.ifCond .ne 16) 58 = true := by decide +kernel
def bX2_hunt_45 : List mB := [(.iload_n 3, mI 0)]
theorem kX2_hunt_45 : mchk MX2_hunt 45 bX2_hunt_45 46 = true := by decide +kernel
theorem tX2_hunt_46 : mbk MX2_hunt 46 (.ifCond .eq 12) 58 = true := by decide +kernel
def bX2_hunt_49 : List mB := [(.iload_n 3, mI 0), (.iconst 1, mI (nI 1))]
theorem kX2_hunt_49 : mchk MX2_hunt 49 bX2_hunt_49 51 = true := by decide +kernel
theorem tX2_hunt_51 : mbk MX2_hunt 51 (.if_icmp .eq 7) 58 = true := by decide +kernel
def bX2_hunt_54 : List mB := [(.bipush (-2), mI (-2)), (.istore 4, mI 0)]
theorem kX2_hunt_54 : mchk MX2_hunt 54 bX2_hunt_54 58 = true := by decide +kernel
def bX2_hunt_58 : List mB := [(.iload 4, mI 0)]
theorem kX2_hunt_58 : mchk MX2_hunt 58 bX2_hunt_58 60 = true := by decide +kernel
theorem tX2_hunt_60 : mbk MX2_hunt 60 (.ifCond .eq 10) 70 = true := by decide +kernel
def bX2_hunt_63 : List mB := [(.aload_n 0, mI 0), (.iload 4, mI 0)]
theorem kX2_hunt_63 : mchk MX2_hunt 63 bX2_hunt_63 66 = true := by decide +kernel
theorem tX2_hunt_66 : mdk MX2_hunt 66 (.invokevirtual 39) = true := by decide +kernel
theorem tX2_hunt_69 : mrk MX2_hunt 69 .ireturn = true := by decide +kernel
def bX2_hunt_70 : List mB := [(.iconst 0, mI (nI 0)), (.istore 5, mI 0), (.iconst (-1), mI (-1)), (.istore 6, mI 0), (.iconst 0, mI (nI 0)), (.istore 7, mI 0)]
theorem kX2_hunt_70 : mchk MX2_hunt 70 bX2_hunt_70 79 = true := by decide +kernel
def bX2_hunt_79 : List mB := [(.iload 7, mI 0), (.iconst 4, mI (nI 4))]
theorem kX2_hunt_79 : mchk MX2_hunt 79 bX2_hunt_79 82 = true := by decide +kernel
theorem tX2_hunt_82 : mbk MX2_hunt 82 (.if_icmp .ge 54) 136 = true := by decide +kernel
def bX2_hunt_85 : List mB := [(.aload_n 0, mI 0), (.getfield 16, mR 2 1), (.aload_n 0, mI 0), (.getfield 10, mR 2 0)]
theorem kX2_hunt_85 : mchk MX2_hunt 85 bX2_hunt_85 93 = true := by decide +kernel
theorem tX2_hunt_93 : mdk MX2_hunt 93 (.invokevirtual 107) = true := by decide +kernel
def bX2_hunt_96 : List mB := [(.aload_n 0, mI 0), (.getfield 16, mR 2 1), (.iload_n 1, mI 0), (.iconst 4, mI (nI 4)), (.iload 7, mI 0), (.iadd, mI 0)]
theorem kX2_hunt_96 : mchk MX2_hunt 96 bX2_hunt_96 105 = true := by decide +kernel
theorem tX2_hunt_105 : mdk MX2_hunt 105 (.invokevirtual 150) = true := by decide +kernel
def bX2_hunt_108 : List mB := [(.aload_n 0, mI 0), (.iload_n 2, mI 0)]
theorem kX2_hunt_108 : mchk MX2_hunt 108 bX2_hunt_108 110 = true := by decide +kernel
theorem tX2_hunt_110 : mdk MX2_hunt 110 (.invokevirtual 125) = true := by decide +kernel
def bX2_hunt_113 : List mB := [(.istore 8, mI 0), (.iload 8, mI 0), (.iload 6, mI 0)]
theorem kX2_hunt_113 : mchk MX2_hunt 113 bX2_hunt_113 119 = true := by decide +kernel
theorem tX2_hunt_119 : mbk MX2_hunt 119 (.if_icmp .le 11) 130 = true := by decide +kernel
def bX2_hunt_122 : List mB := [(.iload 8, mI 0), (.istore 6, mI 0), (.iload 7, mI 0), (.istore 5, mI 0)]
theorem kX2_hunt_122 : mchk MX2_hunt 122 bX2_hunt_122 130 = true := by decide +kernel
def bX2_hunt_130 : List mB := [(.iinc 7 1, mI (nI 1))]
theorem kX2_hunt_130 : mchk MX2_hunt 130 bX2_hunt_130 133 = true := by decide +kernel
theorem tX2_hunt_133 : mbk MX2_hunt 133 (.goto (-54)) 79 = true := by decide +kernel
def bX2_hunt_136 : List mB := [(.iload_n 3, mI 0)]
theorem kX2_hunt_136 : mchk MX2_hunt 136 bX2_hunt_136 137 = true := by decide +kernel
theorem tX2_hunt_137 : mbk MX2_hunt 137 (.ifCond .ne 8) 145 = true := by decide +kernel
def bX2_hunt_140 : List mB := [(.iload 5, mI 0)]
theorem kX2_hunt_140 : mchk MX2_hunt 140 bX2_hunt_140 142 = true := by decide +kernel
theorem tX2_hunt_142 : mbk MX2_hunt 142 (.goto 5) 147 = true := by decide +kernel
def bX2_hunt_145 : List mB := [(.iload 6, mI 0)]
theorem kX2_hunt_145 : mchk MX2_hunt 145 bX2_hunt_145 147 = true := by decide +kernel
theorem tX2_hunt_147 : mrk MX2_hunt 147 .ireturn = true := by decide +kernel
def bX2_enough_0 : List mB := [(.aload_n 0, mI 0), (.getfield 10, mR 2 0)]
theorem kX2_enough_0 : mchk MX2_enough 0 bX2_enough_0 4 = true := by decide +kernel
theorem tX2_enough_4 : mdk MX2_enough 4 (.invokevirtual 114) = true := by decide +kernel
theorem tX2_enough_7 : mbk MX2_enough 7 (.ifCond .ne 10) 17 = true := by decide +kernel
def bX2_enough_10 : List mB := [(.aload_n 0, mI 0), (.bipush (-3), mI (-3))]
theorem kX2_enough_10 : mchk MX2_enough 10 bX2_enough_10 13 = true := by decide +kernel
theorem tX2_enough_13 : mdk MX2_enough 13 (.invokevirtual 39) = true := by decide +kernel
theorem tX2_enough_16 : mrk MX2_enough 16 .ireturn = true := by decide +kernel
def bX2_enough_17 : List mB := [(.iconst 0, mI (nI 0)), (.istore_n 1, mI 0)]
theorem kX2_enough_17 : mchk MX2_enough 17 bX2_enough_17 19 = true := by decide +kernel
def bX2_enough_19 : List mB := [(.iload_n 1, mI 0), (.iconst 3, mI (nI 3))]
theorem kX2_enough_19 : mchk MX2_enough 19 bX2_enough_19 21 = true := by decide +kernel
theorem tX2_enough_21 : mbk MX2_enough 21 (.if_icmp .gt 42) 63 = true := by decide +kernel
def bX2_enough_24 : List mB := [(.aload_n 0, mI 0), (.getfield 16, mR 2 1), (.aload_n 0, mI 0), (.getfield 10, mR 2 0)]
theorem kX2_enough_24 : mchk MX2_enough 24 bX2_enough_24 32 = true := by decide +kernel
theorem tX2_enough_32 : mdk MX2_enough 32 (.invokevirtual 107) = true := by decide +kernel
def bX2_enough_35 : List mB := [(.aload_n 0, mI 0), (.iload_n 1, mI 0)]
theorem kX2_enough_35 : mchk MX2_enough 35 bX2_enough_35 37 = true := by decide +kernel
theorem tX2_enough_37 : mdk MX2_enough 37 (.invokevirtual 154) = true := by decide +kernel
theorem tX2_enough_40 : mbk MX2_enough 40 (.ifCond .ne 6) 46 = true := by decide +kernel
def bX2_enough_43 : List mB := [(.bipush (-9), mI (-9))]
theorem kX2_enough_43 : mchk MX2_enough 43 bX2_enough_43 45 = true := by decide +kernel
theorem tX2_enough_45 : mrk MX2_enough 45 .ireturn = true := by decide +kernel
def bX2_enough_46 : List mB := [(.aload_n 0, mI 0)]
theorem kX2_enough_46 : mchk MX2_enough 46 bX2_enough_46 47 = true := by decide +kernel
theorem tX2_enough_47 : mdk MX2_enough 47 (.invokevirtual 117) = true := by decide +kernel
def bX2_enough_50 : List mB := [(.bipush (-9), mI (-9))]
theorem kX2_enough_50 : mchk MX2_enough 50 bX2_enough_50 52 = true := by decide +kernel
theorem tX2_enough_52 : mbk MX2_enough 52 (.if_icmp .eq 5) 57 = true := by decide +kernel
def bX2_enough_55 : List mB := [(.iload_n 1, mI 0)]
theorem kX2_enough_55 : mchk MX2_enough 55 bX2_enough_55 56 = true := by decide +kernel
theorem tX2_enough_56 : mrk MX2_enough 56 .ireturn = true := by decide +kernel
def bX2_enough_57 : List mB := [(.iinc 1 1, mI (nI 1))]
theorem kX2_enough_57 : mchk MX2_enough 57 bX2_enough_57 60 = true := by decide +kernel
theorem tX2_enough_60 : mbk MX2_enough 60 (.goto (-41)) 19 = true := by decide +kernel
def bX2_enough_63 : List mB := [(.bipush (-9), mI (-9))]
theorem kX2_enough_63 : mchk MX2_enough 63 bX2_enough_63 65 = true := by decide +kernel
theorem tX2_enough_65 : mrk MX2_enough 65 .ireturn = true := by decide +kernel
def bX2_change_0 : List mB := [(.aload_n 0, mI 0), (.getfield 10, mR 2 0), (.iload_n 1, mI 0)]
theorem kX2_change_0 : mchk MX2_change 0 bX2_change_0 5 = true := by decide +kernel
theorem tX2_change_5 : mdk MX2_change 5 (.invokevirtual 57) = true := by decide +kernel
theorem tX2_change_8 : mbk MX2_change 8 (.ifCond .eq 14) 22 = true := by decide +kernel
def bX2_change_11 : List mB := [(.aload_n 0, mI 0), (.getfield 10, mR 2 0), (.iload_n 2, mI 0)]
theorem kX2_change_11 : mchk MX2_change 11 bX2_change_11 16 = true := by decide +kernel
theorem tX2_change_16 : mdk MX2_change 16 (.invokevirtual 57) = true := by decide +kernel
theorem tX2_change_19 : mbk MX2_change 19 (.ifCond .ne 7) 26 = true := by decide +kernel
def bX2_change_22 : List mB := [(.iconst (-1), mI (-1))]
theorem kX2_change_22 : mchk MX2_change 22 bX2_change_22 23 = true := by decide +kernel
theorem tX2_change_23 : mbk MX2_change 23 (.goto 4) 27 = true := by decide +kernel
def bX2_change_26 : List mB := [(.iconst 0, mI (nI 0))]
theorem kX2_change_26 : mchk MX2_change 26 bX2_change_26 27 = true := by decide +kernel
def bX2_change_27 : List mB := [(.istore 4, mI 0), (.iload 4, mI 0)]
theorem kX2_change_27 : mchk MX2_change 27 bX2_change_27 31 = true := by decide +kernel
theorem tX2_change_31 : mbk MX2_change 31 (.ifCond .ne 29) 60 = true := by decide +kernel
def bX2_change_34 : List mB := [(.aload_n 0, mI 0), (.getfield 10, mR 2 0), (.iload_n 1, mI 0)]
theorem kX2_change_34 : mchk MX2_change 34 bX2_change_34 39 = true := by decide +kernel
theorem tX2_change_39 : mdk MX2_change 39 (.invokevirtual 140) = true := by decide +kernel
theorem tX2_change_42 : mbk MX2_change 42 (.ifCond .eq 14) 56 = true := by decide +kernel
def bX2_change_45 : List mB := [(.aload_n 0, mI 0), (.getfield 10, mR 2 0), (.iload_n 2, mI 0)]
theorem kX2_change_45 : mchk MX2_change 45 bX2_change_45 50 = true := by decide +kernel
theorem tX2_change_50 : mdk MX2_change 50 (.invokevirtual 140) = true := by decide +kernel
theorem tX2_change_53 : mbk MX2_change 53 (.ifCond .eq 7) 60 = true := by decide +kernel
def bX2_change_56 : List mB := [(.bipush (-3), mI (-3)), (.istore 4, mI 0)]
theorem kX2_change_56 : mchk MX2_change 56 bX2_change_56 60 = true := by decide +kernel
def bX2_change_60 : List mB := [(.iload 4, mI 0)]
theorem kX2_change_60 : mchk MX2_change 60 bX2_change_60 62 = true := by decide +kernel
theorem tX2_change_62 : mbk MX2_change 62 (.ifCond .ne 16) 78 = true := by decide +kernel
def bX2_change_65 : List mB := [(.iload_n 3, mI 0)]
theorem kX2_change_65 : mchk MX2_change 65 bX2_change_65 66 = true := by decide +kernel
theorem tX2_change_66 : mbk MX2_change 66 (.ifCond .eq 12) 78 = true := by decide +kernel
def bX2_change_69 : List mB := [(.iload_n 3, mI 0), (.iconst 1, mI (nI 1))]
theorem kX2_change_69 : mchk MX2_change 69 bX2_change_69 71 = true := by decide +kernel
theorem tX2_change_71 : mbk MX2_change 71 (.if_icmp .eq 7) 78 = true := by decide +kernel
def bX2_change_74 : List mB := [(.bipush (-2), mI (-2)), (.istore 4, mI 0)]
theorem kX2_change_74 : mchk MX2_change 74 bX2_change_74 78 = true := by decide +kernel
def bX2_change_78 : List mB := [(.iload 4, mI 0)]
theorem kX2_change_78 : mchk MX2_change 78 bX2_change_78 80 = true := by decide +kernel
theorem tX2_change_80 : mbk MX2_change 80 (.ifCond .eq 10) 90 = true := by decide +kernel
def bX2_change_83 : List mB := [(.aload_n 0, mI 0), (.iload 4, mI 0)]
theorem kX2_change_83 : mchk MX2_change 83 bX2_change_83 86 = true := by decide +kernel
theorem tX2_change_86 : mdk MX2_change 86 (.invokevirtual 39) = true := by decide +kernel
theorem tX2_change_89 : mrk MX2_change 89 .ireturn = true := by decide +kernel
def bX2_change_90 : List mB := [(.iconst 0, mI (nI 0)), (.istore 5, mI 0), (.iconst (-1), mI (-1)), (.istore 6, mI 0), (.aload_n 0, mI 0), (.getfield 16, mR 2 1), (.aload_n 0, mI 0), (.getfield 10, mR 2 0)]
theorem kX2_change_90 : mchk MX2_change 90 bX2_change_90 104 = true := by decide +kernel
theorem tX2_change_104 : mdk MX2_change 104 (.invokevirtual 107) = true := by decide +kernel
def bX2_change_107 : List mB := [(.iconst 0, mI (nI 0)), (.istore 7, mI 0)]
theorem kX2_change_107 : mchk MX2_change 107 bX2_change_107 110 = true := by decide +kernel
def bX2_change_110 : List mB := [(.iload 7, mI 0), (.bipush 20, mI (nI 20))]
theorem kX2_change_110 : mchk MX2_change 110 bX2_change_110 114 = true := by decide +kernel
theorem tX2_change_114 : mbk MX2_change 114 (.if_icmp .gt 73) 187 = true := by decide +kernel
def bX2_change_117 : List mB := [(.aload_n 0, mI 0), (.getfield 19, mR 2 2), (.aload_n 0, mI 0), (.getfield 16, mR 2 1)]
theorem kX2_change_117 : mchk MX2_change 117 bX2_change_117 125 = true := by decide +kernel
theorem tX2_change_125 : mdk MX2_change 125 (.invokevirtual 107) = true := by decide +kernel
def bX2_change_128 : List mB := [(.aload_n 0, mI 0), (.getfield 19, mR 2 2), (.iload_n 1, mI 0), (.iload_n 2, mI 0)]
theorem kX2_change_128 : mchk MX2_change 128 bX2_change_128 134 = true := by decide +kernel
theorem tX2_change_134 : mdk MX2_change 134 (.invokevirtual 157) = true := by decide +kernel
def bX2_change_137 : List mB := [(.aload_n 0, mI 0), (.getfield 19, mR 2 2), (.bipush 30, mI (nI 30)), (.iload 7, mI 0), (.isub, mI 0)]
theorem kX2_change_137 : mchk MX2_change 137 bX2_change_137 146 = true := by decide +kernel
theorem tX2_change_146 : mdk MX2_change 146 (.invokevirtual 103) = true := by decide +kernel
def bX2_change_149 : List mB := [(.aload_n 0, mI 0), (.getfield 19, mR 2 2)]
theorem kX2_change_149 : mchk MX2_change 149 bX2_change_149 153 = true := by decide +kernel
theorem tX2_change_153 : mdk MX2_change 153 (.invokevirtual 122) = true := by decide +kernel
def bX2_change_156 : List mB := [(.iload 6, mI 0)]
theorem kX2_change_156 : mchk MX2_change 156 bX2_change_156 158 = true := by decide +kernel
theorem tX2_change_158 : mbk MX2_change 158 (.if_icmp .le 16) 174 = true := by decide +kernel
def bX2_change_161 : List mB := [(.aload_n 0, mI 0), (.getfield 19, mR 2 2)]
theorem kX2_change_161 : mchk MX2_change 161 bX2_change_161 165 = true := by decide +kernel
theorem tX2_change_165 : mdk MX2_change 165 (.invokevirtual 122) = true := by decide +kernel
def bX2_change_168 : List mB := [(.istore 6, mI 0), (.iload 7, mI 0), (.istore 5, mI 0)]
theorem kX2_change_168 : mchk MX2_change 168 bX2_change_168 174 = true := by decide +kernel
def bX2_change_174 : List mB := [(.aload_n 0, mI 0), (.getfield 16, mR 2 1)]
theorem kX2_change_174 : mchk MX2_change 174 bX2_change_174 178 = true := by decide +kernel
theorem tX2_change_178 : mdk MX2_change 178 (.invokevirtual 134) = true := by decide +kernel
def bX2_change_181 : List mB := [(.iinc 7 1, mI (nI 1))]
theorem kX2_change_181 : mchk MX2_change 181 bX2_change_181 184 = true := by decide +kernel
theorem tX2_change_184 : mbk MX2_change 184 (.goto (-74)) 110 = true := by decide +kernel
def bX2_change_187 : List mB := [(.iload_n 3, mI 0)]
theorem kX2_change_187 : mchk MX2_change 187 bX2_change_187 188 = true := by decide +kernel
theorem tX2_change_188 : mbk MX2_change 188 (.ifCond .ne 8) 196 = true := by decide +kernel
def bX2_change_191 : List mB := [(.iload 5, mI 0)]
theorem kX2_change_191 : mchk MX2_change 191 bX2_change_191 193 = true := by decide +kernel
theorem tX2_change_193 : mbk MX2_change 193 (.goto 5) 198 = true := by decide +kernel
def bX2_change_196 : List mB := [(.iload 6, mI 0)]
theorem kX2_change_196 : mchk MX2_change 196 bX2_change_196 198 = true := by decide +kernel
theorem tX2_change_198 : mrk MX2_change 198 .ireturn = true := by decide +kernel
def bX2_longest_0 : List mB := [(.aload_n 0, mI 0), (.getfield 10, mR 2 0)]
theorem kX2_longest_0 : mchk MX2_longest 0 bX2_longest_0 4 = true := by decide +kernel
theorem tX2_longest_4 : mdk MX2_longest 4 (.invokevirtual 114) = true := by decide +kernel
theorem tX2_longest_7 : mbk MX2_longest 7 (.ifCond .ne 10) 17 = true := by decide +kernel
def bX2_longest_10 : List mB := [(.aload_n 0, mI 0), (.bipush (-3), mI (-3))]
theorem kX2_longest_10 : mchk MX2_longest 10 bX2_longest_10 13 = true := by decide +kernel
theorem tX2_longest_13 : mdk MX2_longest 13 (.invokevirtual 39) = true := by decide +kernel
theorem tX2_longest_16 : mrk MX2_longest 16 .ireturn = true := by decide +kernel
def bX2_longest_17 : List mB := [(.iconst 0, mI (nI 0)), (.istore_n 1, mI 0), (.iconst (-1), mI (-1)), (.istore_n 2, mI 0), (.iconst 0, mI (nI 0)), (.istore_n 3, mI 0)]
theorem kX2_longest_17 : mchk MX2_longest 17 bX2_longest_17 23 = true := by decide +kernel
def bX2_longest_23 : List mB := [(.iload_n 3, mI 0), (.iconst 4, mI (nI 4))]
theorem kX2_longest_23 : mchk MX2_longest 23 bX2_longest_23 25 = true := by decide +kernel
theorem tX2_longest_25 : mbk MX2_longest 25 (.if_icmp .ge 62) 87 = true := by decide +kernel
def bX2_longest_28 : List mB := [(.aload_n 0, mI 0), (.getfield 16, mR 2 1), (.aload_n 0, mI 0), (.getfield 10, mR 2 0)]
theorem kX2_longest_28 : mchk MX2_longest 28 bX2_longest_28 36 = true := by decide +kernel
theorem tX2_longest_36 : mdk MX2_longest 36 (.invokevirtual 107) = true := by decide +kernel
def bX2_longest_39 : List mB := [(.aload_n 0, mI 0), (.getfield 16, mR 2 1), (.iload_n 3, mI 0)]
theorem kX2_longest_39 : mchk MX2_longest 39 bX2_longest_39 44 = true := by decide +kernel
theorem tX2_longest_44 : mdk MX2_longest 44 (.invokevirtual 89) = true := by decide +kernel
def bX2_longest_47 : List mB := [(.pop, mI 0), (.aload_n 0, mI 0)]
theorem kX2_longest_47 : mchk MX2_longest 47 bX2_longest_47 49 = true := by decide +kernel
theorem tX2_longest_49 : mdk MX2_longest 49 (.invokevirtual 117) = true := by decide +kernel
def bX2_longest_52 : List mB := [(.istore 4, mI 0), (.iload 4, mI 0), (.bipush (-9), mI (-9))]
theorem kX2_longest_52 : mchk MX2_longest 52 bX2_longest_52 58 = true := by decide +kernel
theorem tX2_longest_58 : mbk MX2_longest 58 (.if_icmp .ne 8) 66 = true := by decide +kernel
def bX2_longest_61 : List mB := [(.bipush 61, mI (nI 61))]
theorem kX2_longest_61 : mchk MX2_longest 61 bX2_longest_61 63 = true := by decide +kernel
theorem tX2_longest_63 : mbk MX2_longest 63 (.goto 5) 68 = true := by decide +kernel
def bX2_longest_66 : List mB := [(.iload 4, mI 0)]
theorem kX2_longest_66 : mchk MX2_longest 66 bX2_longest_66 68 = true := by decide +kernel
def bX2_longest_68 : List mB := [(.istore 5, mI 0), (.iload 5, mI 0), (.iload_n 2, mI 0)]
theorem kX2_longest_68 : mchk MX2_longest 68 bX2_longest_68 73 = true := by decide +kernel
theorem tX2_longest_73 : mbk MX2_longest 73 (.if_icmp .le 8) 81 = true := by decide +kernel
def bX2_longest_76 : List mB := [(.iload 5, mI 0), (.istore_n 2, mI 0), (.iload_n 3, mI 0), (.istore_n 1, mI 0)]
theorem kX2_longest_76 : mchk MX2_longest 76 bX2_longest_76 81 = true := by decide +kernel
def bX2_longest_81 : List mB := [(.iinc 3 1, mI (nI 1))]
theorem kX2_longest_81 : mchk MX2_longest 81 bX2_longest_81 84 = true := by decide +kernel
theorem tX2_longest_84 : mbk MX2_longest 84 (.goto (-61)) 23 = true := by decide +kernel
def bX2_longest_87 : List mB := [(.iload_n 1, mI 0)]
theorem kX2_longest_87 : mchk MX2_longest 87 bX2_longest_87 88 = true := by decide +kernel
theorem tX2_longest_88 : mrk MX2_longest 88 .ireturn = true := by decide +kernel
def bX2_owes_0 : List mB := [(.aload_n 0, mI 0), (.getfield 10, mR 2 0), (.iload_n 1, mI 0)]
theorem kX2_owes_0 : mchk MX2_owes 0 bX2_owes_0 5 = true := by decide +kernel
theorem tX2_owes_5 : mdk MX2_owes 5 (.invokevirtual 57) = true := by decide +kernel
theorem tX2_owes_8 : mbk MX2_owes 8 (.ifCond .eq 14) 22 = true := by decide +kernel
def bX2_owes_11 : List mB := [(.aload_n 0, mI 0), (.getfield 10, mR 2 0), (.iload_n 2, mI 0)]
theorem kX2_owes_11 : mchk MX2_owes 11 bX2_owes_11 16 = true := by decide +kernel
theorem tX2_owes_16 : mdk MX2_owes 16 (.invokevirtual 57) = true := by decide +kernel
theorem tX2_owes_19 : mbk MX2_owes 19 (.ifCond .ne 9) 28 = true := by decide +kernel
def bX2_owes_22 : List mB := [(.aload_n 0, mI 0), (.iconst (-1), mI (-1))]
theorem kX2_owes_22 : mchk MX2_owes 22 bX2_owes_22 24 = true := by decide +kernel
theorem tX2_owes_24 : mdk MX2_owes 24 (.invokevirtual 39) = true := by decide +kernel
theorem tX2_owes_27 : mrk MX2_owes 27 .ireturn = true := by decide +kernel
def bX2_owes_28 : List mB := [(.aload_n 0, mI 0), (.getfield 10, mR 2 0), (.iload_n 2, mI 0), (.iload_n 1, mI 0)]
theorem kX2_owes_28 : mchk MX2_owes 28 bX2_owes_28 34 = true := by decide +kernel
theorem tX2_owes_34 : mdk MX2_owes 34 (.invokevirtual 160) = true := by decide +kernel
theorem tX2_owes_37 : mrk MX2_owes 37 .ireturn = true := by decide +kernel
def bX2_debt_0 : List mB := [(.aload_n 0, mI 0), (.getfield 10, mR 2 0), (.iload_n 1, mI 0)]
theorem kX2_debt_0 : mchk MX2_debt 0 bX2_debt_0 5 = true := by decide +kernel
theorem tX2_debt_5 : mdk MX2_debt 5 (.invokevirtual 57) = true := by decide +kernel
theorem tX2_debt_8 : mbk MX2_debt 8 (.ifCond .ne 12) 20 = true := by decide +kernel
def bX2_debt_11 : List mB := [(.ldc 143, mI (nI 1000000000)), (.aload_n 0, mI 0), (.iconst (-1), mI (-1))]
theorem kX2_debt_11 : mchk MX2_debt 11 bX2_debt_11 15 = true := by decide +kernel
theorem tX2_debt_15 : mdk MX2_debt 15 (.invokevirtual 39) = true := by decide +kernel
def bX2_debt_18 : List mB := [(.isub, mI 0)]
theorem kX2_debt_18 : mchk MX2_debt 18 bX2_debt_18 19 = true := by decide +kernel
theorem tX2_debt_19 : mrk MX2_debt 19 .ireturn = true := by decide +kernel
def bX2_debt_20 : List mB := [(.iconst 0, mI (nI 0)), (.istore_n 2, mI 0), (.iconst 0, mI (nI 0)), (.istore_n 3, mI 0)]
theorem kX2_debt_20 : mchk MX2_debt 20 bX2_debt_20 24 = true := by decide +kernel
def bX2_debt_24 : List mB := [(.iload_n 3, mI 0), (.bipush 8, mI (nI 8))]
theorem kX2_debt_24 : mchk MX2_debt 24 bX2_debt_24 27 = true := by decide +kernel
theorem tX2_debt_27 : mbk MX2_debt 27 (.if_icmp .ge 31) 58 = true := by decide +kernel
def bX2_debt_30 : List mB := [(.iload_n 2, mI 0), (.aload_n 0, mI 0), (.getfield 10, mR 2 0), (.iload_n 1, mI 0), (.iload_n 3, mI 0)]
theorem kX2_debt_30 : mchk MX2_debt 30 bX2_debt_30 37 = true := by decide +kernel
theorem tX2_debt_37 : mdk MX2_debt 37 (.invokevirtual 160) = true := by decide +kernel
def bX2_debt_40 : List mB := [(.aload_n 0, mI 0), (.getfield 10, mR 2 0), (.iload_n 3, mI 0), (.iload_n 1, mI 0)]
theorem kX2_debt_40 : mchk MX2_debt 40 bX2_debt_40 46 = true := by decide +kernel
theorem tX2_debt_46 : mdk MX2_debt 46 (.invokevirtual 160) = true := by decide +kernel
def bX2_debt_49 : List mB := [(.isub, mI 0), (.iadd, mI 0), (.istore_n 2, mI 0), (.iinc 3 1, mI (nI 1))]
theorem kX2_debt_49 : mchk MX2_debt 49 bX2_debt_49 55 = true := by decide +kernel
theorem tX2_debt_55 : mbk MX2_debt 55 (.goto (-31)) 24 = true := by decide +kernel
def bX2_debt_58 : List mB := [(.iload_n 2, mI 0)]
theorem kX2_debt_58 : mchk MX2_debt 58 bX2_debt_58 59 = true := by decide +kernel
theorem tX2_debt_59 : mrk MX2_debt 59 .ireturn = true := by decide +kernel
def bX2_why_0 : List mB := [(.aload_n 0, mI 0), (.getfield 10, mR 2 0), (.iload_n 1, mI 0)]
theorem kX2_why_0 : mchk MX2_why 0 bX2_why_0 5 = true := by decide +kernel
theorem tX2_why_5 : mdk MX2_why 5 (.invokevirtual 57) = true := by decide +kernel
theorem tX2_why_8 : mbk MX2_why 8 (.ifCond .ne 7) 15 = true := by decide +kernel
def bX2_why_11 : List mB := [(.iconst (-1), mI (-1))]
theorem kX2_why_11 : mchk MX2_why 11 bX2_why_11 12 = true := by decide +kernel
theorem tX2_why_12 : mbk MX2_why 12 (.goto 26) 38 = true := by decide +kernel
def bX2_why_15 : List mB := [(.aload_n 0, mI 0), (.getfield 10, mR 2 0), (.iload_n 1, mI 0)]
theorem kX2_why_15 : mchk MX2_why 15 bX2_why_15 20 = true := by decide +kernel
theorem tX2_why_20 : mdk MX2_why 20 (.invokevirtual 70) = true := by decide +kernel
theorem tX2_why_23 : mbk MX2_why 23 (.ifCond .ne 8) 31 = true := by decide +kernel
def bX2_why_26 : List mB := [(.bipush (-3), mI (-3))]
theorem kX2_why_26 : mchk MX2_why 26 bX2_why_26 28 = true := by decide +kernel
theorem tX2_why_28 : mbk MX2_why 28 (.goto 10) 38 = true := by decide +kernel
def bX2_why_31 : List mB := [(.iload_n 2, mI 0), (.iconst 1, mI (nI 1)), (.bipush 60, mI (nI 60))]
theorem kX2_why_31 : mchk MX2_why 31 bX2_why_31 35 = true := by decide +kernel
theorem tX2_why_35 : mdk MX2_why 35 (.invokestatic 96) = true := by decide +kernel
def bX2_why_38 : List mB := [(.istore_n 3, mI 0), (.iload_n 3, mI 0)]
theorem kX2_why_38 : mchk MX2_why 38 bX2_why_38 40 = true := by decide +kernel
theorem tX2_why_40 : mbk MX2_why 40 (.ifCond .eq 9) 49 = true := by decide +kernel
def bX2_why_43 : List mB := [(.aload_n 0, mI 0), (.iload_n 3, mI 0)]
theorem kX2_why_43 : mchk MX2_why 43 bX2_why_43 45 = true := by decide +kernel
theorem tX2_why_45 : mdk MX2_why 45 (.invokevirtual 39) = true := by decide +kernel
theorem tX2_why_48 : mrk MX2_why 48 .ireturn = true := by decide +kernel
def bX2_why_49 : List mB := [(.aload_n 0, mI 0), (.getfield 16, mR 2 1), (.aload_n 0, mI 0), (.getfield 10, mR 2 0)]
theorem kX2_why_49 : mchk MX2_why 49 bX2_why_49 57 = true := by decide +kernel
theorem tX2_why_57 : mdk MX2_why 57 (.invokevirtual 107) = true := by decide +kernel
def bX2_why_60 : List mB := [(.iconst 1, mI (nI 1)), (.istore 4, mI 0), (.iconst 1, mI (nI 1)), (.istore 5, mI 0)]
theorem kX2_why_60 : mchk MX2_why 60 bX2_why_60 66 = true := by decide +kernel
def bX2_why_66 : List mB := [(.iload 5, mI 0), (.iload_n 2, mI 0)]
theorem kX2_why_66 : mchk MX2_why 66 bX2_why_66 69 = true := by decide +kernel
theorem tX2_why_69 : mbk MX2_why 69 (.if_icmp .gt 60) 129 = true := by decide +kernel
def bX2_why_72 : List mB := [(.aload_n 0, mI 0), (.getfield 16, mR 2 1)]
theorem kX2_why_72 : mchk MX2_why 72 bX2_why_72 76 = true := by decide +kernel
theorem tX2_why_76 : mdk MX2_why 76 (.invokevirtual 134) = true := by decide +kernel
def bX2_why_79 : List mB := [(.aload_n 0, mI 0), (.getfield 16, mR 2 1), (.iload_n 1, mI 0)]
theorem kX2_why_79 : mchk MX2_why 79 bX2_why_79 84 = true := by decide +kernel
theorem tX2_why_84 : mdk MX2_why 84 (.invokevirtual 70) = true := by decide +kernel
theorem tX2_why_87 : mbk MX2_why 87 (.ifCond .ne 5) 92 = true := by decide +kernel
def bX2_why_90 : List mB := [(.iconst 0, mI (nI 0))]
theorem kX2_why_90 : mchk MX2_why 90 bX2_why_90 91 = true := by decide +kernel
theorem tX2_why_91 : mrk MX2_why 91 .ireturn = true := by decide +kernel
def bX2_why_92 : List mB := [(.iload 4, mI 0)]
theorem kX2_why_92 : mchk MX2_why 92 bX2_why_92 94 = true := by decide +kernel
theorem tX2_why_94 : mbk MX2_why 94 (.ifCond .eq 26) 120 = true := by decide +kernel
def bX2_why_97 : List mB := [(.aload_n 0, mI 0), (.getfield 16, mR 2 1), (.aload_n 0, mI 0), (.getfield 16, mR 2 1), (.iload_n 1, mI 0)]
theorem kX2_why_97 : mchk MX2_why 97 bX2_why_97 106 = true := by decide +kernel
theorem tX2_why_106 : mdk MX2_why 106 (.invokevirtual 64) = true := by decide +kernel
theorem tX2_why_109 : mdk MX2_why 109 (.invokevirtual 163) = true := by decide +kernel
def bX2_why_112 : List mB := [(.iconst 1, mI (nI 1))]
theorem kX2_why_112 : mchk MX2_why 112 bX2_why_112 113 = true := by decide +kernel
theorem tX2_why_113 : mbk MX2_why 113 (.if_icmp .gt 7) 120 = true := by decide +kernel
def bX2_why_116 : List mB := [(.iconst 1, mI (nI 1))]
theorem kX2_why_116 : mchk MX2_why 116 bX2_why_116 117 = true := by decide +kernel
theorem tX2_why_117 : mbk MX2_why 117 (.goto 4) 121 = true := by decide +kernel
def bX2_why_120 : List mB := [(.iconst 0, mI (nI 0))]
theorem kX2_why_120 : mchk MX2_why 120 bX2_why_120 121 = true := by decide +kernel
def bX2_why_121 : List mB := [(.istore 4, mI 0), (.iinc 5 1, mI (nI 1))]
theorem kX2_why_121 : mchk MX2_why 121 bX2_why_121 126 = true := by decide +kernel
theorem tX2_why_126 : mbk MX2_why 126 (.goto (-60)) 66 = true := by decide +kernel
def bX2_why_129 : List mB := [(.aload_n 0, mI 0), (.getfield 10, mR 2 0), (.iload_n 1, mI 0)]
theorem kX2_why_129 : mchk MX2_why 129 bX2_why_129 134 = true := by decide +kernel
theorem tX2_why_134 : mdk MX2_why 134 (.invokevirtual 166) = true := by decide +kernel
theorem tX2_why_137 : mbk MX2_why 137 (.ifCond .ne 5) 142 = true := by decide +kernel
def bX2_why_140 : List mB := [(.iconst 1, mI (nI 1))]
theorem kX2_why_140 : mchk MX2_why 140 bX2_why_140 141 = true := by decide +kernel
theorem tX2_why_141 : mrk MX2_why 141 .ireturn = true := by decide +kernel
def bX2_why_142 : List mB := [(.iload 4, mI 0)]
theorem kX2_why_142 : mchk MX2_why 142 bX2_why_142 144 = true := by decide +kernel
theorem tX2_why_144 : mbk MX2_why 144 (.ifCond .eq 7) 151 = true := by decide +kernel
def bX2_why_147 : List mB := [(.iconst 2, mI (nI 2))]
theorem kX2_why_147 : mchk MX2_why 147 bX2_why_147 148 = true := by decide +kernel
theorem tX2_why_148 : mbk MX2_why 148 (.goto 4) 152 = true := by decide +kernel
def bX2_why_151 : List mB := [(.iconst 3, mI (nI 3))]
theorem kX2_why_151 : mchk MX2_why 151 bX2_why_151 152 = true := by decide +kernel
theorem tX2_why_152 : mrk MX2_why 152 .ireturn = true := by decide +kernel
def bX2_row_0 : List mB := [(.iload_n 1, mI 0), (.iconst 0, mI (nI 0)), (.bipush 8, mI (nI 8))]
theorem kX2_row_0 : mchk MX2_row 0 bX2_row_0 4 = true := by decide +kernel
theorem tX2_row_4 : mdk MX2_row 4 (.invokestatic 96) = true := by decide +kernel
def bX2_row_7 : List mB := [(.istore_n 2, mI 0), (.iload_n 2, mI 0)]
theorem kX2_row_7 : mchk MX2_row 7 bX2_row_7 9 = true := by decide +kernel
theorem tX2_row_9 : mbk MX2_row 9 (.ifCond .ne 18) 27 = true := by decide +kernel
def bX2_row_12 : List mB := [(.aload_n 0, mI 0), (.getfield 169, mR 2 7), (.aload_n 0, mI 0), (.getfield 32, mR 2 6), (.arraylength, mI 0)]
theorem kX2_row_12 : mchk MX2_row 12 bX2_row_12 21 = true := by decide +kernel
theorem tX2_row_21 : mbk MX2_row 21 (.if_icmp .lt 6) 27 = true := by decide +kernel
def bX2_row_24 : List mB := [(.bipush (-6), mI (-6)), (.istore_n 2, mI 0)]
theorem kX2_row_24 : mchk MX2_row 24 bX2_row_24 27 = true := by decide +kernel
def bX2_row_27 : List mB := [(.iload_n 2, mI 0)]
theorem kX2_row_27 : mchk MX2_row 27 bX2_row_27 28 = true := by decide +kernel
theorem tX2_row_28 : mbk MX2_row 28 (.ifCond .eq 9) 37 = true := by decide +kernel
def bX2_row_31 : List mB := [(.aload_n 0, mI 0), (.iload_n 2, mI 0)]
theorem kX2_row_31 : mchk MX2_row 31 bX2_row_31 33 = true := by decide +kernel
theorem tX2_row_33 : mdk MX2_row 33 (.invokevirtual 39) = true := by decide +kernel
theorem tX2_row_36 : mrk MX2_row 36 .ireturn = true := by decide +kernel
def bX2_row_37 : List mB := [(.aload_n 0, mI 0), (.getfield 32, mR 2 6), (.aload_n 0, mI 0), (.getfield 169, mR 2 7), (.iload_n 1, mI 0), (.iastore, mI 0), (.aload_n 0, mI 0), (.dup, mI 0), (.getfield 169, mR 2 7), (.iconst 1, mI (nI 1)), (.iadd, mI 0), (.putfield 169, mR 2 7), (.aload_n 0, mI 0), (.getfield 169, mR 2 7)]
theorem kX2_row_37 : mchk MX2_row 37 bX2_row_37 61 = true := by decide +kernel
theorem tX2_row_61 : mrk MX2_row 61 .ireturn = true := by decide +kernel
def bX2_fits_0 : List mB := [(.aload_n 0, mI 0), (.getfield 10, mR 2 0), (.iload_n 1, mI 0)]
theorem kX2_fits_0 : mchk MX2_fits 0 bX2_fits_0 5 = true := by decide +kernel
theorem tX2_fits_5 : mdk MX2_fits 5 (.invokevirtual 57) = true := by decide +kernel
theorem tX2_fits_8 : mbk MX2_fits 8 (.ifCond .ne 9) 17 = true := by decide +kernel
def bX2_fits_11 : List mB := [(.aload_n 0, mI 0), (.iconst (-1), mI (-1))]
theorem kX2_fits_11 : mchk MX2_fits 11 bX2_fits_11 13 = true := by decide +kernel
theorem tX2_fits_13 : mdk MX2_fits 13 (.invokevirtual 39) = true := by decide +kernel
theorem tX2_fits_16 : mrk MX2_fits 16 .ireturn = true := by decide +kernel
def bX2_fits_17 : List mB := [(.iconst 0, mI (nI 0)), (.istore_n 2, mI 0), (.iconst 0, mI (nI 0)), (.istore_n 3, mI 0)]
theorem kX2_fits_17 : mchk MX2_fits 17 bX2_fits_17 21 = true := by decide +kernel
def bX2_fits_21 : List mB := [(.iload_n 3, mI 0), (.bipush 24, mI (nI 24))]
theorem kX2_fits_21 : mchk MX2_fits 21 bX2_fits_21 24 = true := by decide +kernel
theorem tX2_fits_24 : mbk MX2_fits 24 (.if_icmp .ge 45) 69 = true := by decide +kernel
def bX2_fits_27 : List mB := [(.aload_n 0, mI 0), (.getfield 16, mR 2 1), (.aload_n 0, mI 0), (.getfield 10, mR 2 0)]
theorem kX2_fits_27 : mchk MX2_fits 27 bX2_fits_27 35 = true := by decide +kernel
theorem tX2_fits_35 : mdk MX2_fits 35 (.invokevirtual 107) = true := by decide +kernel
def bX2_fits_38 : List mB := [(.aload_n 0, mI 0), (.getfield 16, mR 2 1), (.iload_n 1, mI 0), (.iload_n 3, mI 0)]
theorem kX2_fits_38 : mchk MX2_fits 38 bX2_fits_38 44 = true := by decide +kernel
theorem tX2_fits_44 : mdk MX2_fits 44 (.invokevirtual 79) = true := by decide +kernel
def bX2_fits_47 : List mB := [(.pop, mI 0), (.aload_n 0, mI 0)]
theorem kX2_fits_47 : mchk MX2_fits 47 bX2_fits_47 49 = true := by decide +kernel
theorem tX2_fits_49 : mdk MX2_fits 49 (.invokevirtual 173) = true := by decide +kernel
def bX2_fits_52 : List mB := [(.bipush (-9), mI (-9))]
theorem kX2_fits_52 : mchk MX2_fits 52 bX2_fits_52 54 = true := by decide +kernel
theorem tX2_fits_54 : mbk MX2_fits 54 (.if_icmp .ne 9) 63 = true := by decide +kernel
def bX2_fits_57 : List mB := [(.iload_n 2, mI 0), (.iconst 1, mI (nI 1)), (.iload_n 3, mI 0), (.ishl, mI 0), (.ior, mI 0), (.istore_n 2, mI 0)]
theorem kX2_fits_57 : mchk MX2_fits 57 bX2_fits_57 63 = true := by decide +kernel
def bX2_fits_63 : List mB := [(.iinc 3 1, mI (nI 1))]
theorem kX2_fits_63 : mchk MX2_fits 63 bX2_fits_63 66 = true := by decide +kernel
theorem tX2_fits_66 : mbk MX2_fits 66 (.goto (-45)) 21 = true := by decide +kernel
def bX2_fits_69 : List mB := [(.iload_n 2, mI 0)]
theorem kX2_fits_69 : mchk MX2_fits 69 bX2_fits_69 70 = true := by decide +kernel
theorem tX2_fits_70 : mrk MX2_fits 70 .ireturn = true := by decide +kernel
def bX2_judge_0 : List mB := [(.aload_n 0, mI 0), (.getfield 16, mR 2 1), (.aload_n 0, mI 0), (.getfield 10, mR 2 0)]
theorem kX2_judge_0 : mchk MX2_judge 0 bX2_judge_0 8 = true := by decide +kernel
theorem tX2_judge_8 : mdk MX2_judge 8 (.invokevirtual 107) = true := by decide +kernel
def bX2_judge_11 : List mB := [(.aload_n 0, mI 0)]
theorem kX2_judge_11 : mchk MX2_judge 11 bX2_judge_11 12 = true := by decide +kernel
theorem tX2_judge_12 : mdk MX2_judge 12 (.invokevirtual 173) = true := by decide +kernel
def bX2_judge_15 : List mB := [(.istore_n 1, mI 0), (.aload_n 0, mI 0), (.iconst 0, mI (nI 0)), (.putfield 169, mR 2 7), (.iload_n 1, mI 0)]
theorem kX2_judge_15 : mchk MX2_judge 15 bX2_judge_15 22 = true := by decide +kernel
theorem tX2_judge_22 : mrk MX2_judge 22 .ireturn = true := by decide +kernel
def bX2_lots_0 : List mB := [(.iload_n 1, mI 0), (.iconst 1, mI (nI 1)), (.bipush 20, mI (nI 20))]
theorem kX2_lots_0 : mchk MX2_lots 0 bX2_lots_0 4 = true := by decide +kernel
theorem tX2_lots_4 : mdk MX2_lots 4 (.invokestatic 96) = true := by decide +kernel
def bX2_lots_7 : List mB := [(.istore_n 3, mI 0), (.iload_n 3, mI 0)]
theorem kX2_lots_7 : mchk MX2_lots 7 bX2_lots_7 9 = true := by decide +kernel
theorem tX2_lots_9 : mbk MX2_lots 9 (.ifCond .eq 9) 18 = true := by decide +kernel
def bX2_lots_12 : List mB := [(.aload_n 0, mI 0), (.iload_n 3, mI 0)]
theorem kX2_lots_12 : mchk MX2_lots 12 bX2_lots_12 14 = true := by decide +kernel
theorem tX2_lots_14 : mdk MX2_lots 14 (.invokevirtual 39) = true := by decide +kernel
theorem tX2_lots_17 : mrk MX2_lots 17 .ireturn = true := by decide +kernel
def bX2_lots_18 : List mB := [(.iconst 0, mI (nI 0)), (.istore 4, mI 0), (.iload_n 2, mI 0), (.istore 5, mI 0), (.iload_n 1, mI 0), (.istore 6, mI 0)]
theorem kX2_lots_18 : mchk MX2_lots 18 bX2_lots_18 27 = true := by decide +kernel
def bX2_lots_27 : List mB := [(.iload 6, mI 0)]
theorem kX2_lots_27 : mchk MX2_lots 27 bX2_lots_27 29 = true := by decide +kernel
theorem tX2_lots_29 : mbk MX2_lots 29 (.ifCond .le 52) 81 = true := by decide +kernel
def bX2_lots_32 : List mB := [(.aload_n 0, mI 0), (.getfield 16, mR 2 1), (.aload_n 0, mI 0), (.getfield 10, mR 2 0)]
theorem kX2_lots_32 : mchk MX2_lots 32 bX2_lots_32 40 = true := by decide +kernel
theorem tX2_lots_40 : mdk MX2_lots 40 (.invokevirtual 107) = true := by decide +kernel
def bX2_lots_43 : List mB := [(.aload_n 0, mI 0), (.getfield 16, mR 2 1), (.iload 5, mI 0)]
theorem kX2_lots_43 : mchk MX2_lots 43 bX2_lots_43 49 = true := by decide +kernel
theorem tX2_lots_49 : mdk MX2_lots 49 (.invokevirtual 176) = true := by decide +kernel
def bX2_lots_52 : List mB := [(.istore 5, mI 0), (.aload_n 0, mI 0), (.getfield 16, mR 2 1), (.bipush 30, mI (nI 30))]
theorem kX2_lots_52 : mchk MX2_lots 52 bX2_lots_52 60 = true := by decide +kernel
theorem tX2_lots_60 : mdk MX2_lots 60 (.invokevirtual 103) = true := by decide +kernel
def bX2_lots_63 : List mB := [(.iload 4, mI 0), (.aload_n 0, mI 0), (.getfield 16, mR 2 1)]
theorem kX2_lots_63 : mchk MX2_lots 63 bX2_lots_63 69 = true := by decide +kernel
theorem tX2_lots_69 : mdk MX2_lots 69 (.invokevirtual 122) = true := by decide +kernel
def bX2_lots_72 : List mB := [(.iadd, mI 0), (.istore 4, mI 0), (.iinc 6 (-1), mI (-1))]
theorem kX2_lots_72 : mchk MX2_lots 72 bX2_lots_72 78 = true := by decide +kernel
theorem tX2_lots_78 : mbk MX2_lots 78 (.goto (-51)) 27 = true := by decide +kernel
def bX2_lots_81 : List mB := [(.iload 4, mI 0)]
theorem kX2_lots_81 : mchk MX2_lots 81 bX2_lots_81 83 = true := by decide +kernel
theorem tX2_lots_83 : mrk MX2_lots 83 .ireturn = true := by decide +kernel
def bX2_image_0 : List mB := [(.aload_n 0, mI 0), (.getfield 22, mR 2 3), (.aload_n 0, mI 0), (.getfield 10, mR 2 0)]
theorem kX2_image_0 : mchk MX2_image 0 bX2_image_0 8 = true := by decide +kernel
theorem tX2_image_8 : mdk MX2_image 8 (.invokevirtual 107) = true := by decide +kernel
def bX2_image_11 : List mB := [(.aload_n 0, mI 0), (.iconst 1, mI (nI 1)), (.putfield 179, mR 2 4), (.aload_n 0, mI 0), (.getfield 10, mR 2 0)]
theorem kX2_image_11 : mchk MX2_image 11 bX2_image_11 20 = true := by decide +kernel
theorem tX2_image_20 : mdk MX2_image 20 (.invokevirtual 100) = true := by decide +kernel
theorem tX2_image_23 : mrk MX2_image 23 .ireturn = true := by decide +kernel
def bX2_on_0 : List mB := [(.aload_n 0, mI 0), (.getfield 179, mR 2 4)]
theorem kX2_on_0 : mchk MX2_on 0 bX2_on_0 4 = true := by decide +kernel
theorem tX2_on_4 : mbk MX2_on 4 (.ifCond .ne 10) 14 = true := by decide +kernel
def bX2_on_7 : List mB := [(.aload_n 0, mI 0), (.bipush (-3), mI (-3))]
theorem kX2_on_7 : mchk MX2_on 7 bX2_on_7 10 = true := by decide +kernel
theorem tX2_on_10 : mdk MX2_on 10 (.invokevirtual 39) = true := by decide +kernel
theorem tX2_on_13 : mrk MX2_on 13 .ireturn = true := by decide +kernel
def bX2_on_14 : List mB := [(.aload_n 0, mI 0), (.getfield 10, mR 2 0), (.aload_n 0, mI 0), (.getfield 22, mR 2 3)]
theorem kX2_on_14 : mchk MX2_on 14 bX2_on_14 22 = true := by decide +kernel
theorem tX2_on_22 : mdk MX2_on 22 (.invokevirtual 107) = true := by decide +kernel
def bX2_on_25 : List mB := [(.aload_n 0, mI 0), (.getfield 10, mR 2 0)]
theorem kX2_on_25 : mchk MX2_on 25 bX2_on_25 29 = true := by decide +kernel
theorem tX2_on_29 : mdk MX2_on 29 (.invokevirtual 100) = true := by decide +kernel
theorem tX2_on_32 : mrk MX2_on 32 .ireturn = true := by decide +kernel
def bX2_count_0 : List mB := [(.iload_n 1, mI 0), (.bipush 10, mI (nI 10))]
theorem kX2_count_0 : mchk MX2_count 0 bX2_count_0 3 = true := by decide +kernel
theorem tX2_count_3 : mbk MX2_count 3 (.if_icmp .le 19) 22 = true := by decide +kernel
def bX2_count_6 : List mB := [(.iload_n 1, mI 0), (.bipush 16, mI (nI 16))]
theorem kX2_count_6 : mchk MX2_count 6 bX2_count_6 9 = true := by decide +kernel
theorem tX2_count_9 : mbk MX2_count 9 (.if_icmp .gt 13) 22 = true := by decide +kernel
def bX2_count_12 : List mB := [(.aload_n 0, mI 0), (.getfield 36, mR 2 8), (.iload_n 1, mI 0), (.bipush 10, mI (nI 10)), (.isub, mI 0), (.iaload, mI 0)]
theorem kX2_count_12 : mchk MX2_count 12 bX2_count_12 21 = true := by decide +kernel
theorem tX2_count_21 : mrk MX2_count 21 .ireturn = true := by decide +kernel
def bX2_count_22 : List mB := [(.iload_n 1, mI 0)]
theorem kX2_count_22 : mchk MX2_count 22 bX2_count_22 23 = true := by decide +kernel
def sX2_count_23 : Instr := .tableswitch 118 0 8 #[49, 57, 65, 73, 81, 89, 97, 105, 110]
theorem tX2_count_23 : mswk MX2_count 23 sX2_count_23 49 = true := by decide +kernel
def bX2_count_72 : List mB := [(.aload_n 0, mI 0), (.getfield 10, mR 2 0)]
theorem kX2_count_72 : mchk MX2_count 72 bX2_count_72 76 = true := by decide +kernel
theorem tX2_count_76 : mdk MX2_count 76 (.invokevirtual 183) = true := by decide +kernel
theorem tX2_count_79 : mrk MX2_count 79 .ireturn = true := by decide +kernel
def bX2_count_80 : List mB := [(.aload_n 0, mI 0), (.getfield 10, mR 2 0)]
theorem kX2_count_80 : mchk MX2_count 80 bX2_count_80 84 = true := by decide +kernel
theorem tX2_count_84 : mdk MX2_count 84 (.invokevirtual 186) = true := by decide +kernel
theorem tX2_count_87 : mrk MX2_count 87 .ireturn = true := by decide +kernel
def bX2_count_88 : List mB := [(.aload_n 0, mI 0), (.getfield 10, mR 2 0)]
theorem kX2_count_88 : mchk MX2_count 88 bX2_count_88 92 = true := by decide +kernel
theorem tX2_count_92 : mdk MX2_count 92 (.invokevirtual 122) = true := by decide +kernel
theorem tX2_count_95 : mrk MX2_count 95 .ireturn = true := by decide +kernel
def bX2_count_96 : List mB := [(.aload_n 0, mI 0), (.getfield 10, mR 2 0)]
theorem kX2_count_96 : mchk MX2_count 96 bX2_count_96 100 = true := by decide +kernel
theorem tX2_count_100 : mdk MX2_count 100 (.invokevirtual 100) = true := by decide +kernel
theorem tX2_count_103 : mrk MX2_count 103 .ireturn = true := by decide +kernel
def bX2_count_104 : List mB := [(.aload_n 0, mI 0), (.getfield 10, mR 2 0)]
theorem kX2_count_104 : mchk MX2_count 104 bX2_count_104 108 = true := by decide +kernel
theorem tX2_count_108 : mdk MX2_count 108 (.invokevirtual 86) = true := by decide +kernel
theorem tX2_count_111 : mrk MX2_count 111 .ireturn = true := by decide +kernel
def bX2_count_112 : List mB := [(.aload_n 0, mI 0), (.getfield 10, mR 2 0)]
theorem kX2_count_112 : mchk MX2_count 112 bX2_count_112 116 = true := by decide +kernel
theorem tX2_count_116 : mdk MX2_count 116 (.invokevirtual 189) = true := by decide +kernel
theorem tX2_count_119 : mrk MX2_count 119 .ireturn = true := by decide +kernel
def bX2_count_120 : List mB := [(.aload_n 0, mI 0), (.getfield 10, mR 2 0)]
theorem kX2_count_120 : mchk MX2_count 120 bX2_count_120 124 = true := by decide +kernel
theorem tX2_count_124 : mdk MX2_count 124 (.invokevirtual 192) = true := by decide +kernel
theorem tX2_count_127 : mrk MX2_count 127 .ireturn = true := by decide +kernel
def bX2_count_128 : List mB := [(.aload_n 0, mI 0), (.getfield 169, mR 2 7)]
theorem kX2_count_128 : mchk MX2_count 128 bX2_count_128 132 = true := by decide +kernel
theorem tX2_count_132 : mrk MX2_count 132 .ireturn = true := by decide +kernel
def bX2_count_133 : List mB := [(.aload_n 0, mI 0), (.getfield 28, mR 2 5)]
theorem kX2_count_133 : mchk MX2_count 133 bX2_count_133 137 = true := by decide +kernel
theorem tX2_count_137 : mdk MX2_count 137 (.invokevirtual 195) = true := by decide +kernel
theorem tX2_count_140 : mrk MX2_count 140 .ireturn = true := by decide +kernel
def bX2_count_141 : List mB := [(.bipush (-9), mI (-9))]
theorem kX2_count_141 : mchk MX2_count 141 bX2_count_141 143 = true := by decide +kernel
theorem tX2_count_143 : mrk MX2_count 143 .ireturn = true := by decide +kernel
def bX2_refuse_0 : List mB := [(.iload_n 1, mI 0), (.ineg, mI 0), (.istore_n 2, mI 0), (.iload_n 2, mI 0)]
theorem kX2_refuse_0 : mchk MX2_refuse 0 bX2_refuse_0 4 = true := by decide +kernel
theorem tX2_refuse_4 : mbk MX2_refuse 4 (.ifCond .le 22) 26 = true := by decide +kernel
def bX2_refuse_7 : List mB := [(.iload_n 2, mI 0), (.aload_n 0, mI 0), (.getfield 36, mR 2 8), (.arraylength, mI 0)]
theorem kX2_refuse_7 : mchk MX2_refuse 7 bX2_refuse_7 13 = true := by decide +kernel
theorem tX2_refuse_13 : mbk MX2_refuse 13 (.if_icmp .ge 13) 26 = true := by decide +kernel
def bX2_refuse_16 : List mB := [(.aload_n 0, mI 0), (.getfield 36, mR 2 8), (.iload_n 2, mI 0), (.dup2, mI 0), (.iaload, mI 0), (.iconst 1, mI (nI 1)), (.iadd, mI 0), (.iastore, mI 0)]
theorem kX2_refuse_16 : mchk MX2_refuse 16 bX2_refuse_16 26 = true := by decide +kernel
def bX2_refuse_26 : List mB := [(.iload_n 1, mI 0)]
theorem kX2_refuse_26 : mchk MX2_refuse 26 bX2_refuse_26 27 = true := by decide +kernel
theorem tX2_refuse_27 : mrk MX2_refuse 27 .ireturn = true := by decide +kernel
def bX2_outside_0 : List mB := [(.iload_n 0, mI 0), (.iload_n 1, mI 0)]
theorem kX2_outside_0 : mchk MX2_outside 0 bX2_outside_0 2 = true := by decide +kernel
theorem tX2_outside_2 : mbk MX2_outside 2 (.if_icmp .ge 6) 8 = true := by decide +kernel
def bX2_outside_5 : List mB := [(.bipush (-4), mI (-4))]
theorem kX2_outside_5 : mchk MX2_outside 5 bX2_outside_5 7 = true := by decide +kernel
theorem tX2_outside_7 : mrk MX2_outside 7 .ireturn = true := by decide +kernel
def bX2_outside_8 : List mB := [(.iload_n 0, mI 0), (.iload_n 2, mI 0)]
theorem kX2_outside_8 : mchk MX2_outside 8 bX2_outside_8 10 = true := by decide +kernel
theorem tX2_outside_10 : mbk MX2_outside 10 (.if_icmp .le 8) 18 = true := by decide +kernel
def bX2_outside_13 : List mB := [(.bipush (-6), mI (-6))]
theorem kX2_outside_13 : mchk MX2_outside 13 bX2_outside_13 15 = true := by decide +kernel
theorem tX2_outside_15 : mbk MX2_outside 15 (.goto 4) 19 = true := by decide +kernel
def bX2_outside_18 : List mB := [(.iconst 0, mI (nI 0))]
theorem kX2_outside_18 : mchk MX2_outside 18 bX2_outside_18 19 = true := by decide +kernel
theorem tX2_outside_19 : mrk MX2_outside 19 .ireturn = true := by decide +kernel
def bX2_readLetters_0 : List mB := [(.aload_n 0, mI 0), (.getfield 28, mR 2 5)]
theorem kX2_readLetters_0 : mchk MX2_readLetters 0 bX2_readLetters_0 4 = true := by decide +kernel
theorem tX2_readLetters_4 : mdk MX2_readLetters 4 (.invokevirtual 198) = true := by decide +kernel
def bX2_readLetters_7 : List mB := [(.istore_n 1, mI 0), (.iload_n 1, mI 0), (.bipush (-9), mI (-9))]
theorem kX2_readLetters_7 : mchk MX2_readLetters 7 bX2_readLetters_7 11 = true := by decide +kernel
theorem tX2_readLetters_11 : mbk MX2_readLetters 11 (.if_icmp .eq 9) 20 = true := by decide +kernel
def bX2_readLetters_14 : List mB := [(.sipush (-1000), mI (-1000)), (.iload_n 1, mI 0), (.isub, mI 0)]
theorem kX2_readLetters_14 : mchk MX2_readLetters 14 bX2_readLetters_14 19 = true := by decide +kernel
theorem tX2_readLetters_19 : mrk MX2_readLetters 19 .ireturn = true := by decide +kernel
def bX2_readLetters_20 : List mB := [(.aload_n 0, mI 0), (.getfield 16, mR 2 1), (.aload_n 0, mI 0), (.getfield 10, mR 2 0)]
theorem kX2_readLetters_20 : mchk MX2_readLetters 20 bX2_readLetters_20 28 = true := by decide +kernel
theorem tX2_readLetters_28 : mdk MX2_readLetters 28 (.invokevirtual 107) = true := by decide +kernel
def bX2_readLetters_31 : List mB := [(.aload_n 0, mI 0), (.getfield 28, mR 2 5), (.aload_n 0, mI 0), (.getfield 16, mR 2 1)]
theorem kX2_readLetters_31 : mchk MX2_readLetters 31 bX2_readLetters_31 39 = true := by decide +kernel
theorem tX2_readLetters_39 : mdk MX2_readLetters 39 (.invokevirtual 201) = true := by decide +kernel
def bX2_readLetters_42 : List mB := [(.istore_n 2, mI 0), (.iload_n 2, mI 0), (.bipush (-9), mI (-9))]
theorem kX2_readLetters_42 : mchk MX2_readLetters 42 bX2_readLetters_42 46 = true := by decide +kernel
theorem tX2_readLetters_46 : mbk MX2_readLetters 46 (.if_icmp .eq 9) 55 = true := by decide +kernel
def bX2_readLetters_49 : List mB := [(.sipush (-2000), mI (-2000)), (.iload_n 2, mI 0), (.isub, mI 0)]
theorem kX2_readLetters_49 : mchk MX2_readLetters 49 bX2_readLetters_49 54 = true := by decide +kernel
theorem tX2_readLetters_54 : mrk MX2_readLetters 54 .ireturn = true := by decide +kernel
def bX2_readLetters_55 : List mB := [(.aload_n 0, mI 0), (.getfield 10, mR 2 0), (.aload_n 0, mI 0), (.getfield 16, mR 2 1)]
theorem kX2_readLetters_55 : mchk MX2_readLetters 55 bX2_readLetters_55 63 = true := by decide +kernel
theorem tX2_readLetters_63 : mdk MX2_readLetters 63 (.invokevirtual 107) = true := by decide +kernel
def bX2_readLetters_66 : List mB := [(.aload_n 0, mI 0), (.getfield 28, mR 2 5)]
theorem kX2_readLetters_66 : mchk MX2_readLetters 66 bX2_readLetters_66 70 = true := by decide +kernel
theorem tX2_readLetters_70 : mdk MX2_readLetters 70 (.invokevirtual 205) = true := by decide +kernel
theorem tX2_readLetters_73 : mrk MX2_readLetters 73 .ireturn = true := by decide +kernel
def bX2_secondsTillOver_0 : List mB := [(.iconst 0, mI (nI 0)), (.istore_n 1, mI 0)]
theorem kX2_secondsTillOver_0 : mchk MX2_secondsTillOver 0 bX2_secondsTillOver_0 2 = true := by decide +kernel
def bX2_secondsTillOver_2 : List mB := [(.iload_n 1, mI 0), (.bipush 60, mI (nI 60))]
theorem kX2_secondsTillOver_2 : mchk MX2_secondsTillOver 2 bX2_secondsTillOver_2 5 = true := by decide +kernel
theorem tX2_secondsTillOver_5 : mbk MX2_secondsTillOver 5 (.if_icmp .gt 28) 33 = true := by decide +kernel
def bX2_secondsTillOver_8 : List mB := [(.aload_n 0, mI 0), (.getfield 16, mR 2 1)]
theorem kX2_secondsTillOver_8 : mchk MX2_secondsTillOver 8 bX2_secondsTillOver_8 12 = true := by decide +kernel
theorem tX2_secondsTillOver_12 : mdk MX2_secondsTillOver 12 (.invokevirtual 208) = true := by decide +kernel
theorem tX2_secondsTillOver_15 : mbk MX2_secondsTillOver 15 (.ifCond .eq 5) 20 = true := by decide +kernel
def bX2_secondsTillOver_18 : List mB := [(.iload_n 1, mI 0)]
theorem kX2_secondsTillOver_18 : mchk MX2_secondsTillOver 18 bX2_secondsTillOver_18 19 = true := by decide +kernel
theorem tX2_secondsTillOver_19 : mrk MX2_secondsTillOver 19 .ireturn = true := by decide +kernel
def bX2_secondsTillOver_20 : List mB := [(.aload_n 0, mI 0), (.getfield 16, mR 2 1)]
theorem kX2_secondsTillOver_20 : mchk MX2_secondsTillOver 20 bX2_secondsTillOver_20 24 = true := by decide +kernel
theorem tX2_secondsTillOver_24 : mdk MX2_secondsTillOver 24 (.invokevirtual 134) = true := by decide +kernel
def bX2_secondsTillOver_27 : List mB := [(.iinc 1 1, mI (nI 1))]
theorem kX2_secondsTillOver_27 : mchk MX2_secondsTillOver 27 bX2_secondsTillOver_27 30 = true := by decide +kernel
theorem tX2_secondsTillOver_30 : mbk MX2_secondsTillOver 30 (.goto (-28)) 2 = true := by decide +kernel
def bX2_secondsTillOver_33 : List mB := [(.bipush (-9), mI (-9))]
theorem kX2_secondsTillOver_33 : mchk MX2_secondsTillOver 33 bX2_secondsTillOver_33 35 = true := by decide +kernel
theorem tX2_secondsTillOver_35 : mrk MX2_secondsTillOver 35 .ireturn = true := by decide +kernel
def bX2_standingOver_0 : List mB := [(.iconst 0, mI (nI 0)), (.istore_n 2, mI 0), (.iconst 1, mI (nI 1)), (.istore_n 3, mI 0)]
theorem kX2_standingOver_0 : mchk MX2_standingOver 0 bX2_standingOver_0 4 = true := by decide +kernel
def bX2_standingOver_4 : List mB := [(.iload_n 3, mI 0), (.iload_n 1, mI 0)]
theorem kX2_standingOver_4 : mchk MX2_standingOver 4 bX2_standingOver_4 6 = true := by decide +kernel
theorem tX2_standingOver_6 : mbk MX2_standingOver 6 (.if_icmp .gt 26) 32 = true := by decide +kernel
def bX2_standingOver_9 : List mB := [(.aload_n 0, mI 0), (.getfield 16, mR 2 1)]
theorem kX2_standingOver_9 : mchk MX2_standingOver 9 bX2_standingOver_9 13 = true := by decide +kernel
theorem tX2_standingOver_13 : mdk MX2_standingOver 13 (.invokevirtual 134) = true := by decide +kernel
def bX2_standingOver_16 : List mB := [(.iload_n 2, mI 0), (.aload_n 0, mI 0), (.getfield 16, mR 2 1)]
theorem kX2_standingOver_16 : mchk MX2_standingOver 16 bX2_standingOver_16 21 = true := by decide +kernel
theorem tX2_standingOver_21 : mdk MX2_standingOver 21 (.invokevirtual 122) = true := by decide +kernel
def bX2_standingOver_24 : List mB := [(.iadd, mI 0), (.istore_n 2, mI 0), (.iinc 3 1, mI (nI 1))]
theorem kX2_standingOver_24 : mchk MX2_standingOver 24 bX2_standingOver_24 29 = true := by decide +kernel
theorem tX2_standingOver_29 : mbk MX2_standingOver 29 (.goto (-25)) 4 = true := by decide +kernel
def bX2_standingOver_32 : List mB := [(.iload_n 2, mI 0)]
theorem kX2_standingOver_32 : mchk MX2_standingOver 32 bX2_standingOver_32 33 = true := by decide +kernel
theorem tX2_standingOver_33 : mrk MX2_standingOver 33 .ireturn = true := by decide +kernel
def bX2_othersStanding_0 : List mB := [(.iconst 0, mI (nI 0)), (.istore_n 2, mI 0), (.iconst 1, mI (nI 1)), (.istore_n 3, mI 0)]
theorem kX2_othersStanding_0 : mchk MX2_othersStanding 0 bX2_othersStanding_0 4 = true := by decide +kernel
def bX2_othersStanding_4 : List mB := [(.iload_n 3, mI 0), (.bipush 20, mI (nI 20))]
theorem kX2_othersStanding_4 : mchk MX2_othersStanding 4 bX2_othersStanding_4 7 = true := by decide +kernel
theorem tX2_othersStanding_7 : mbk MX2_othersStanding 7 (.if_icmp .gt 43) 50 = true := by decide +kernel
def bX2_othersStanding_10 : List mB := [(.aload_n 0, mI 0), (.getfield 16, mR 2 1)]
theorem kX2_othersStanding_10 : mchk MX2_othersStanding 10 bX2_othersStanding_10 14 = true := by decide +kernel
theorem tX2_othersStanding_14 : mdk MX2_othersStanding 14 (.invokevirtual 134) = true := by decide +kernel
def bX2_othersStanding_17 : List mB := [(.iload_n 2, mI 0), (.aload_n 0, mI 0), (.getfield 16, mR 2 1)]
theorem kX2_othersStanding_17 : mchk MX2_othersStanding 17 bX2_othersStanding_17 22 = true := by decide +kernel
theorem tX2_othersStanding_22 : mdk MX2_othersStanding 22 (.invokevirtual 122) = true := by decide +kernel
def bX2_othersStanding_25 : List mB := [(.aload_n 0, mI 0), (.getfield 16, mR 2 1), (.iload_n 1, mI 0)]
theorem kX2_othersStanding_25 : mchk MX2_othersStanding 25 bX2_othersStanding_25 30 = true := by decide +kernel
theorem tX2_othersStanding_30 : mdk MX2_othersStanding 30 (.invokevirtual 70) = true := by decide +kernel
theorem tX2_othersStanding_33 : mbk MX2_othersStanding 33 (.ifCond .eq 7) 40 = true := by decide +kernel
def bX2_othersStanding_36 : List mB := [(.iconst 1, mI (nI 1))]
theorem kX2_othersStanding_36 : mchk MX2_othersStanding 36 bX2_othersStanding_36 37 = true := by decide +kernel
theorem tX2_othersStanding_37 : mbk MX2_othersStanding 37 (.goto 4) 41 = true := by decide +kernel
def bX2_othersStanding_40 : List mB := [(.iconst 0, mI (nI 0))]
theorem kX2_othersStanding_40 : mchk MX2_othersStanding 40 bX2_othersStanding_40 41 = true := by decide +kernel
def bX2_othersStanding_41 : List mB := [(.isub, mI 0), (.iadd, mI 0), (.istore_n 2, mI 0), (.iinc 3 1, mI (nI 1))]
theorem kX2_othersStanding_41 : mchk MX2_othersStanding 41 bX2_othersStanding_41 47 = true := by decide +kernel
theorem tX2_othersStanding_47 : mbk MX2_othersStanding 47 (.goto (-43)) 4 = true := by decide +kernel
def bX2_othersStanding_50 : List mB := [(.iload_n 2, mI 0)]
theorem kX2_othersStanding_50 : mchk MX2_othersStanding 50 bX2_othersStanding_50 51 = true := by decide +kernel
theorem tX2_othersStanding_51 : mrk MX2_othersStanding 51 .ireturn = true := by decide +kernel
def bX2_addCatchers_0 : List mB := [(.iconst 0, mI (nI 0)), (.istore_n 2, mI 0)]
theorem kX2_addCatchers_0 : mchk MX2_addCatchers 0 bX2_addCatchers_0 2 = true := by decide +kernel
def bX2_addCatchers_2 : List mB := [(.iload_n 2, mI 0), (.iload_n 1, mI 0)]
theorem kX2_addCatchers_2 : mchk MX2_addCatchers 2 bX2_addCatchers_2 4 = true := by decide +kernel
theorem tX2_addCatchers_4 : mbk MX2_addCatchers 4 (.if_icmp .ge 24) 28 = true := by decide +kernel
def bX2_addCatchers_7 : List mB := [(.aload_n 0, mI 0), (.getfield 16, mR 2 1), (.iconst 4, mI (nI 4)), (.iconst 0, mI (nI 0)), (.iconst 0, mI (nI 0))]
theorem kX2_addCatchers_7 : mchk MX2_addCatchers 7 bX2_addCatchers_7 14 = true := by decide +kernel
theorem tX2_addCatchers_14 : mdk MX2_addCatchers 14 (.invokevirtual 211) = true := by decide +kernel
theorem tX2_addCatchers_17 : mbk MX2_addCatchers 17 (.ifCond .ne 5) 22 = true := by decide +kernel
def bX2_addCatchers_20 : List mB := [(.iconst 0, mI (nI 0))]
theorem kX2_addCatchers_20 : mchk MX2_addCatchers 20 bX2_addCatchers_20 21 = true := by decide +kernel
theorem tX2_addCatchers_21 : mrk MX2_addCatchers 21 .ireturn = true := by decide +kernel
def bX2_addCatchers_22 : List mB := [(.iinc 2 1, mI (nI 1))]
theorem kX2_addCatchers_22 : mchk MX2_addCatchers 22 bX2_addCatchers_22 25 = true := by decide +kernel
theorem tX2_addCatchers_25 : mbk MX2_addCatchers 25 (.goto (-23)) 2 = true := by decide +kernel
def bX2_addCatchers_28 : List mB := [(.iconst 1, mI (nI 1))]
theorem kX2_addCatchers_28 : mchk MX2_addCatchers 28 bX2_addCatchers_28 29 = true := by decide +kernel
theorem tX2_addCatchers_29 : mrk MX2_addCatchers 29 .ireturn = true := by decide +kernel
def bX2_firstUntrue_0 : List mB := [(.iconst 0, mI (nI 0)), (.istore_n 1, mI 0)]
theorem kX2_firstUntrue_0 : mchk MX2_firstUntrue 0 bX2_firstUntrue_0 2 = true := by decide +kernel
def bX2_firstUntrue_2 : List mB := [(.iload_n 1, mI 0), (.aload_n 0, mI 0), (.getfield 169, mR 2 7)]
theorem kX2_firstUntrue_2 : mchk MX2_firstUntrue 2 bX2_firstUntrue_2 7 = true := by decide +kernel
theorem tX2_firstUntrue_7 : mbk MX2_firstUntrue 7 (.if_icmp .ge 34) 41 = true := by decide +kernel
def bX2_firstUntrue_10 : List mB := [(.aload_n 0, mI 0), (.getfield 16, mR 2 1)]
theorem kX2_firstUntrue_10 : mchk MX2_firstUntrue 10 bX2_firstUntrue_10 14 = true := by decide +kernel
theorem tX2_firstUntrue_14 : mdk MX2_firstUntrue 14 (.invokevirtual 134) = true := by decide +kernel
def bX2_firstUntrue_17 : List mB := [(.aload_n 0, mI 0), (.getfield 16, mR 2 1)]
theorem kX2_firstUntrue_17 : mchk MX2_firstUntrue 17 bX2_firstUntrue_17 21 = true := by decide +kernel
theorem tX2_firstUntrue_21 : mdk MX2_firstUntrue 21 (.invokevirtual 122) = true := by decide +kernel
def bX2_firstUntrue_24 : List mB := [(.aload_n 0, mI 0), (.getfield 32, mR 2 6), (.iload_n 1, mI 0), (.iaload, mI 0)]
theorem kX2_firstUntrue_24 : mchk MX2_firstUntrue 24 bX2_firstUntrue_24 30 = true := by decide +kernel
theorem tX2_firstUntrue_30 : mbk MX2_firstUntrue 30 (.if_icmp .eq 5) 35 = true := by decide +kernel
def bX2_firstUntrue_33 : List mB := [(.iload_n 1, mI 0)]
theorem kX2_firstUntrue_33 : mchk MX2_firstUntrue 33 bX2_firstUntrue_33 34 = true := by decide +kernel
theorem tX2_firstUntrue_34 : mrk MX2_firstUntrue 34 .ireturn = true := by decide +kernel
def bX2_firstUntrue_35 : List mB := [(.iinc 1 1, mI (nI 1))]
theorem kX2_firstUntrue_35 : mchk MX2_firstUntrue 35 bX2_firstUntrue_35 38 = true := by decide +kernel
theorem tX2_firstUntrue_38 : mbk MX2_firstUntrue 38 (.goto (-36)) 2 = true := by decide +kernel
def bX2_firstUntrue_41 : List mB := [(.bipush (-9), mI (-9))]
theorem kX2_firstUntrue_41 : mchk MX2_firstUntrue 41 bX2_firstUntrue_41 43 = true := by decide +kernel
theorem tX2_firstUntrue_43 : mrk MX2_firstUntrue 43 .ireturn = true := by decide +kernel
def bX2_greatestShared_0 : List mB := [(.iload_n 1, mI 0), (.istore_n 2, mI 0)]
theorem kX2_greatestShared_0 : mchk MX2_greatestShared 0 bX2_greatestShared_0 2 = true := by decide +kernel
def bX2_greatestShared_2 : List mB := [(.iload_n 2, mI 0), (.iconst 1, mI (nI 1))]
theorem kX2_greatestShared_2 : mchk MX2_greatestShared 2 bX2_greatestShared_2 4 = true := by decide +kernel
theorem tX2_greatestShared_4 : mbk MX2_greatestShared 4 (.if_icmp .le 23) 27 = true := by decide +kernel
def bX2_greatestShared_7 : List mB := [(.iload_n 0, mI 0), (.iload_n 2, mI 0), (.irem, mI 0)]
theorem kX2_greatestShared_7 : mchk MX2_greatestShared 7 bX2_greatestShared_7 10 = true := by decide +kernel
theorem tX2_greatestShared_10 : mbk MX2_greatestShared 10 (.ifCond .ne 11) 21 = true := by decide +kernel
def bX2_greatestShared_13 : List mB := [(.iload_n 1, mI 0), (.iload_n 2, mI 0), (.irem, mI 0)]
theorem kX2_greatestShared_13 : mchk MX2_greatestShared 13 bX2_greatestShared_13 16 = true := by decide +kernel
theorem tX2_greatestShared_16 : mbk MX2_greatestShared 16 (.ifCond .ne 5) 21 = true := by decide +kernel
def bX2_greatestShared_19 : List mB := [(.iload_n 2, mI 0)]
theorem kX2_greatestShared_19 : mchk MX2_greatestShared 19 bX2_greatestShared_19 20 = true := by decide +kernel
theorem tX2_greatestShared_20 : mrk MX2_greatestShared 20 .ireturn = true := by decide +kernel
def bX2_greatestShared_21 : List mB := [(.iinc 2 (-1), mI (-1))]
theorem kX2_greatestShared_21 : mchk MX2_greatestShared 21 bX2_greatestShared_21 24 = true := by decide +kernel
theorem tX2_greatestShared_24 : mbk MX2_greatestShared 24 (.goto (-22)) 2 = true := by decide +kernel
def bX2_greatestShared_27 : List mB := [(.iconst 1, mI (nI 1))]
theorem kX2_greatestShared_27 : mchk MX2_greatestShared 27 bX2_greatestShared_27 28 = true := by decide +kernel
theorem tX2_greatestShared_28 : mrk MX2_greatestShared 28 .ireturn = true := by decide +kernel
end
section
def bX3_no_0 : List mB := [(.aload_n 0, mI 0), (.getfield 7, mR 3 0), (.iload_n 1, mI 0), (.ineg, mI 0), (.dup2, mI 0), (.iaload, mI 0), (.iconst 1, mI (nI 1)), (.iadd, mI 0), (.iastore, mI 0), (.iload_n 1, mI 0)]
theorem kX3_no_0 : mchk MX3_no 0 bX3_no_0 12 = true := by decide +kernel
theorem tX3_no_12 : mrk MX3_no 12 .ireturn = true := by decide +kernel
def bX3_lower_0 : List mB := [(.aload_n 0, mI 0), (.getfield 7, mR 3 0), (.iload_n 1, mI 0), (.ineg, mI 0), (.dup2, mI 0), (.iaload, mI 0), (.iconst 1, mI (nI 1)), (.iadd, mI 0), (.iastore, mI 0), (.ldc 53, mI (nI 1000000000)), (.iload_n 1, mI 0), (.isub, mI 0)]
theorem kX3_lower_0 : mchk MX3_lower 0 bX3_lower_0 15 = true := by decide +kernel
theorem tX3_lower_15 : mrk MX3_lower 15 .ireturn = true := by decide +kernel
def bX3_lowest_0 : List mB := [(.aload_n 0, mI 0), (.getfield 7, mR 3 0), (.iload_n 1, mI 0), (.ineg, mI 0), (.dup2, mI 0), (.iaload, mI 0), (.iconst 1, mI (nI 1)), (.iadd, mI 0), (.iastore, mI 0), (.ldc2_w 54, mJ (lN 4000000000000000000)), (.iload_n 1, mI 0), (.i2l, mI 0), (.lsub, mI 0)]
theorem kX3_lowest_0 : mchk MX3_lowest 0 bX3_lowest_0 17 = true := by decide +kernel
theorem tX3_lowest_17 : mrk MX3_lowest 17 .lreturn = true := by decide +kernel
def bX3_isIn_0 : List mB := [(.iload_n 0, mI 0), (.iload_n 1, mI 0)]
theorem kX3_isIn_0 : mchk MX3_isIn 0 bX3_isIn_0 2 = true := by decide +kernel
theorem tX3_isIn_2 : mbk MX3_isIn 2 (.if_icmp .lt 12) 14 = true := by decide +kernel
def bX3_isIn_5 : List mB := [(.iload_n 0, mI 0), (.iload_n 2, mI 0)]
theorem kX3_isIn_5 : mchk MX3_isIn 5 bX3_isIn_5 7 = true := by decide +kernel
theorem tX3_isIn_7 : mbk MX3_isIn 7 (.if_icmp .gt 7) 14 = true := by decide +kernel
def bX3_isIn_10 : List mB := [(.iconst 1, mI (nI 1))]
theorem kX3_isIn_10 : mchk MX3_isIn 10 bX3_isIn_10 11 = true := by decide +kernel
theorem tX3_isIn_11 : mbk MX3_isIn 11 (.goto 4) 15 = true := by decide +kernel
def bX3_isIn_14 : List mB := [(.iconst 0, mI (nI 0))]
theorem kX3_isIn_14 : mchk MX3_isIn 14 bX3_isIn_14 15 = true := by decide +kernel
theorem tX3_isIn_15 : mrk MX3_isIn 15 .ireturn = true := by decide +kernel
def bX3_bound_0 : List mB := [(.iload_n 0, mI 0), (.iload_n 1, mI 0)]
theorem kX3_bound_0 : mchk MX3_bound 0 bX3_bound_0 2 = true := by decide +kernel
theorem tX3_bound_2 : mbk MX3_bound 2 (.if_icmp .ge 8) 10 = true := by decide +kernel
def bX3_bound_5 : List mB := [(.bipush (-4), mI (-4))]
theorem kX3_bound_5 : mchk MX3_bound 5 bX3_bound_5 7 = true := by decide +kernel
theorem tX3_bound_7 : mbk MX3_bound 7 (.goto 14) 21 = true := by decide +kernel
def bX3_bound_10 : List mB := [(.iload_n 0, mI 0), (.iload_n 2, mI 0)]
theorem kX3_bound_10 : mchk MX3_bound 10 bX3_bound_10 12 = true := by decide +kernel
theorem tX3_bound_12 : mbk MX3_bound 12 (.if_icmp .le 8) 20 = true := by decide +kernel
def bX3_bound_15 : List mB := [(.bipush (-6), mI (-6))]
theorem kX3_bound_15 : mchk MX3_bound 15 bX3_bound_15 17 = true := by decide +kernel
theorem tX3_bound_17 : mbk MX3_bound 17 (.goto 4) 21 = true := by decide +kernel
def bX3_bound_20 : List mB := [(.iconst 0, mI (nI 0))]
theorem kX3_bound_20 : mchk MX3_bound 20 bX3_bound_20 21 = true := by decide +kernel
theorem tX3_bound_21 : mrk MX3_bound 21 .ireturn = true := by decide +kernel
def bX3_bits_0 : List mB := [(.iconst 0, mI (nI 0)), (.istore_n 1, mI 0), (.iconst 0, mI (nI 0)), (.istore_n 2, mI 0)]
theorem kX3_bits_0 : mchk MX3_bits 0 bX3_bits_0 4 = true := by decide +kernel
def bX3_bits_4 : List mB := [(.iload_n 2, mI 0), (.bipush 31, mI (nI 31))]
theorem kX3_bits_4 : mchk MX3_bits 4 bX3_bits_4 7 = true := by decide +kernel
theorem tX3_bits_7 : mbk MX3_bits 7 (.if_icmp .ge 17) 24 = true := by decide +kernel
def bX3_bits_10 : List mB := [(.iload_n 1, mI 0), (.iload_n 0, mI 0), (.iload_n 2, mI 0), (.ishr, mI 0), (.iconst 1, mI (nI 1)), (.iand, mI 0), (.iadd, mI 0), (.istore_n 1, mI 0), (.iinc 2 1, mI (nI 1))]
theorem kX3_bits_10 : mchk MX3_bits 10 bX3_bits_10 21 = true := by decide +kernel
theorem tX3_bits_21 : mbk MX3_bits 21 (.goto (-17)) 4 = true := by decide +kernel
def bX3_bits_24 : List mB := [(.iload_n 1, mI 0)]
theorem kX3_bits_24 : mchk MX3_bits 24 bX3_bits_24 25 = true := by decide +kernel
theorem tX3_bits_25 : mrk MX3_bits 25 .ireturn = true := by decide +kernel
def bX3_apart_0 : List mB := [(.iload_n 0, mI 0), (.iload_n 1, mI 0)]
theorem kX3_apart_0 : mchk MX3_apart 0 bX3_apart_0 2 = true := by decide +kernel
theorem tX3_apart_2 : mbk MX3_apart 2 (.if_icmp .ge 9) 11 = true := by decide +kernel
def bX3_apart_5 : List mB := [(.iload_n 1, mI 0), (.iload_n 0, mI 0), (.isub, mI 0)]
theorem kX3_apart_5 : mchk MX3_apart 5 bX3_apart_5 8 = true := by decide +kernel
theorem tX3_apart_8 : mbk MX3_apart 8 (.goto 6) 14 = true := by decide +kernel
def bX3_apart_11 : List mB := [(.iload_n 0, mI 0), (.iload_n 1, mI 0), (.isub, mI 0)]
theorem kX3_apart_11 : mchk MX3_apart 11 bX3_apart_11 14 = true := by decide +kernel
theorem tX3_apart_14 : mrk MX3_apart 14 .ireturn = true := by decide +kernel
def bX3_isCell_0 : List mB := [(.iload_n 0, mI 0)]
theorem kX3_isCell_0 : mchk MX3_isCell 0 bX3_isCell_0 1 = true := by decide +kernel
theorem tX3_isCell_1 : mbk MX3_isCell 1 (.ifCond .lt 13) 14 = true := by decide +kernel
def bX3_isCell_4 : List mB := [(.iload_n 0, mI 0), (.bipush 24, mI (nI 24))]
theorem kX3_isCell_4 : mchk MX3_isCell 4 bX3_isCell_4 7 = true := by decide +kernel
theorem tX3_isCell_7 : mbk MX3_isCell 7 (.if_icmp .ge 7) 14 = true := by decide +kernel
def bX3_isCell_10 : List mB := [(.iconst 1, mI (nI 1))]
theorem kX3_isCell_10 : mchk MX3_isCell 10 bX3_isCell_10 11 = true := by decide +kernel
theorem tX3_isCell_11 : mbk MX3_isCell 11 (.goto 4) 15 = true := by decide +kernel
def bX3_isCell_14 : List mB := [(.iconst 0, mI (nI 0))]
theorem kX3_isCell_14 : mchk MX3_isCell 14 bX3_isCell_14 15 = true := by decide +kernel
theorem tX3_isCell_15 : mrk MX3_isCell 15 .ireturn = true := by decide +kernel
def bX3_farOf_0 : List mB := [(.iload_n 0, mI 0), (.bipush 6, mI (nI 6)), (.idiv, mI 0), (.iload_n 1, mI 0), (.bipush 6, mI (nI 6)), (.idiv, mI 0)]
theorem kX3_farOf_0 : mchk MX3_farOf 0 bX3_farOf_0 8 = true := by decide +kernel
theorem tX3_farOf_8 : mdk MX3_farOf 8 (.invokestatic 56) = true := by decide +kernel
def bX3_farOf_11 : List mB := [(.iload_n 0, mI 0), (.bipush 6, mI (nI 6)), (.irem, mI 0), (.iload_n 1, mI 0), (.bipush 6, mI (nI 6)), (.irem, mI 0)]
theorem kX3_farOf_11 : mchk MX3_farOf 11 bX3_farOf_11 19 = true := by decide +kernel
theorem tX3_farOf_19 : mdk MX3_farOf 19 (.invokestatic 56) = true := by decide +kernel
def bX3_farOf_22 : List mB := [(.iadd, mI 0)]
theorem kX3_farOf_22 : mchk MX3_farOf 22 bX3_farOf_22 23 = true := by decide +kernel
theorem tX3_farOf_23 : mrk MX3_farOf 23 .ireturn = true := by decide +kernel
def bX3_isEdge_0 : List mB := [(.iload_n 0, mI 0), (.bipush 6, mI (nI 6)), (.idiv, mI 0)]
theorem kX3_isEdge_0 : mchk MX3_isEdge 0 bX3_isEdge_0 4 = true := by decide +kernel
theorem tX3_isEdge_4 : mbk MX3_isEdge 4 (.ifCond .eq 26) 30 = true := by decide +kernel
def bX3_isEdge_7 : List mB := [(.iload_n 0, mI 0), (.bipush 6, mI (nI 6)), (.idiv, mI 0), (.iconst 3, mI (nI 3))]
theorem kX3_isEdge_7 : mchk MX3_isEdge 7 bX3_isEdge_7 12 = true := by decide +kernel
theorem tX3_isEdge_12 : mbk MX3_isEdge 12 (.if_icmp .eq 18) 30 = true := by decide +kernel
def bX3_isEdge_15 : List mB := [(.iload_n 0, mI 0), (.bipush 6, mI (nI 6)), (.irem, mI 0)]
theorem kX3_isEdge_15 : mchk MX3_isEdge 15 bX3_isEdge_15 19 = true := by decide +kernel
theorem tX3_isEdge_19 : mbk MX3_isEdge 19 (.ifCond .eq 11) 30 = true := by decide +kernel
def bX3_isEdge_22 : List mB := [(.iload_n 0, mI 0), (.bipush 6, mI (nI 6)), (.irem, mI 0), (.iconst 5, mI (nI 5))]
theorem kX3_isEdge_22 : mchk MX3_isEdge 22 bX3_isEdge_22 27 = true := by decide +kernel
theorem tX3_isEdge_27 : mbk MX3_isEdge 27 (.if_icmp .ne 7) 34 = true := by decide +kernel
def bX3_isEdge_30 : List mB := [(.iconst 1, mI (nI 1))]
theorem kX3_isEdge_30 : mchk MX3_isEdge 30 bX3_isEdge_30 31 = true := by decide +kernel
theorem tX3_isEdge_31 : mbk MX3_isEdge 31 (.goto 4) 35 = true := by decide +kernel
def bX3_isEdge_34 : List mB := [(.iconst 0, mI (nI 0))]
theorem kX3_isEdge_34 : mchk MX3_isEdge 34 bX3_isEdge_34 35 = true := by decide +kernel
theorem tX3_isEdge_35 : mrk MX3_isEdge 35 .ireturn = true := by decide +kernel
def bX3_isChild_0 : List mB := [(.iload_n 1, mI 0)]
theorem kX3_isChild_0 : mchk MX3_isChild 0 bX3_isChild_0 1 = true := by decide +kernel
theorem tX3_isChild_1 : mbk MX3_isChild 1 (.ifCond .lt 15) 16 = true := by decide +kernel
def bX3_isChild_4 : List mB := [(.iload_n 1, mI 0), (.aload_n 0, mI 0), (.getfield 60, mR 3 7)]
theorem kX3_isChild_4 : mchk MX3_isChild 4 bX3_isChild_4 9 = true := by decide +kernel
theorem tX3_isChild_9 : mbk MX3_isChild 9 (.if_icmp .ge 7) 16 = true := by decide +kernel
def bX3_isChild_12 : List mB := [(.iconst 1, mI (nI 1))]
theorem kX3_isChild_12 : mchk MX3_isChild 12 bX3_isChild_12 13 = true := by decide +kernel
theorem tX3_isChild_13 : mbk MX3_isChild 13 (.goto 4) 17 = true := by decide +kernel
def bX3_isChild_16 : List mB := [(.iconst 0, mI (nI 0))]
theorem kX3_isChild_16 : mchk MX3_isChild 16 bX3_isChild_16 17 = true := by decide +kernel
theorem tX3_isChild_17 : mrk MX3_isChild 17 .ireturn = true := by decide +kernel
def bX3_isCatcher_0 : List mB := [(.aload_n 0, mI 0), (.getfield 13, mR 3 1), (.iload_n 1, mI 0), (.iaload, mI 0), (.iconst 4, mI (nI 4))]
theorem kX3_isCatcher_0 : mchk MX3_isCatcher 0 bX3_isCatcher_0 7 = true := by decide +kernel
theorem tX3_isCatcher_7 : mbk MX3_isCatcher 7 (.if_icmp .lt 7) 14 = true := by decide +kernel
def bX3_isCatcher_10 : List mB := [(.iconst 1, mI (nI 1))]
theorem kX3_isCatcher_10 : mchk MX3_isCatcher 10 bX3_isCatcher_10 11 = true := by decide +kernel
theorem tX3_isCatcher_11 : mbk MX3_isCatcher 11 (.goto 4) 15 = true := by decide +kernel
def bX3_isCatcher_14 : List mB := [(.iconst 0, mI (nI 0))]
theorem kX3_isCatcher_14 : mchk MX3_isCatcher 14 bX3_isCatcher_14 15 = true := by decide +kernel
theorem tX3_isCatcher_15 : mrk MX3_isCatcher 15 .ireturn = true := by decide +kernel
def bX3_letter_0 : List mB := [(.iload_n 1, mI 0), (.iconst 0, mI (nI 0)), (.sipush 255, mI (nI 255))]
theorem kX3_letter_0 : mchk MX3_letter 0 bX3_letter_0 5 = true := by decide +kernel
theorem tX3_letter_5 : mdk MX3_letter 5 (.invokestatic 63) = true := by decide +kernel
def bX3_letter_8 : List mB := [(.istore_n 2, mI 0), (.iload_n 2, mI 0)]
theorem kX3_letter_8 : mchk MX3_letter 8 bX3_letter_8 10 = true := by decide +kernel
theorem tX3_letter_10 : mbk MX3_letter 10 (.ifCond .ne 15) 25 = true := by decide +kernel
def bX3_letter_13 : List mB := [(.aload_n 0, mI 0), (.getfield 67, mR 3 14), (.bipush 96, mI (nI 96))]
theorem kX3_letter_13 : mchk MX3_letter 13 bX3_letter_13 19 = true := by decide +kernel
theorem tX3_letter_19 : mbk MX3_letter 19 (.if_icmp .ne 6) 25 = true := by decide +kernel
def bX3_letter_22 : List mB := [(.bipush (-6), mI (-6)), (.istore_n 2, mI 0)]
theorem kX3_letter_22 : mchk MX3_letter 22 bX3_letter_22 25 = true := by decide +kernel
def bX3_letter_25 : List mB := [(.iload_n 2, mI 0)]
theorem kX3_letter_25 : mchk MX3_letter 25 bX3_letter_25 26 = true := by decide +kernel
theorem tX3_letter_26 : mbk MX3_letter 26 (.ifCond .eq 9) 35 = true := by decide +kernel
def bX3_letter_29 : List mB := [(.aload_n 0, mI 0), (.iload_n 2, mI 0)]
theorem kX3_letter_29 : mchk MX3_letter 29 bX3_letter_29 31 = true := by decide +kernel
theorem tX3_letter_31 : mdk MX3_letter 31 (.invokevirtual 70) = true := by decide +kernel
theorem tX3_letter_34 : mrk MX3_letter 34 .ireturn = true := by decide +kernel
def bX3_letter_35 : List mB := [(.aload_n 0, mI 0), (.getfield 31, mR 3 10), (.aload_n 0, mI 0), (.getfield 67, mR 3 14), (.iload_n 1, mI 0), (.iastore, mI 0), (.aload_n 0, mI 0), (.dup, mI 0), (.getfield 67, mR 3 14), (.iconst 1, mI (nI 1)), (.iadd, mI 0), (.putfield 67, mR 3 14), (.aload_n 0, mI 0), (.getfield 67, mR 3 14)]
theorem kX3_letter_35 : mchk MX3_letter 35 bX3_letter_35 59 = true := by decide +kernel
theorem tX3_letter_59 : mrk MX3_letter 59 .ireturn = true := by decide +kernel
def bX3_next_0 : List mB := [(.aload_n 0, mI 0), (.getfield 74, mR 3 15), (.aload_n 0, mI 0), (.getfield 67, mR 3 14)]
theorem kX3_next_0 : mchk MX3_next 0 bX3_next_0 8 = true := by decide +kernel
theorem tX3_next_8 : mbk MX3_next 8 (.if_icmp .ge 15) 23 = true := by decide +kernel
def bX3_next_11 : List mB := [(.aload_n 0, mI 0), (.getfield 31, mR 3 10), (.aload_n 0, mI 0), (.getfield 74, mR 3 15), (.iaload, mI 0)]
theorem kX3_next_11 : mchk MX3_next 11 bX3_next_11 20 = true := by decide +kernel
theorem tX3_next_20 : mbk MX3_next 20 (.goto 4) 24 = true := by decide +kernel
def bX3_next_23 : List mB := [(.iconst (-1), mI (-1))]
theorem kX3_next_23 : mchk MX3_next 23 bX3_next_23 24 = true := by decide +kernel
theorem tX3_next_24 : mrk MX3_next 24 .ireturn = true := by decide +kernel
def bX3_readsDigits_0 : List mB := [(.iconst 0, mI (nI 0)), (.istore_n 3, mI 0), (.iconst 0, mI (nI 0)), (.istore 4, mI 0)]
theorem kX3_readsDigits_0 : mchk MX3_readsDigits 0 bX3_readsDigits_0 5 = true := by decide +kernel
def bX3_readsDigits_5 : List mB := [(.iload 4, mI 0), (.iload_n 2, mI 0)]
theorem kX3_readsDigits_5 : mchk MX3_readsDigits 5 bX3_readsDigits_5 8 = true := by decide +kernel
theorem tX3_readsDigits_8 : mbk MX3_readsDigits 8 (.if_icmp .ge 48) 56 = true := by decide +kernel
def bX3_readsDigits_11 : List mB := [(.aload_n 0, mI 0)]
theorem kX3_readsDigits_11 : mchk MX3_readsDigits 11 bX3_readsDigits_11 12 = true := by decide +kernel
theorem tX3_readsDigits_12 : mdk MX3_readsDigits 12 (.invokevirtual 77) = true := by decide +kernel
def bX3_readsDigits_15 : List mB := [(.bipush 48, mI (nI 48)), (.bipush 57, mI (nI 57))]
theorem kX3_readsDigits_15 : mchk MX3_readsDigits 15 bX3_readsDigits_15 19 = true := by decide +kernel
theorem tX3_readsDigits_19 : mdk MX3_readsDigits 19 (.invokestatic 81) = true := by decide +kernel
theorem tX3_readsDigits_22 : mbk MX3_readsDigits 22 (.ifCond .ne 5) 27 = true := by decide +kernel
def bX3_readsDigits_25 : List mB := [(.iconst 0, mI (nI 0))]
theorem kX3_readsDigits_25 : mchk MX3_readsDigits 25 bX3_readsDigits_25 26 = true := by decide +kernel
theorem tX3_readsDigits_26 : mrk MX3_readsDigits 26 .ireturn = true := by decide +kernel
def bX3_readsDigits_27 : List mB := [(.bipush 10, mI (nI 10)), (.iload_n 3, mI 0), (.imul, mI 0), (.aload_n 0, mI 0)]
theorem kX3_readsDigits_27 : mchk MX3_readsDigits 27 bX3_readsDigits_27 32 = true := by decide +kernel
theorem tX3_readsDigits_32 : mdk MX3_readsDigits 32 (.invokevirtual 77) = true := by decide +kernel
def bX3_readsDigits_35 : List mB := [(.iadd, mI 0), (.bipush 48, mI (nI 48)), (.isub, mI 0), (.istore_n 3, mI 0), (.aload_n 0, mI 0), (.dup, mI 0), (.getfield 74, mR 3 15), (.iconst 1, mI (nI 1)), (.iadd, mI 0), (.putfield 74, mR 3 15), (.iinc 4 1, mI (nI 1))]
theorem kX3_readsDigits_35 : mchk MX3_readsDigits 35 bX3_readsDigits_35 53 = true := by decide +kernel
theorem tX3_readsDigits_53 : mbk MX3_readsDigits 53 (.goto (-48)) 5 = true := by decide +kernel
def bX3_readsDigits_56 : List mB := [(.aload_n 0, mI 0), (.getfield 40, mR 3 13), (.iload_n 1, mI 0), (.iload_n 3, mI 0), (.iastore, mI 0), (.iconst 1, mI (nI 1))]
theorem kX3_readsDigits_56 : mchk MX3_readsDigits 56 bX3_readsDigits_56 64 = true := by decide +kernel
theorem tX3_readsDigits_64 : mrk MX3_readsDigits 64 .ireturn = true := by decide +kernel
def bX3_kindOf_0 : List mB := [(.iload_n 0, mI 0)]
theorem kX3_kindOf_0 : mchk MX3_kindOf 0 bX3_kindOf_0 1 = true := by decide +kernel
def sX3_kindOf_1 : Instr := .tableswitch 121 98 119 #[118, 111, 121, 121, 105, 113, 109, 121, 121, 121, 121, 121, 121, 121, 107, 121, 103, 121, 121, 121, 121, 115]
theorem tX3_kindOf_1 : mswk MX3_kindOf 1 sX3_kindOf_1 103 = true := by decide +kernel
def bX3_kindOf_104 : List mB := [(.iconst 0, mI (nI 0))]
theorem kX3_kindOf_104 : mchk MX3_kindOf 104 bX3_kindOf_104 105 = true := by decide +kernel
theorem tX3_kindOf_105 : mrk MX3_kindOf 105 .ireturn = true := by decide +kernel
def bX3_kindOf_106 : List mB := [(.iconst 1, mI (nI 1))]
theorem kX3_kindOf_106 : mchk MX3_kindOf 106 bX3_kindOf_106 107 = true := by decide +kernel
theorem tX3_kindOf_107 : mrk MX3_kindOf 107 .ireturn = true := by decide +kernel
def bX3_kindOf_108 : List mB := [(.iconst 2, mI (nI 2))]
theorem kX3_kindOf_108 : mchk MX3_kindOf 108 bX3_kindOf_108 109 = true := by decide +kernel
theorem tX3_kindOf_109 : mrk MX3_kindOf 109 .ireturn = true := by decide +kernel
def bX3_kindOf_110 : List mB := [(.iconst 3, mI (nI 3))]
theorem kX3_kindOf_110 : mchk MX3_kindOf 110 bX3_kindOf_110 111 = true := by decide +kernel
theorem tX3_kindOf_111 : mrk MX3_kindOf 111 .ireturn = true := by decide +kernel
def bX3_kindOf_112 : List mB := [(.iconst 4, mI (nI 4))]
theorem kX3_kindOf_112 : mchk MX3_kindOf 112 bX3_kindOf_112 113 = true := by decide +kernel
theorem tX3_kindOf_113 : mrk MX3_kindOf 113 .ireturn = true := by decide +kernel
def bX3_kindOf_114 : List mB := [(.iconst 5, mI (nI 5))]
theorem kX3_kindOf_114 : mchk MX3_kindOf 114 bX3_kindOf_114 115 = true := by decide +kernel
theorem tX3_kindOf_115 : mrk MX3_kindOf 115 .ireturn = true := by decide +kernel
def bX3_kindOf_116 : List mB := [(.bipush 6, mI (nI 6))]
theorem kX3_kindOf_116 : mchk MX3_kindOf 116 bX3_kindOf_116 118 = true := by decide +kernel
theorem tX3_kindOf_118 : mrk MX3_kindOf 118 .ireturn = true := by decide +kernel
def bX3_kindOf_119 : List mB := [(.bipush 7, mI (nI 7))]
theorem kX3_kindOf_119 : mchk MX3_kindOf 119 bX3_kindOf_119 121 = true := by decide +kernel
theorem tX3_kindOf_121 : mrk MX3_kindOf 121 .ireturn = true := by decide +kernel
def bX3_kindOf_122 : List mB := [(.iconst (-1), mI (-1))]
theorem kX3_kindOf_122 : mchk MX3_kindOf 122 bX3_kindOf_122 123 = true := by decide +kernel
theorem tX3_kindOf_123 : mrk MX3_kindOf 123 .ireturn = true := by decide +kernel
def bX3_readsChild_0 : List mB := [(.aload_n 0, mI 0), (.getfield 40, mR 3 13), (.iload_n 1, mI 0), (.aload_n 0, mI 0)]
theorem kX3_readsChild_0 : mchk MX3_readsChild 0 bX3_readsChild_0 6 = true := by decide +kernel
theorem tX3_readsChild_6 : mdk MX3_readsChild 6 (.invokevirtual 77) = true := by decide +kernel
theorem tX3_readsChild_9 : mdk MX3_readsChild 9 (.invokestatic 85) = true := by decide +kernel
def bX3_readsChild_12 : List mB := [(.iastore, mI 0), (.aload_n 0, mI 0), (.getfield 40, mR 3 13), (.iload_n 1, mI 0), (.iaload, mI 0)]
theorem kX3_readsChild_12 : mchk MX3_readsChild 12 bX3_readsChild_12 19 = true := by decide +kernel
theorem tX3_readsChild_19 : mbk MX3_readsChild 19 (.ifCond .ge 5) 24 = true := by decide +kernel
def bX3_readsChild_22 : List mB := [(.iconst 0, mI (nI 0))]
theorem kX3_readsChild_22 : mchk MX3_readsChild 22 bX3_readsChild_22 23 = true := by decide +kernel
theorem tX3_readsChild_23 : mrk MX3_readsChild 23 .ireturn = true := by decide +kernel
def bX3_readsChild_24 : List mB := [(.aload_n 0, mI 0), (.dup, mI 0), (.getfield 74, mR 3 15), (.iconst 1, mI (nI 1)), (.iadd, mI 0), (.putfield 74, mR 3 15), (.aload_n 0, mI 0), (.iload_n 1, mI 0), (.iconst 1, mI (nI 1)), (.iadd, mI 0), (.iconst 2, mI (nI 2))]
theorem kX3_readsChild_24 : mchk MX3_readsChild 24 bX3_readsChild_24 39 = true := by decide +kernel
theorem tX3_readsChild_39 : mdk MX3_readsChild 39 (.invokevirtual 88) = true := by decide +kernel
theorem tX3_readsChild_42 : mbk MX3_readsChild 42 (.ifCond .eq 18) 60 = true := by decide +kernel
def bX3_readsChild_45 : List mB := [(.aload_n 0, mI 0), (.iload_n 1, mI 0), (.iconst 2, mI (nI 2)), (.iadd, mI 0), (.iconst 1, mI (nI 1))]
theorem kX3_readsChild_45 : mchk MX3_readsChild 45 bX3_readsChild_45 50 = true := by decide +kernel
theorem tX3_readsChild_50 : mdk MX3_readsChild 50 (.invokevirtual 88) = true := by decide +kernel
theorem tX3_readsChild_53 : mbk MX3_readsChild 53 (.ifCond .eq 7) 60 = true := by decide +kernel
def bX3_readsChild_56 : List mB := [(.iconst 1, mI (nI 1))]
theorem kX3_readsChild_56 : mchk MX3_readsChild 56 bX3_readsChild_56 57 = true := by decide +kernel
theorem tX3_readsChild_57 : mbk MX3_readsChild 57 (.goto 4) 61 = true := by decide +kernel
def bX3_readsChild_60 : List mB := [(.iconst 0, mI (nI 0))]
theorem kX3_readsChild_60 : mchk MX3_readsChild 60 bX3_readsChild_60 61 = true := by decide +kernel
theorem tX3_readsChild_61 : mrk MX3_readsChild 61 .ireturn = true := by decide +kernel
def bX3_statement_0 : List mB := [(.aload_n 0, mI 0)]
theorem kX3_statement_0 : mchk MX3_statement 0 bX3_statement_0 1 = true := by decide +kernel
theorem tX3_statement_1 : mdk MX3_statement 1 (.invokevirtual 77) = true := by decide +kernel
def bX3_statement_4 : List mB := [(.istore_n 1, mI 0), (.iload_n 1, mI 0), (.bipush 107, mI (nI 107))]
theorem kX3_statement_4 : mchk MX3_statement 4 bX3_statement_4 8 = true := by decide +kernel
theorem tX3_statement_8 : mbk MX3_statement 8 (.if_icmp .eq 23) 31 = true := by decide +kernel
def bX3_statement_11 : List mB := [(.iload_n 1, mI 0), (.bipush 116, mI (nI 116))]
theorem kX3_statement_11 : mchk MX3_statement 11 bX3_statement_11 14 = true := by decide +kernel
theorem tX3_statement_14 : mbk MX3_statement 14 (.if_icmp .eq 17) 31 = true := by decide +kernel
def bX3_statement_17 : List mB := [(.iload_n 1, mI 0), (.bipush 108, mI (nI 108))]
theorem kX3_statement_17 : mchk MX3_statement 17 bX3_statement_17 20 = true := by decide +kernel
theorem tX3_statement_20 : mbk MX3_statement 20 (.if_icmp .eq 11) 31 = true := by decide +kernel
def bX3_statement_23 : List mB := [(.iload_n 1, mI 0), (.bipush 103, mI (nI 103))]
theorem kX3_statement_23 : mchk MX3_statement 23 bX3_statement_23 26 = true := by decide +kernel
theorem tX3_statement_26 : mbk MX3_statement 26 (.if_icmp .eq 5) 31 = true := by decide +kernel
def bX3_statement_29 : List mB := [(.iconst 0, mI (nI 0))]
theorem kX3_statement_29 : mchk MX3_statement 29 bX3_statement_29 30 = true := by decide +kernel
theorem tX3_statement_30 : mrk MX3_statement 30 .ireturn = true := by decide +kernel
def bX3_statement_31 : List mB := [(.aload_n 0, mI 0), (.getfield 34, mR 3 11), (.aload_n 0, mI 0), (.getfield 92, mR 3 16), (.iload_n 1, mI 0), (.iastore, mI 0), (.aload_n 0, mI 0), (.getfield 37, mR 3 12), (.aload_n 0, mI 0), (.getfield 92, mR 3 16), (.aload_n 0, mI 0), (.getfield 74, mR 3 15), (.iastore, mI 0), (.aload_n 0, mI 0), (.dup, mI 0), (.getfield 74, mR 3 15), (.iconst 1, mI (nI 1)), (.iadd, mI 0), (.putfield 74, mR 3 15), (.iconst 3, mI (nI 3)), (.aload_n 0, mI 0), (.getfield 92, mR 3 16), (.imul, mI 0), (.istore_n 2, mI 0), (.iload_n 1, mI 0), (.bipush 107, mI (nI 107))]
theorem kX3_statement_31 : mchk MX3_statement 31 bX3_statement_31 74 = true := by decide +kernel
theorem tX3_statement_74 : mbk MX3_statement 74 (.if_icmp .ne 11) 85 = true := by decide +kernel
def bX3_statement_77 : List mB := [(.aload_n 0, mI 0), (.iload_n 2, mI 0)]
theorem kX3_statement_77 : mchk MX3_statement 77 bX3_statement_77 79 = true := by decide +kernel
theorem tX3_statement_79 : mdk MX3_statement 79 (.invokevirtual 95) = true := by decide +kernel
theorem tX3_statement_82 : mbk MX3_statement 82 (.goto 34) 116 = true := by decide +kernel
def bX3_statement_85 : List mB := [(.aload_n 0, mI 0), (.iload_n 2, mI 0), (.iconst 1, mI (nI 1))]
theorem kX3_statement_85 : mchk MX3_statement 85 bX3_statement_85 88 = true := by decide +kernel
theorem tX3_statement_88 : mdk MX3_statement 88 (.invokevirtual 88) = true := by decide +kernel
theorem tX3_statement_91 : mbk MX3_statement 91 (.ifCond .eq 24) 115 = true := by decide +kernel
def bX3_statement_94 : List mB := [(.iload_n 1, mI 0), (.bipush 103, mI (nI 103))]
theorem kX3_statement_94 : mchk MX3_statement 94 bX3_statement_94 97 = true := by decide +kernel
theorem tX3_statement_97 : mbk MX3_statement 97 (.if_icmp .ne 14) 111 = true := by decide +kernel
def bX3_statement_100 : List mB := [(.aload_n 0, mI 0), (.iload_n 2, mI 0), (.iconst 1, mI (nI 1)), (.iadd, mI 0), (.iconst 2, mI (nI 2))]
theorem kX3_statement_100 : mchk MX3_statement 100 bX3_statement_100 105 = true := by decide +kernel
theorem tX3_statement_105 : mdk MX3_statement 105 (.invokevirtual 88) = true := by decide +kernel
theorem tX3_statement_108 : mbk MX3_statement 108 (.ifCond .eq 7) 115 = true := by decide +kernel
def bX3_statement_111 : List mB := [(.iconst 1, mI (nI 1))]
theorem kX3_statement_111 : mchk MX3_statement 111 bX3_statement_111 112 = true := by decide +kernel
theorem tX3_statement_112 : mbk MX3_statement 112 (.goto 4) 116 = true := by decide +kernel
def bX3_statement_115 : List mB := [(.iconst 0, mI (nI 0))]
theorem kX3_statement_115 : mchk MX3_statement 115 bX3_statement_115 116 = true := by decide +kernel
def bX3_statement_116 : List mB := [(.istore_n 3, mI 0), (.iload_n 3, mI 0)]
theorem kX3_statement_116 : mchk MX3_statement 116 bX3_statement_116 118 = true := by decide +kernel
theorem tX3_statement_118 : mbk MX3_statement 118 (.ifCond .eq 12) 130 = true := by decide +kernel
def bX3_statement_121 : List mB := [(.aload_n 0, mI 0)]
theorem kX3_statement_121 : mchk MX3_statement 121 bX3_statement_121 122 = true := by decide +kernel
theorem tX3_statement_122 : mdk MX3_statement 122 (.invokevirtual 77) = true := by decide +kernel
def bX3_statement_125 : List mB := [(.bipush 59, mI (nI 59))]
theorem kX3_statement_125 : mchk MX3_statement 125 bX3_statement_125 127 = true := by decide +kernel
theorem tX3_statement_127 : mbk MX3_statement 127 (.if_icmp .eq 5) 132 = true := by decide +kernel
def bX3_statement_130 : List mB := [(.iconst 0, mI (nI 0))]
theorem kX3_statement_130 : mchk MX3_statement 130 bX3_statement_130 131 = true := by decide +kernel
theorem tX3_statement_131 : mrk MX3_statement 131 .ireturn = true := by decide +kernel
def bX3_statement_132 : List mB := [(.aload_n 0, mI 0), (.dup, mI 0), (.getfield 74, mR 3 15), (.iconst 1, mI (nI 1)), (.iadd, mI 0), (.putfield 74, mR 3 15), (.iconst 1, mI (nI 1))]
theorem kX3_statement_132 : mchk MX3_statement 132 bX3_statement_132 143 = true := by decide +kernel
theorem tX3_statement_143 : mrk MX3_statement 143 .ireturn = true := by decide +kernel
def bX3_comesChild_0 : List mB := [(.aload_n 0, mI 0), (.getfield 13, mR 3 1), (.aload_n 0, mI 0), (.getfield 60, mR 3 7), (.iload_n 1, mI 0), (.iastore, mI 0), (.aload_n 0, mI 0), (.getfield 16, mR 3 2), (.aload_n 0, mI 0), (.getfield 60, mR 3 7), (.iload_n 2, mI 0), (.iastore, mI 0), (.aload_n 0, mI 0), (.getfield 19, mR 3 3), (.aload_n 0, mI 0), (.getfield 60, mR 3 7), (.iload_n 3, mI 0), (.iastore, mI 0), (.aload_n 0, mI 0), (.getfield 22, mR 3 4), (.aload_n 0, mI 0), (.getfield 60, mR 3 7), (.iconst 0, mI (nI 0)), (.iastore, mI 0), (.aload_n 0, mI 0), (.getfield 25, mR 3 5), (.aload_n 0, mI 0), (.getfield 60, mR 3 7), (.iconst 0, mI (nI 0)), (.iastore, mI 0), (.iconst 0, mI (nI 0)), (.istore 4, mI 0)]
theorem kX3_comesChild_0 : mchk MX3_comesChild 0 bX3_comesChild_0 53 = true := by decide +kernel
def bX3_comesChild_53 : List mB := [(.iload 4, mI 0), (.bipush 8, mI (nI 8))]
theorem kX3_comesChild_53 : mchk MX3_comesChild 53 bX3_comesChild_53 57 = true := by decide +kernel
theorem tX3_comesChild_57 : mbk MX3_comesChild 57 (.if_icmp .ge 41) 98 = true := by decide +kernel
def bX3_comesChild_60 : List mB := [(.aload_n 0, mI 0), (.getfield 28, mR 3 6), (.bipush 8, mI (nI 8)), (.aload_n 0, mI 0), (.getfield 60, mR 3 7), (.imul, mI 0), (.iload 4, mI 0), (.iadd, mI 0), (.iconst 0, mI (nI 0)), (.iastore, mI 0), (.aload_n 0, mI 0), (.getfield 28, mR 3 6), (.bipush 8, mI (nI 8)), (.iload 4, mI 0), (.imul, mI 0), (.aload_n 0, mI 0), (.getfield 60, mR 3 7), (.iadd, mI 0), (.iconst 0, mI (nI 0)), (.iastore, mI 0), (.iinc 4 1, mI (nI 1))]
theorem kX3_comesChild_60 : mchk MX3_comesChild 60 bX3_comesChild_60 95 = true := by decide +kernel
theorem tX3_comesChild_95 : mbk MX3_comesChild 95 (.goto (-42)) 53 = true := by decide +kernel
def bX3_comesChild_98 : List mB := [(.aload_n 0, mI 0), (.dup, mI 0), (.getfield 60, mR 3 7), (.iconst 1, mI (nI 1)), (.iadd, mI 0), (.putfield 60, mR 3 7)]
theorem kX3_comesChild_98 : mchk MX3_comesChild 98 bX3_comesChild_98 108 = true := by decide +kernel
theorem tX3_comesChild_108 : mrk MX3_comesChild 108 .return_ = true := by decide +kernel
def bX3_comes_0 : List mB := [(.iconst 3, mI (nI 3)), (.iload_n 1, mI 0), (.imul, mI 0), (.istore_n 2, mI 0), (.aload_n 0, mI 0), (.getfield 34, mR 3 11), (.iload_n 1, mI 0), (.iaload, mI 0)]
theorem kX3_comes_0 : mchk MX3_comes 0 bX3_comes_0 10 = true := by decide +kernel
def sX3_comes_10 : Instr := .lookupswitch 178 #[(107, 34), (108, 154), (116, 100)]
theorem tX3_comes_10 : mswk MX3_comes 10 sX3_comes_10 34 = true := by decide +kernel
def bX3_comes_44 : List mB := [(.aload_n 0, mI 0), (.getfield 40, mR 3 13), (.iload_n 2, mI 0), (.iconst 1, mI (nI 1)), (.iadd, mI 0), (.iaload, mI 0)]
theorem kX3_comes_44 : mchk MX3_comes 44 bX3_comes_44 52 = true := by decide +kernel
theorem tX3_comes_52 : mdk MX3_comes 52 (.invokestatic 99) = true := by decide +kernel
theorem tX3_comes_55 : mbk MX3_comes 55 (.ifCond .eq 25) 80 = true := by decide +kernel
def bX3_comes_58 : List mB := [(.aload_n 0, mI 0), (.getfield 40, mR 3 13), (.iload_n 2, mI 0), (.iconst 2, mI (nI 2)), (.iadd, mI 0), (.iaload, mI 0), (.bipush 7, mI (nI 7))]
theorem kX3_comes_58 : mchk MX3_comes 58 bX3_comes_58 68 = true := by decide +kernel
theorem tX3_comes_68 : mbk MX3_comes 68 (.if_icmp .gt 12) 80 = true := by decide +kernel
def bX3_comes_71 : List mB := [(.aload_n 0, mI 0), (.getfield 60, mR 3 7), (.bipush 8, mI (nI 8))]
theorem kX3_comes_71 : mchk MX3_comes 71 bX3_comes_71 77 = true := by decide +kernel
theorem tX3_comes_77 : mbk MX3_comes 77 (.if_icmp .ne 5) 82 = true := by decide +kernel
def bX3_comes_80 : List mB := [(.iconst 0, mI (nI 0))]
theorem kX3_comes_80 : mchk MX3_comes 80 bX3_comes_80 81 = true := by decide +kernel
theorem tX3_comes_81 : mrk MX3_comes 81 .ireturn = true := by decide +kernel
def bX3_comes_82 : List mB := [(.aload_n 0, mI 0), (.aload_n 0, mI 0), (.getfield 40, mR 3 13), (.iload_n 2, mI 0), (.iaload, mI 0), (.aload_n 0, mI 0), (.getfield 40, mR 3 13), (.iload_n 2, mI 0), (.iconst 1, mI (nI 1)), (.iadd, mI 0), (.iaload, mI 0), (.aload_n 0, mI 0), (.getfield 40, mR 3 13), (.iload_n 2, mI 0), (.iconst 2, mI (nI 2)), (.iadd, mI 0), (.iaload, mI 0)]
theorem kX3_comes_82 : mchk MX3_comes 82 bX3_comes_82 105 = true := by decide +kernel
theorem tX3_comes_105 : mdk MX3_comes 105 (.invokevirtual 102) = true := by decide +kernel
def bX3_comes_108 : List mB := [(.iconst 1, mI (nI 1))]
theorem kX3_comes_108 : mchk MX3_comes 108 bX3_comes_108 109 = true := by decide +kernel
theorem tX3_comes_109 : mrk MX3_comes 109 .ireturn = true := by decide +kernel
def bX3_comes_110 : List mB := [(.aload_n 0, mI 0), (.aload_n 0, mI 0), (.getfield 40, mR 3 13), (.iload_n 2, mI 0), (.iaload, mI 0)]
theorem kX3_comes_110 : mchk MX3_comes 110 bX3_comes_110 117 = true := by decide +kernel
theorem tX3_comes_117 : mdk MX3_comes 117 (.invokevirtual 106) = true := by decide +kernel
theorem tX3_comes_120 : mbk MX3_comes 120 (.ifCond .eq 16) 136 = true := by decide +kernel
def bX3_comes_123 : List mB := [(.aload_n 0, mI 0), (.aload_n 0, mI 0), (.getfield 40, mR 3 13), (.iload_n 2, mI 0), (.iaload, mI 0)]
theorem kX3_comes_123 : mchk MX3_comes 123 bX3_comes_123 130 = true := by decide +kernel
theorem tX3_comes_130 : mdk MX3_comes 130 (.invokevirtual 109) = true := by decide +kernel
theorem tX3_comes_133 : mbk MX3_comes 133 (.ifCond .eq 5) 138 = true := by decide +kernel
def bX3_comes_136 : List mB := [(.iconst 0, mI (nI 0))]
theorem kX3_comes_136 : mchk MX3_comes 136 bX3_comes_136 137 = true := by decide +kernel
theorem tX3_comes_137 : mrk MX3_comes 137 .ireturn = true := by decide +kernel
def bX3_comes_138 : List mB := [(.aload_n 0, mI 0), (.getfield 22, mR 3 4), (.aload_n 0, mI 0), (.getfield 40, mR 3 13), (.iload_n 2, mI 0), (.iaload, mI 0), (.iconst 1, mI (nI 1)), (.aload_n 0, mI 0), (.getfield 22, mR 3 4), (.aload_n 0, mI 0), (.getfield 40, mR 3 13), (.iload_n 2, mI 0), (.iaload, mI 0), (.iaload, mI 0), (.isub, mI 0), (.iastore, mI 0), (.iconst 1, mI (nI 1))]
theorem kX3_comes_138 : mchk MX3_comes 138 bX3_comes_138 163 = true := by decide +kernel
theorem tX3_comes_163 : mrk MX3_comes 163 .ireturn = true := by decide +kernel
def bX3_comes_164 : List mB := [(.aload_n 0, mI 0), (.aload_n 0, mI 0), (.getfield 40, mR 3 13), (.iload_n 2, mI 0), (.iaload, mI 0), (.putfield 112, mR 3 8), (.aload_n 0, mI 0), (.getfield 112, mR 3 8), (.iconst 4, mI (nI 4))]
theorem kX3_comes_164 : mchk MX3_comes 164 bX3_comes_164 179 = true := by decide +kernel
theorem tX3_comes_179 : mbk MX3_comes 179 (.if_icmp .ge 7) 186 = true := by decide +kernel
def bX3_comes_182 : List mB := [(.iconst 1, mI (nI 1))]
theorem kX3_comes_182 : mchk MX3_comes 182 bX3_comes_182 183 = true := by decide +kernel
theorem tX3_comes_183 : mbk MX3_comes 183 (.goto 4) 187 = true := by decide +kernel
def bX3_comes_186 : List mB := [(.iconst 0, mI (nI 0))]
theorem kX3_comes_186 : mchk MX3_comes 186 bX3_comes_186 187 = true := by decide +kernel
theorem tX3_comes_187 : mrk MX3_comes 187 .ireturn = true := by decide +kernel
def bX3_comes_188 : List mB := [(.aload_n 0, mI 0), (.aload_n 0, mI 0), (.getfield 40, mR 3 13), (.iload_n 2, mI 0), (.iaload, mI 0)]
theorem kX3_comes_188 : mchk MX3_comes 188 bX3_comes_188 195 = true := by decide +kernel
theorem tX3_comes_195 : mdk MX3_comes 195 (.invokevirtual 106) = true := by decide +kernel
theorem tX3_comes_198 : mbk MX3_comes 198 (.ifCond .eq 17) 215 = true := by decide +kernel
def bX3_comes_201 : List mB := [(.aload_n 0, mI 0), (.getfield 40, mR 3 13), (.iload_n 2, mI 0), (.iconst 1, mI (nI 1)), (.iadd, mI 0), (.iaload, mI 0)]
theorem kX3_comes_201 : mchk MX3_comes 201 bX3_comes_201 209 = true := by decide +kernel
theorem tX3_comes_209 : mdk MX3_comes 209 (.invokestatic 99) = true := by decide +kernel
theorem tX3_comes_212 : mbk MX3_comes 212 (.ifCond .ne 5) 217 = true := by decide +kernel
def bX3_comes_215 : List mB := [(.iconst 0, mI (nI 0))]
theorem kX3_comes_215 : mchk MX3_comes 215 bX3_comes_215 216 = true := by decide +kernel
theorem tX3_comes_216 : mrk MX3_comes 216 .ireturn = true := by decide +kernel
def bX3_comes_217 : List mB := [(.aload_n 0, mI 0), (.getfield 16, mR 3 2), (.aload_n 0, mI 0), (.getfield 40, mR 3 13), (.iload_n 2, mI 0), (.iaload, mI 0), (.aload_n 0, mI 0), (.getfield 40, mR 3 13), (.iload_n 2, mI 0), (.iconst 1, mI (nI 1)), (.iadd, mI 0), (.iaload, mI 0), (.iastore, mI 0), (.iconst 1, mI (nI 1))]
theorem kX3_comes_217 : mchk MX3_comes 217 bX3_comes_217 237 = true := by decide +kernel
theorem tX3_comes_237 : mrk MX3_comes 237 .ireturn = true := by decide +kernel
def bX3_yard_0 : List mB := [(.aload_n 0, mI 0), (.iconst 0, mI (nI 0)), (.putfield 74, mR 3 15), (.aload_n 0, mI 0), (.iconst 0, mI (nI 0)), (.putfield 92, mR 3 16), (.iconst 1, mI (nI 1)), (.istore_n 1, mI 0)]
theorem kX3_yard_0 : mchk MX3_yard 0 bX3_yard_0 12 = true := by decide +kernel
def bX3_yard_12 : List mB := [(.iload_n 1, mI 0)]
theorem kX3_yard_12 : mchk MX3_yard 12 bX3_yard_12 13 = true := by decide +kernel
theorem tX3_yard_13 : mbk MX3_yard 13 (.ifCond .eq 47) 60 = true := by decide +kernel
def bX3_yard_16 : List mB := [(.aload_n 0, mI 0), (.getfield 74, mR 3 15), (.aload_n 0, mI 0), (.getfield 67, mR 3 14)]
theorem kX3_yard_16 : mchk MX3_yard 16 bX3_yard_16 24 = true := by decide +kernel
theorem tX3_yard_24 : mbk MX3_yard 24 (.if_icmp .lt 10) 34 = true := by decide +kernel
def bX3_yard_27 : List mB := [(.aload_n 0, mI 0), (.getfield 92, mR 3 16)]
theorem kX3_yard_27 : mchk MX3_yard 27 bX3_yard_27 31 = true := by decide +kernel
theorem tX3_yard_31 : mbk MX3_yard 31 (.ifCond .ne 29) 60 = true := by decide +kernel
def bX3_yard_34 : List mB := [(.aload_n 0, mI 0)]
theorem kX3_yard_34 : mchk MX3_yard 34 bX3_yard_34 35 = true := by decide +kernel
theorem tX3_yard_35 : mdk MX3_yard 35 (.invokevirtual 115) = true := by decide +kernel
def bX3_yard_38 : List mB := [(.istore_n 1, mI 0), (.aload_n 0, mI 0), (.dup, mI 0), (.getfield 92, mR 3 16), (.iload_n 1, mI 0)]
theorem kX3_yard_38 : mchk MX3_yard 38 bX3_yard_38 45 = true := by decide +kernel
theorem tX3_yard_45 : mbk MX3_yard 45 (.ifCond .eq 7) 52 = true := by decide +kernel
def bX3_yard_48 : List mB := [(.iconst 1, mI (nI 1))]
theorem kX3_yard_48 : mchk MX3_yard 48 bX3_yard_48 49 = true := by decide +kernel
theorem tX3_yard_49 : mbk MX3_yard 49 (.goto 4) 53 = true := by decide +kernel
def bX3_yard_52 : List mB := [(.iconst 0, mI (nI 0))]
theorem kX3_yard_52 : mchk MX3_yard 52 bX3_yard_52 53 = true := by decide +kernel
def bX3_yard_53 : List mB := [(.iadd, mI 0), (.putfield 92, mR 3 16)]
theorem kX3_yard_53 : mchk MX3_yard 53 bX3_yard_53 57 = true := by decide +kernel
theorem tX3_yard_57 : mbk MX3_yard 57 (.goto (-45)) 12 = true := by decide +kernel
def bX3_yard_60 : List mB := [(.aload_n 0, mI 0), (.iconst 0, mI (nI 0)), (.putfield 67, mR 3 14), (.iload_n 1, mI 0)]
theorem kX3_yard_60 : mchk MX3_yard 60 bX3_yard_60 66 = true := by decide +kernel
theorem tX3_yard_66 : mbk MX3_yard 66 (.ifCond .ne 12) 78 = true := by decide +kernel
def bX3_yard_69 : List mB := [(.sipush (-1000), mI (-1000)), (.aload_n 0, mI 0), (.getfield 74, mR 3 15), (.isub, mI 0)]
theorem kX3_yard_69 : mchk MX3_yard 69 bX3_yard_69 77 = true := by decide +kernel
theorem tX3_yard_77 : mrk MX3_yard 77 .ireturn = true := by decide +kernel
def bX3_yard_78 : List mB := [(.aload_n 0, mI 0), (.iconst 1, mI (nI 1)), (.iconst 1, mI (nI 1))]
theorem kX3_yard_78 : mchk MX3_yard 78 bX3_yard_78 81 = true := by decide +kernel
theorem tX3_yard_81 : mdk MX3_yard 81 (.invokevirtual 119) = true := by decide +kernel
def bX3_yard_84 : List mB := [(.iconst 0, mI (nI 0)), (.istore_n 2, mI 0)]
theorem kX3_yard_84 : mchk MX3_yard 84 bX3_yard_84 86 = true := by decide +kernel
def bX3_yard_86 : List mB := [(.iload_n 2, mI 0), (.aload_n 0, mI 0), (.getfield 92, mR 3 16)]
theorem kX3_yard_86 : mchk MX3_yard 86 bX3_yard_86 91 = true := by decide +kernel
theorem tX3_yard_91 : mbk MX3_yard 91 (.if_icmp .ge 37) 128 = true := by decide +kernel
def bX3_yard_94 : List mB := [(.aload_n 0, mI 0), (.iload_n 2, mI 0)]
theorem kX3_yard_94 : mchk MX3_yard 94 bX3_yard_94 96 = true := by decide +kernel
theorem tX3_yard_96 : mdk MX3_yard 96 (.invokevirtual 123) = true := by decide +kernel
theorem tX3_yard_99 : mbk MX3_yard 99 (.ifCond .eq 6) 105 = true := by decide +kernel
theorem tX3_yard_102 : mbk MX3_yard 102 (.goto 20) 122 = true := by decide +kernel
def bX3_yard_105 : List mB := [(.aload_n 0, mI 0), (.iconst 1, mI (nI 1)), (.iconst 0, mI (nI 0))]
theorem kX3_yard_105 : mchk MX3_yard 105 bX3_yard_105 108 = true := by decide +kernel
theorem tX3_yard_108 : mdk MX3_yard 108 (.invokevirtual 119) = true := by decide +kernel
def bX3_yard_111 : List mB := [(.sipush (-2000), mI (-2000)), (.aload_n 0, mI 0), (.getfield 37, mR 3 12), (.iload_n 2, mI 0), (.iaload, mI 0), (.isub, mI 0)]
theorem kX3_yard_111 : mchk MX3_yard 111 bX3_yard_111 121 = true := by decide +kernel
theorem tX3_yard_121 : mrk MX3_yard 121 .ireturn = true := by decide +kernel
def bX3_yard_122 : List mB := [(.iinc 2 1, mI (nI 1))]
theorem kX3_yard_122 : mchk MX3_yard 122 bX3_yard_122 125 = true := by decide +kernel
theorem tX3_yard_125 : mbk MX3_yard 125 (.goto (-39)) 86 = true := by decide +kernel
def bX3_yard_128 : List mB := [(.aload_n 0, mI 0), (.getfield 92, mR 3 16)]
theorem kX3_yard_128 : mchk MX3_yard 128 bX3_yard_128 132 = true := by decide +kernel
theorem tX3_yard_132 : mrk MX3_yard 132 .ireturn = true := by decide +kernel
def bX3_passes_0 : List mB := [(.iconst 0, mI (nI 0)), (.istore_n 2, mI 0)]
theorem kX3_passes_0 : mchk MX3_passes 0 bX3_passes_0 2 = true := by decide +kernel
def bX3_passes_2 : List mB := [(.iload_n 2, mI 0), (.aload_n 1, mI 0), (.arraylength, mI 0)]
theorem kX3_passes_2 : mchk MX3_passes 2 bX3_passes_2 5 = true := by decide +kernel
theorem tX3_passes_5 : mbk MX3_passes 5 (.if_icmp .ge 53) 58 = true := by decide +kernel
def bX3_passes_8 : List mB := [(.aload_n 0, mI 0), (.getfield 126, mR 3 19)]
theorem kX3_passes_8 : mchk MX3_passes 8 bX3_passes_8 12 = true := by decide +kernel
theorem tX3_passes_12 : mbk MX3_passes 12 (.ifCond .eq 18) 30 = true := by decide +kernel
def bX3_passes_15 : List mB := [(.aload_n 0, mI 0), (.getfield 43, mR 3 17), (.aload_n 0, mI 0), (.getfield 130, mR 3 20), (.aload_n 1, mI 0), (.iload_n 2, mI 0), (.iaload, mI 0), (.iastore, mI 0)]
theorem kX3_passes_15 : mchk MX3_passes 15 bX3_passes_15 27 = true := by decide +kernel
theorem tX3_passes_27 : mbk MX3_passes 27 (.goto 15) 42 = true := by decide +kernel
def bX3_passes_30 : List mB := [(.aload_n 1, mI 0), (.iload_n 2, mI 0), (.aload_n 0, mI 0), (.getfield 43, mR 3 17), (.aload_n 0, mI 0), (.getfield 130, mR 3 20), (.iaload, mI 0), (.iastore, mI 0)]
theorem kX3_passes_30 : mchk MX3_passes 30 bX3_passes_30 42 = true := by decide +kernel
def bX3_passes_42 : List mB := [(.aload_n 0, mI 0), (.dup, mI 0), (.getfield 130, mR 3 20), (.iconst 1, mI (nI 1)), (.iadd, mI 0), (.putfield 130, mR 3 20), (.iinc 2 1, mI (nI 1))]
theorem kX3_passes_42 : mchk MX3_passes 42 bX3_passes_42 55 = true := by decide +kernel
theorem tX3_passes_55 : mbk MX3_passes 55 (.goto (-53)) 2 = true := by decide +kernel
theorem tX3_passes_58 : mrk MX3_passes 58 .return_ = true := by decide +kernel
def bX3_passOne_0 : List mB := [(.aload_n 0, mI 0), (.getfield 126, mR 3 19)]
theorem kX3_passOne_0 : mchk MX3_passOne 0 bX3_passOne_0 4 = true := by decide +kernel
theorem tX3_passOne_4 : mbk MX3_passOne 4 (.ifCond .eq 7) 11 = true := by decide +kernel
def bX3_passOne_7 : List mB := [(.iload_n 1, mI 0)]
theorem kX3_passOne_7 : mchk MX3_passOne 7 bX3_passOne_7 8 = true := by decide +kernel
theorem tX3_passOne_8 : mbk MX3_passOne 8 (.goto 12) 20 = true := by decide +kernel
def bX3_passOne_11 : List mB := [(.aload_n 0, mI 0), (.getfield 43, mR 3 17), (.aload_n 0, mI 0), (.getfield 130, mR 3 20), (.iaload, mI 0)]
theorem kX3_passOne_11 : mchk MX3_passOne 11 bX3_passOne_11 20 = true := by decide +kernel
def bX3_passOne_20 : List mB := [(.istore_n 2, mI 0), (.aload_n 0, mI 0), (.getfield 126, mR 3 19)]
theorem kX3_passOne_20 : mchk MX3_passOne 20 bX3_passOne_20 25 = true := by decide +kernel
theorem tX3_passOne_25 : mbk MX3_passOne 25 (.ifCond .eq 13) 38 = true := by decide +kernel
def bX3_passOne_28 : List mB := [(.aload_n 0, mI 0), (.getfield 43, mR 3 17), (.aload_n 0, mI 0), (.getfield 130, mR 3 20), (.iload_n 1, mI 0), (.iastore, mI 0)]
theorem kX3_passOne_28 : mchk MX3_passOne 28 bX3_passOne_28 38 = true := by decide +kernel
def bX3_passOne_38 : List mB := [(.aload_n 0, mI 0), (.dup, mI 0), (.getfield 130, mR 3 20), (.iconst 1, mI (nI 1)), (.iadd, mI 0), (.putfield 130, mR 3 20), (.iload_n 2, mI 0)]
theorem kX3_passOne_38 : mchk MX3_passOne 38 bX3_passOne_38 49 = true := by decide +kernel
theorem tX3_passOne_49 : mrk MX3_passOne 49 .ireturn = true := by decide +kernel
def bX3_passesAll_0 : List mB := [(.aload_n 0, mI 0), (.bipush 110, mI (nI 110)), (.iload_n 1, mI 0), (.imul, mI 0), (.putfield 130, mR 3 20), (.aload_n 0, mI 0), (.iload_n 2, mI 0), (.putfield 126, mR 3 19), (.aload_n 0, mI 0), (.aload_n 0, mI 0), (.getfield 13, mR 3 1)]
theorem kX3_passesAll_0 : mchk MX3_passesAll 0 bX3_passesAll_0 18 = true := by decide +kernel
theorem tX3_passesAll_18 : mdk MX3_passesAll 18 (.invokevirtual 133) = true := by decide +kernel
def bX3_passesAll_21 : List mB := [(.aload_n 0, mI 0), (.aload_n 0, mI 0), (.getfield 16, mR 3 2)]
theorem kX3_passesAll_21 : mchk MX3_passesAll 21 bX3_passesAll_21 26 = true := by decide +kernel
theorem tX3_passesAll_26 : mdk MX3_passesAll 26 (.invokevirtual 133) = true := by decide +kernel
def bX3_passesAll_29 : List mB := [(.aload_n 0, mI 0), (.aload_n 0, mI 0), (.getfield 19, mR 3 3)]
theorem kX3_passesAll_29 : mchk MX3_passesAll 29 bX3_passesAll_29 34 = true := by decide +kernel
theorem tX3_passesAll_34 : mdk MX3_passesAll 34 (.invokevirtual 133) = true := by decide +kernel
def bX3_passesAll_37 : List mB := [(.aload_n 0, mI 0), (.aload_n 0, mI 0), (.getfield 22, mR 3 4)]
theorem kX3_passesAll_37 : mchk MX3_passesAll 37 bX3_passesAll_37 42 = true := by decide +kernel
theorem tX3_passesAll_42 : mdk MX3_passesAll 42 (.invokevirtual 133) = true := by decide +kernel
def bX3_passesAll_45 : List mB := [(.aload_n 0, mI 0), (.aload_n 0, mI 0), (.getfield 25, mR 3 5)]
theorem kX3_passesAll_45 : mchk MX3_passesAll 45 bX3_passesAll_45 50 = true := by decide +kernel
theorem tX3_passesAll_50 : mdk MX3_passesAll 50 (.invokevirtual 133) = true := by decide +kernel
def bX3_passesAll_53 : List mB := [(.aload_n 0, mI 0), (.aload_n 0, mI 0), (.getfield 28, mR 3 6)]
theorem kX3_passesAll_53 : mchk MX3_passesAll 53 bX3_passesAll_53 58 = true := by decide +kernel
theorem tX3_passesAll_58 : mdk MX3_passesAll 58 (.invokevirtual 133) = true := by decide +kernel
def bX3_passesAll_61 : List mB := [(.aload_n 0, mI 0), (.aload_n 0, mI 0), (.aload_n 0, mI 0), (.getfield 60, mR 3 7)]
theorem kX3_passesAll_61 : mchk MX3_passesAll 61 bX3_passesAll_61 67 = true := by decide +kernel
theorem tX3_passesAll_67 : mdk MX3_passesAll 67 (.invokevirtual 137) = true := by decide +kernel
def bX3_passesAll_70 : List mB := [(.putfield 60, mR 3 7), (.aload_n 0, mI 0), (.aload_n 0, mI 0), (.aload_n 0, mI 0), (.getfield 112, mR 3 8)]
theorem kX3_passesAll_70 : mchk MX3_passesAll 70 bX3_passesAll_70 79 = true := by decide +kernel
theorem tX3_passesAll_79 : mdk MX3_passesAll 79 (.invokevirtual 137) = true := by decide +kernel
def bX3_passesAll_82 : List mB := [(.putfield 112, mR 3 8), (.aload_n 0, mI 0), (.aload_n 0, mI 0), (.aload_n 0, mI 0), (.getfield 140, mR 3 9)]
theorem kX3_passesAll_82 : mchk MX3_passesAll 82 bX3_passesAll_82 91 = true := by decide +kernel
theorem tX3_passesAll_91 : mdk MX3_passesAll 91 (.invokevirtual 137) = true := by decide +kernel
def bX3_passesAll_94 : List mB := [(.putfield 140, mR 3 9)]
theorem kX3_passesAll_94 : mchk MX3_passesAll 94 bX3_passesAll_94 97 = true := by decide +kernel
theorem tX3_passesAll_97 : mrk MX3_passesAll 97 .return_ = true := by decide +kernel
def bX3_image_0 : List mB := [(.aload_n 0, mI 0), (.iconst 1, mI (nI 1)), (.putfield 143, mR 3 18), (.aload_n 0, mI 0), (.iconst 0, mI (nI 0)), (.iconst 1, mI (nI 1))]
theorem kX3_image_0 : mchk MX3_image 0 bX3_image_0 8 = true := by decide +kernel
theorem tX3_image_8 : mdk MX3_image 8 (.invokevirtual 119) = true := by decide +kernel
def bX3_image_11 : List mB := [(.aload_n 0, mI 0), (.getfield 140, mR 3 9)]
theorem kX3_image_11 : mchk MX3_image 11 bX3_image_11 15 = true := by decide +kernel
theorem tX3_image_15 : mrk MX3_image 15 .ireturn = true := by decide +kernel
def bX3_on_0 : List mB := [(.aload_n 0, mI 0), (.getfield 143, mR 3 18)]
theorem kX3_on_0 : mchk MX3_on 0 bX3_on_0 4 = true := by decide +kernel
theorem tX3_on_4 : mbk MX3_on 4 (.ifCond .ne 10) 14 = true := by decide +kernel
def bX3_on_7 : List mB := [(.aload_n 0, mI 0), (.bipush (-3), mI (-3))]
theorem kX3_on_7 : mchk MX3_on 7 bX3_on_7 10 = true := by decide +kernel
theorem tX3_on_10 : mdk MX3_on 10 (.invokevirtual 70) = true := by decide +kernel
theorem tX3_on_13 : mrk MX3_on 13 .ireturn = true := by decide +kernel
def bX3_on_14 : List mB := [(.aload_n 0, mI 0), (.iconst 0, mI (nI 0)), (.iconst 0, mI (nI 0))]
theorem kX3_on_14 : mchk MX3_on 14 bX3_on_14 17 = true := by decide +kernel
theorem tX3_on_17 : mdk MX3_on 17 (.invokevirtual 119) = true := by decide +kernel
def bX3_on_20 : List mB := [(.aload_n 0, mI 0), (.getfield 140, mR 3 9)]
theorem kX3_on_20 : mchk MX3_on 20 bX3_on_20 24 = true := by decide +kernel
theorem tX3_on_24 : mrk MX3_on 24 .ireturn = true := by decide +kernel
def bX3_stepOf_0 : List mB := [(.iload_n 1, mI 0)]
theorem kX3_stepOf_0 : mchk MX3_stepOf 0 bX3_stepOf_0 1 = true := by decide +kernel
def sX3_stepOf_1 : Instr := .tableswitch 84 0 3 #[31, 33, 49, 68]
theorem tX3_stepOf_1 : mswk MX3_stepOf 1 sX3_stepOf_1 31 = true := by decide +kernel
def bX3_stepOf_32 : List mB := [(.iload_n 0, mI 0)]
theorem kX3_stepOf_32 : mchk MX3_stepOf 32 bX3_stepOf_32 33 = true := by decide +kernel
theorem tX3_stepOf_33 : mrk MX3_stepOf 33 .ireturn = true := by decide +kernel
def bX3_stepOf_34 : List mB := [(.iload_n 0, mI 0), (.bipush 6, mI (nI 6))]
theorem kX3_stepOf_34 : mchk MX3_stepOf 34 bX3_stepOf_34 37 = true := by decide +kernel
theorem tX3_stepOf_37 : mbk MX3_stepOf 37 (.if_icmp .lt 10) 47 = true := by decide +kernel
def bX3_stepOf_40 : List mB := [(.iload_n 0, mI 0), (.bipush 6, mI (nI 6)), (.isub, mI 0)]
theorem kX3_stepOf_40 : mchk MX3_stepOf 40 bX3_stepOf_40 44 = true := by decide +kernel
theorem tX3_stepOf_44 : mbk MX3_stepOf 44 (.goto 5) 49 = true := by decide +kernel
def bX3_stepOf_47 : List mB := [(.bipush (-9), mI (-9))]
theorem kX3_stepOf_47 : mchk MX3_stepOf 47 bX3_stepOf_47 49 = true := by decide +kernel
theorem tX3_stepOf_49 : mrk MX3_stepOf 49 .ireturn = true := by decide +kernel
def bX3_stepOf_50 : List mB := [(.iload_n 0, mI 0), (.bipush 6, mI (nI 6)), (.iadd, mI 0), (.bipush 24, mI (nI 24))]
theorem kX3_stepOf_50 : mchk MX3_stepOf 50 bX3_stepOf_50 56 = true := by decide +kernel
theorem tX3_stepOf_56 : mbk MX3_stepOf 56 (.if_icmp .ge 10) 66 = true := by decide +kernel
def bX3_stepOf_59 : List mB := [(.iload_n 0, mI 0), (.bipush 6, mI (nI 6)), (.iadd, mI 0)]
theorem kX3_stepOf_59 : mchk MX3_stepOf 59 bX3_stepOf_59 63 = true := by decide +kernel
theorem tX3_stepOf_63 : mbk MX3_stepOf 63 (.goto 5) 68 = true := by decide +kernel
def bX3_stepOf_66 : List mB := [(.bipush (-9), mI (-9))]
theorem kX3_stepOf_66 : mchk MX3_stepOf 66 bX3_stepOf_66 68 = true := by decide +kernel
theorem tX3_stepOf_68 : mrk MX3_stepOf 68 .ireturn = true := by decide +kernel
def bX3_stepOf_69 : List mB := [(.iload_n 0, mI 0), (.bipush 6, mI (nI 6)), (.irem, mI 0)]
theorem kX3_stepOf_69 : mchk MX3_stepOf 69 bX3_stepOf_69 73 = true := by decide +kernel
theorem tX3_stepOf_73 : mbk MX3_stepOf 73 (.ifCond .le 9) 82 = true := by decide +kernel
def bX3_stepOf_76 : List mB := [(.iload_n 0, mI 0), (.iconst 1, mI (nI 1)), (.isub, mI 0)]
theorem kX3_stepOf_76 : mchk MX3_stepOf 76 bX3_stepOf_76 79 = true := by decide +kernel
theorem tX3_stepOf_79 : mbk MX3_stepOf 79 (.goto 5) 84 = true := by decide +kernel
def bX3_stepOf_82 : List mB := [(.bipush (-9), mI (-9))]
theorem kX3_stepOf_82 : mchk MX3_stepOf 82 bX3_stepOf_82 84 = true := by decide +kernel
theorem tX3_stepOf_84 : mrk MX3_stepOf 84 .ireturn = true := by decide +kernel
def bX3_stepOf_85 : List mB := [(.iload_n 0, mI 0), (.bipush 6, mI (nI 6)), (.irem, mI 0), (.iconst 5, mI (nI 5))]
theorem kX3_stepOf_85 : mchk MX3_stepOf 85 bX3_stepOf_85 90 = true := by decide +kernel
theorem tX3_stepOf_90 : mbk MX3_stepOf 90 (.if_icmp .ge 9) 99 = true := by decide +kernel
def bX3_stepOf_93 : List mB := [(.iload_n 0, mI 0), (.iconst 1, mI (nI 1)), (.iadd, mI 0)]
theorem kX3_stepOf_93 : mchk MX3_stepOf 93 bX3_stepOf_93 96 = true := by decide +kernel
theorem tX3_stepOf_96 : mbk MX3_stepOf 96 (.goto 5) 101 = true := by decide +kernel
def bX3_stepOf_99 : List mB := [(.bipush (-9), mI (-9))]
theorem kX3_stepOf_99 : mchk MX3_stepOf 99 bX3_stepOf_99 101 = true := by decide +kernel
theorem tX3_stepOf_101 : mrk MX3_stepOf 101 .ireturn = true := by decide +kernel
def bX3_farFromCatchers_0 : List mB := [(.bipush 99, mI (nI 99)), (.istore_n 2, mI 0), (.iconst 0, mI (nI 0)), (.istore_n 3, mI 0)]
theorem kX3_farFromCatchers_0 : mchk MX3_farFromCatchers 0 bX3_farFromCatchers_0 5 = true := by decide +kernel
def bX3_farFromCatchers_5 : List mB := [(.iload_n 3, mI 0), (.aload_n 0, mI 0), (.getfield 60, mR 3 7)]
theorem kX3_farFromCatchers_5 : mchk MX3_farFromCatchers 5 bX3_farFromCatchers_5 10 = true := by decide +kernel
theorem tX3_farFromCatchers_10 : mbk MX3_farFromCatchers 10 (.if_icmp .ge 42) 52 = true := by decide +kernel
def bX3_farFromCatchers_13 : List mB := [(.aload_n 0, mI 0), (.iload_n 3, mI 0)]
theorem kX3_farFromCatchers_13 : mchk MX3_farFromCatchers 13 bX3_farFromCatchers_13 15 = true := by decide +kernel
theorem tX3_farFromCatchers_15 : mdk MX3_farFromCatchers 15 (.invokevirtual 109) = true := by decide +kernel
theorem tX3_farFromCatchers_18 : mbk MX3_farFromCatchers 18 (.ifCond .eq 28) 46 = true := by decide +kernel
def bX3_farFromCatchers_21 : List mB := [(.iload_n 1, mI 0), (.aload_n 0, mI 0), (.getfield 16, mR 3 2), (.iload_n 3, mI 0), (.iaload, mI 0)]
theorem kX3_farFromCatchers_21 : mchk MX3_farFromCatchers 21 bX3_farFromCatchers_21 28 = true := by decide +kernel
theorem tX3_farFromCatchers_28 : mdk MX3_farFromCatchers 28 (.invokestatic 146) = true := by decide +kernel
def bX3_farFromCatchers_31 : List mB := [(.iload_n 2, mI 0)]
theorem kX3_farFromCatchers_31 : mchk MX3_farFromCatchers 31 bX3_farFromCatchers_31 32 = true := by decide +kernel
theorem tX3_farFromCatchers_32 : mbk MX3_farFromCatchers 32 (.if_icmp .ge 14) 46 = true := by decide +kernel
def bX3_farFromCatchers_35 : List mB := [(.iload_n 1, mI 0), (.aload_n 0, mI 0), (.getfield 16, mR 3 2), (.iload_n 3, mI 0), (.iaload, mI 0)]
theorem kX3_farFromCatchers_35 : mchk MX3_farFromCatchers 35 bX3_farFromCatchers_35 42 = true := by decide +kernel
theorem tX3_farFromCatchers_42 : mdk MX3_farFromCatchers 42 (.invokestatic 146) = true := by decide +kernel
def bX3_farFromCatchers_45 : List mB := [(.istore_n 2, mI 0)]
theorem kX3_farFromCatchers_45 : mchk MX3_farFromCatchers 45 bX3_farFromCatchers_45 46 = true := by decide +kernel
def bX3_farFromCatchers_46 : List mB := [(.iinc 3 1, mI (nI 1))]
theorem kX3_farFromCatchers_46 : mchk MX3_farFromCatchers 46 bX3_farFromCatchers_46 49 = true := by decide +kernel
theorem tX3_farFromCatchers_49 : mbk MX3_farFromCatchers 49 (.goto (-44)) 5 = true := by decide +kernel
def bX3_farFromCatchers_52 : List mB := [(.iload_n 2, mI 0)]
theorem kX3_farFromCatchers_52 : mchk MX3_farFromCatchers 52 bX3_farFromCatchers_52 53 = true := by decide +kernel
theorem tX3_farFromCatchers_53 : mrk MX3_farFromCatchers 53 .ireturn = true := by decide +kernel
def bX3_away_0 : List mB := [(.iload_n 1, mI 0), (.istore_n 2, mI 0), (.iconst 1, mI (nI 1)), (.istore_n 3, mI 0)]
theorem kX3_away_0 : mchk MX3_away 0 bX3_away_0 4 = true := by decide +kernel
def bX3_away_4 : List mB := [(.iload_n 3, mI 0), (.iconst 5, mI (nI 5))]
theorem kX3_away_4 : mchk MX3_away 4 bX3_away_4 6 = true := by decide +kernel
theorem tX3_away_6 : mbk MX3_away 6 (.if_icmp .ge 38) 44 = true := by decide +kernel
def bX3_away_9 : List mB := [(.iload_n 1, mI 0), (.iload_n 3, mI 0)]
theorem kX3_away_9 : mchk MX3_away 9 bX3_away_9 11 = true := by decide +kernel
theorem tX3_away_11 : mdk MX3_away 11 (.invokestatic 149) = true := by decide +kernel
def bX3_away_14 : List mB := [(.istore 4, mI 0), (.iload 4, mI 0)]
theorem kX3_away_14 : mchk MX3_away 14 bX3_away_14 18 = true := by decide +kernel
theorem tX3_away_18 : mbk MX3_away 18 (.ifCond .lt 20) 38 = true := by decide +kernel
def bX3_away_21 : List mB := [(.aload_n 0, mI 0), (.iload 4, mI 0)]
theorem kX3_away_21 : mchk MX3_away 21 bX3_away_21 24 = true := by decide +kernel
theorem tX3_away_24 : mdk MX3_away 24 (.invokevirtual 152) = true := by decide +kernel
def bX3_away_27 : List mB := [(.aload_n 0, mI 0), (.iload_n 2, mI 0)]
theorem kX3_away_27 : mchk MX3_away 27 bX3_away_27 29 = true := by decide +kernel
theorem tX3_away_29 : mdk MX3_away 29 (.invokevirtual 152) = true := by decide +kernel
theorem tX3_away_32 : mbk MX3_away 32 (.if_icmp .le 6) 38 = true := by decide +kernel
def bX3_away_35 : List mB := [(.iload 4, mI 0), (.istore_n 2, mI 0)]
theorem kX3_away_35 : mchk MX3_away 35 bX3_away_35 38 = true := by decide +kernel
def bX3_away_38 : List mB := [(.iinc 3 1, mI (nI 1))]
theorem kX3_away_38 : mchk MX3_away 38 bX3_away_38 41 = true := by decide +kernel
theorem tX3_away_41 : mbk MX3_away 41 (.goto (-37)) 4 = true := by decide +kernel
def bX3_away_44 : List mB := [(.iload_n 2, mI 0)]
theorem kX3_away_44 : mchk MX3_away 44 bX3_away_44 45 = true := by decide +kernel
theorem tX3_away_45 : mrk MX3_away 45 .ireturn = true := by decide +kernel
def bX3_toward_0 : List mB := [(.iload_n 0, mI 0), (.istore_n 2, mI 0), (.iconst 1, mI (nI 1)), (.istore_n 3, mI 0)]
theorem kX3_toward_0 : mchk MX3_toward 0 bX3_toward_0 4 = true := by decide +kernel
def bX3_toward_4 : List mB := [(.iload_n 3, mI 0), (.iconst 5, mI (nI 5))]
theorem kX3_toward_4 : mchk MX3_toward 4 bX3_toward_4 6 = true := by decide +kernel
theorem tX3_toward_6 : mbk MX3_toward 6 (.if_icmp .ge 38) 44 = true := by decide +kernel
def bX3_toward_9 : List mB := [(.iload_n 0, mI 0), (.iload_n 3, mI 0)]
theorem kX3_toward_9 : mchk MX3_toward 9 bX3_toward_9 11 = true := by decide +kernel
theorem tX3_toward_11 : mdk MX3_toward 11 (.invokestatic 149) = true := by decide +kernel
def bX3_toward_14 : List mB := [(.istore 4, mI 0), (.iload 4, mI 0)]
theorem kX3_toward_14 : mchk MX3_toward 14 bX3_toward_14 18 = true := by decide +kernel
theorem tX3_toward_18 : mbk MX3_toward 18 (.ifCond .lt 20) 38 = true := by decide +kernel
def bX3_toward_21 : List mB := [(.iload 4, mI 0), (.iload_n 1, mI 0)]
theorem kX3_toward_21 : mchk MX3_toward 21 bX3_toward_21 24 = true := by decide +kernel
theorem tX3_toward_24 : mdk MX3_toward 24 (.invokestatic 146) = true := by decide +kernel
def bX3_toward_27 : List mB := [(.iload_n 2, mI 0), (.iload_n 1, mI 0)]
theorem kX3_toward_27 : mchk MX3_toward 27 bX3_toward_27 29 = true := by decide +kernel
theorem tX3_toward_29 : mdk MX3_toward 29 (.invokestatic 146) = true := by decide +kernel
theorem tX3_toward_32 : mbk MX3_toward 32 (.if_icmp .ge 6) 38 = true := by decide +kernel
def bX3_toward_35 : List mB := [(.iload 4, mI 0), (.istore_n 2, mI 0)]
theorem kX3_toward_35 : mchk MX3_toward 35 bX3_toward_35 38 = true := by decide +kernel
def bX3_toward_38 : List mB := [(.iinc 3 1, mI (nI 1))]
theorem kX3_toward_38 : mchk MX3_toward 38 bX3_toward_38 41 = true := by decide +kernel
theorem tX3_toward_41 : mbk MX3_toward 41 (.goto (-37)) 4 = true := by decide +kernel
def bX3_toward_44 : List mB := [(.iload_n 2, mI 0)]
theorem kX3_toward_44 : mchk MX3_toward 44 bX3_toward_44 45 = true := by decide +kernel
theorem tX3_toward_45 : mrk MX3_toward 45 .ireturn = true := by decide +kernel
def bX3_doesMay_0 : List mB := [(.iload_n 2, mI 0), (.iload_n 1, mI 0)]
theorem kX3_doesMay_0 : mchk MX3_doesMay 0 bX3_doesMay_0 2 = true := by decide +kernel
theorem tX3_doesMay_2 : mbk MX3_doesMay 2 (.if_icmp .eq 47) 49 = true := by decide +kernel
def bX3_doesMay_5 : List mB := [(.aload_n 0, mI 0), (.getfield 22, mR 3 4), (.iload_n 2, mI 0), (.iaload, mI 0), (.iconst 1, mI (nI 1))]
theorem kX3_doesMay_5 : mchk MX3_doesMay 5 bX3_doesMay_5 12 = true := by decide +kernel
theorem tX3_doesMay_12 : mbk MX3_doesMay 12 (.if_icmp .ne 37) 49 = true := by decide +kernel
def bX3_doesMay_15 : List mB := [(.aload_n 0, mI 0), (.getfield 13, mR 3 1), (.iload_n 1, mI 0), (.iaload, mI 0), (.iconst 1, mI (nI 1))]
theorem kX3_doesMay_15 : mchk MX3_doesMay 15 bX3_doesMay_15 22 = true := by decide +kernel
theorem tX3_doesMay_22 : mbk MX3_doesMay 22 (.if_icmp .eq 23) 45 = true := by decide +kernel
def bX3_doesMay_25 : List mB := [(.aload_n 0, mI 0), (.getfield 13, mR 3 1), (.iload_n 1, mI 0), (.iaload, mI 0), (.iconst 2, mI (nI 2))]
theorem kX3_doesMay_25 : mchk MX3_doesMay 25 bX3_doesMay_25 32 = true := by decide +kernel
theorem tX3_doesMay_32 : mbk MX3_doesMay 32 (.if_icmp .ne 17) 49 = true := by decide +kernel
def bX3_doesMay_35 : List mB := [(.aload_n 0, mI 0), (.getfield 19, mR 3 3), (.iload_n 1, mI 0), (.iaload, mI 0), (.iload_n 2, mI 0)]
theorem kX3_doesMay_35 : mchk MX3_doesMay 35 bX3_doesMay_35 42 = true := by decide +kernel
theorem tX3_doesMay_42 : mbk MX3_doesMay 42 (.if_icmp .ne 7) 49 = true := by decide +kernel
def bX3_doesMay_45 : List mB := [(.iconst 1, mI (nI 1))]
theorem kX3_doesMay_45 : mchk MX3_doesMay 45 bX3_doesMay_45 46 = true := by decide +kernel
theorem tX3_doesMay_46 : mbk MX3_doesMay 46 (.goto 4) 50 = true := by decide +kernel
def bX3_doesMay_49 : List mB := [(.iconst 0, mI (nI 0))]
theorem kX3_doesMay_49 : mchk MX3_doesMay 49 bX3_doesMay_49 50 = true := by decide +kernel
theorem tX3_doesMay_50 : mrk MX3_doesMay 50 .ireturn = true := by decide +kernel
def bX3_nearMay_0 : List mB := [(.iconst 0, mI (nI 0)), (.istore_n 2, mI 0)]
theorem kX3_nearMay_0 : mchk MX3_nearMay 0 bX3_nearMay_0 2 = true := by decide +kernel
def bX3_nearMay_2 : List mB := [(.iload_n 2, mI 0), (.aload_n 0, mI 0), (.getfield 60, mR 3 7)]
theorem kX3_nearMay_2 : mchk MX3_nearMay 2 bX3_nearMay_2 7 = true := by decide +kernel
theorem tX3_nearMay_7 : mbk MX3_nearMay 7 (.if_icmp .ge 39) 46 = true := by decide +kernel
def bX3_nearMay_10 : List mB := [(.aload_n 0, mI 0), (.iload_n 1, mI 0), (.iload_n 2, mI 0)]
theorem kX3_nearMay_10 : mchk MX3_nearMay 10 bX3_nearMay_10 13 = true := by decide +kernel
theorem tX3_nearMay_13 : mdk MX3_nearMay 13 (.invokevirtual 155) = true := by decide +kernel
theorem tX3_nearMay_16 : mbk MX3_nearMay 16 (.ifCond .eq 24) 40 = true := by decide +kernel
def bX3_nearMay_19 : List mB := [(.aload_n 0, mI 0), (.getfield 16, mR 3 2), (.iload_n 1, mI 0), (.iaload, mI 0), (.aload_n 0, mI 0), (.getfield 16, mR 3 2), (.iload_n 2, mI 0), (.iaload, mI 0)]
theorem kX3_nearMay_19 : mchk MX3_nearMay 19 bX3_nearMay_19 31 = true := by decide +kernel
theorem tX3_nearMay_31 : mdk MX3_nearMay 31 (.invokestatic 146) = true := by decide +kernel
def bX3_nearMay_34 : List mB := [(.iconst 2, mI (nI 2))]
theorem kX3_nearMay_34 : mchk MX3_nearMay 34 bX3_nearMay_34 35 = true := by decide +kernel
theorem tX3_nearMay_35 : mbk MX3_nearMay 35 (.if_icmp .ge 5) 40 = true := by decide +kernel
def bX3_nearMay_38 : List mB := [(.iload_n 2, mI 0)]
theorem kX3_nearMay_38 : mchk MX3_nearMay 38 bX3_nearMay_38 39 = true := by decide +kernel
theorem tX3_nearMay_39 : mrk MX3_nearMay 39 .ireturn = true := by decide +kernel
def bX3_nearMay_40 : List mB := [(.iinc 2 1, mI (nI 1))]
theorem kX3_nearMay_40 : mchk MX3_nearMay 40 bX3_nearMay_40 43 = true := by decide +kernel
theorem tX3_nearMay_43 : mbk MX3_nearMay 43 (.goto (-41)) 2 = true := by decide +kernel
def bX3_nearMay_46 : List mB := [(.bipush (-9), mI (-9))]
theorem kX3_nearMay_46 : mchk MX3_nearMay 46 bX3_nearMay_46 48 = true := by decide +kernel
theorem tX3_nearMay_48 : mrk MX3_nearMay 48 .ireturn = true := by decide +kernel
def bX3_nearestMay_0 : List mB := [(.bipush (-9), mI (-9)), (.istore_n 2, mI 0), (.iconst 0, mI (nI 0)), (.istore_n 3, mI 0)]
theorem kX3_nearestMay_0 : mchk MX3_nearestMay 0 bX3_nearestMay_0 5 = true := by decide +kernel
def bX3_nearestMay_5 : List mB := [(.iload_n 3, mI 0), (.aload_n 0, mI 0), (.getfield 60, mR 3 7)]
theorem kX3_nearestMay_5 : mchk MX3_nearestMay 5 bX3_nearestMay_5 10 = true := by decide +kernel
theorem tX3_nearestMay_10 : mbk MX3_nearestMay 10 (.if_icmp .ge 57) 67 = true := by decide +kernel
def bX3_nearestMay_13 : List mB := [(.aload_n 0, mI 0), (.iload_n 1, mI 0), (.iload_n 3, mI 0)]
theorem kX3_nearestMay_13 : mchk MX3_nearestMay 13 bX3_nearestMay_13 16 = true := by decide +kernel
theorem tX3_nearestMay_16 : mdk MX3_nearestMay 16 (.invokevirtual 155) = true := by decide +kernel
theorem tX3_nearestMay_19 : mbk MX3_nearestMay 19 (.ifCond .eq 42) 61 = true := by decide +kernel
def bX3_nearestMay_22 : List mB := [(.iload_n 2, mI 0)]
theorem kX3_nearestMay_22 : mchk MX3_nearestMay 22 bX3_nearestMay_22 23 = true := by decide +kernel
theorem tX3_nearestMay_23 : mbk MX3_nearestMay 23 (.ifCond .lt 36) 59 = true := by decide +kernel
def bX3_nearestMay_26 : List mB := [(.aload_n 0, mI 0), (.getfield 16, mR 3 2), (.iload_n 1, mI 0), (.iaload, mI 0), (.aload_n 0, mI 0), (.getfield 16, mR 3 2), (.iload_n 3, mI 0), (.iaload, mI 0)]
theorem kX3_nearestMay_26 : mchk MX3_nearestMay 26 bX3_nearestMay_26 38 = true := by decide +kernel
theorem tX3_nearestMay_38 : mdk MX3_nearestMay 38 (.invokestatic 146) = true := by decide +kernel
def bX3_nearestMay_41 : List mB := [(.aload_n 0, mI 0), (.getfield 16, mR 3 2), (.iload_n 1, mI 0), (.iaload, mI 0), (.aload_n 0, mI 0), (.getfield 16, mR 3 2), (.iload_n 2, mI 0), (.iaload, mI 0)]
theorem kX3_nearestMay_41 : mchk MX3_nearestMay 41 bX3_nearestMay_41 53 = true := by decide +kernel
theorem tX3_nearestMay_53 : mdk MX3_nearestMay 53 (.invokestatic 146) = true := by decide +kernel
theorem tX3_nearestMay_56 : mbk MX3_nearestMay 56 (.if_icmp .ge 5) 61 = true := by decide +kernel
def bX3_nearestMay_59 : List mB := [(.iload_n 3, mI 0), (.istore_n 2, mI 0)]
theorem kX3_nearestMay_59 : mchk MX3_nearestMay 59 bX3_nearestMay_59 61 = true := by decide +kernel
def bX3_nearestMay_61 : List mB := [(.iinc 3 1, mI (nI 1))]
theorem kX3_nearestMay_61 : mchk MX3_nearestMay 61 bX3_nearestMay_61 64 = true := by decide +kernel
theorem tX3_nearestMay_64 : mbk MX3_nearestMay 64 (.goto (-59)) 5 = true := by decide +kernel
def bX3_nearestMay_67 : List mB := [(.iload_n 2, mI 0)]
theorem kX3_nearestMay_67 : mchk MX3_nearestMay 67 bX3_nearestMay_67 68 = true := by decide +kernel
theorem tX3_nearestMay_68 : mrk MX3_nearestMay 68 .ireturn = true := by decide +kernel
def bX3_free_0 : List mB := [(.aload_n 0, mI 0), (.getfield 22, mR 3 4), (.iload_n 2, mI 0), (.iconst 0, mI (nI 0)), (.iastore, mI 0), (.bipush 8, mI (nI 8)), (.iload_n 1, mI 0), (.imul, mI 0), (.iload_n 2, mI 0), (.iadd, mI 0), (.istore_n 3, mI 0), (.aload_n 0, mI 0), (.getfield 28, mR 3 6), (.iload_n 3, mI 0), (.aload_n 0, mI 0), (.getfield 28, mR 3 6), (.iload_n 3, mI 0), (.iaload, mI 0), (.bipush 99, mI (nI 99))]
theorem kX3_free_0 : mchk MX3_free 0 bX3_free_0 27 = true := by decide +kernel
theorem tX3_free_27 : mbk MX3_free 27 (.if_icmp .ge 14) 41 = true := by decide +kernel
def bX3_free_30 : List mB := [(.aload_n 0, mI 0), (.getfield 28, mR 3 6), (.iload_n 3, mI 0), (.iaload, mI 0), (.iconst 1, mI (nI 1)), (.iadd, mI 0)]
theorem kX3_free_30 : mchk MX3_free 30 bX3_free_30 38 = true := by decide +kernel
theorem tX3_free_38 : mbk MX3_free 38 (.goto 5) 43 = true := by decide +kernel
def bX3_free_41 : List mB := [(.bipush 99, mI (nI 99))]
theorem kX3_free_41 : mchk MX3_free 41 bX3_free_41 43 = true := by decide +kernel
def bX3_free_43 : List mB := [(.iastore, mI 0), (.aload_n 0, mI 0), (.dup, mI 0), (.getfield 158, mR 3 22), (.iconst 1, mI (nI 1)), (.iadd, mI 0), (.putfield 158, mR 3 22)]
theorem kX3_free_43 : mchk MX3_free 43 bX3_free_43 54 = true := by decide +kernel
theorem tX3_free_54 : mrk MX3_free 54 .return_ = true := by decide +kernel
def bX3_freesAll_0 : List mB := [(.aload_n 0, mI 0), (.iload_n 1, mI 0), (.iload_n 2, mI 0)]
theorem kX3_freesAll_0 : mchk MX3_freesAll 0 bX3_freesAll_0 3 = true := by decide +kernel
theorem tX3_freesAll_3 : mdk MX3_freesAll 3 (.invokevirtual 161) = true := by decide +kernel
def bX3_freesAll_6 : List mB := [(.iconst 0, mI (nI 0)), (.istore_n 3, mI 0)]
theorem kX3_freesAll_6 : mchk MX3_freesAll 6 bX3_freesAll_6 8 = true := by decide +kernel
def bX3_freesAll_8 : List mB := [(.iload_n 3, mI 0), (.aload_n 0, mI 0), (.getfield 60, mR 3 7)]
theorem kX3_freesAll_8 : mchk MX3_freesAll 8 bX3_freesAll_8 13 = true := by decide +kernel
theorem tX3_freesAll_13 : mbk MX3_freesAll 13 (.if_icmp .ge 57) 70 = true := by decide +kernel
def bX3_freesAll_16 : List mB := [(.aload_n 0, mI 0), (.getfield 112, mR 3 8), (.iconst 2, mI (nI 2))]
theorem kX3_freesAll_16 : mchk MX3_freesAll 16 bX3_freesAll_16 21 = true := by decide +kernel
theorem tX3_freesAll_21 : mbk MX3_freesAll 21 (.if_icmp .ne 49) 70 = true := by decide +kernel
def bX3_freesAll_24 : List mB := [(.iload_n 3, mI 0), (.iload_n 1, mI 0)]
theorem kX3_freesAll_24 : mchk MX3_freesAll 24 bX3_freesAll_24 26 = true := by decide +kernel
theorem tX3_freesAll_26 : mbk MX3_freesAll 26 (.if_icmp .eq 38) 64 = true := by decide +kernel
def bX3_freesAll_29 : List mB := [(.aload_n 0, mI 0), (.getfield 22, mR 3 4), (.iload_n 3, mI 0), (.iaload, mI 0), (.iconst 1, mI (nI 1))]
theorem kX3_freesAll_29 : mchk MX3_freesAll 29 bX3_freesAll_29 36 = true := by decide +kernel
theorem tX3_freesAll_36 : mbk MX3_freesAll 36 (.if_icmp .ne 28) 64 = true := by decide +kernel
def bX3_freesAll_39 : List mB := [(.aload_n 0, mI 0), (.getfield 16, mR 3 2), (.iload_n 1, mI 0), (.iaload, mI 0), (.aload_n 0, mI 0), (.getfield 16, mR 3 2), (.iload_n 3, mI 0), (.iaload, mI 0)]
theorem kX3_freesAll_39 : mchk MX3_freesAll 39 bX3_freesAll_39 51 = true := by decide +kernel
theorem tX3_freesAll_51 : mdk MX3_freesAll 51 (.invokestatic 146) = true := by decide +kernel
def bX3_freesAll_54 : List mB := [(.iconst 2, mI (nI 2))]
theorem kX3_freesAll_54 : mchk MX3_freesAll 54 bX3_freesAll_54 55 = true := by decide +kernel
theorem tX3_freesAll_55 : mbk MX3_freesAll 55 (.if_icmp .ge 9) 64 = true := by decide +kernel
def bX3_freesAll_58 : List mB := [(.aload_n 0, mI 0), (.iload_n 1, mI 0), (.iload_n 3, mI 0)]
theorem kX3_freesAll_58 : mchk MX3_freesAll 58 bX3_freesAll_58 61 = true := by decide +kernel
theorem tX3_freesAll_61 : mdk MX3_freesAll 61 (.invokevirtual 161) = true := by decide +kernel
def bX3_freesAll_64 : List mB := [(.iinc 3 1, mI (nI 1))]
theorem kX3_freesAll_64 : mchk MX3_freesAll 64 bX3_freesAll_64 67 = true := by decide +kernel
theorem tX3_freesAll_67 : mbk MX3_freesAll 67 (.goto (-59)) 8 = true := by decide +kernel
theorem tX3_freesAll_70 : mrk MX3_freesAll 70 .return_ = true := by decide +kernel
def bX3_runsTo_0 : List mB := [(.aload_n 0, mI 0), (.getfield 13, mR 3 1), (.iload_n 1, mI 0), (.iaload, mI 0), (.iconst 3, mI (nI 3))]
theorem kX3_runsTo_0 : mchk MX3_runsTo 0 bX3_runsTo_0 7 = true := by decide +kernel
theorem tX3_runsTo_7 : mbk MX3_runsTo 7 (.if_icmp .ne 49) 56 = true := by decide +kernel
def bX3_runsTo_10 : List mB := [(.aload_n 0, mI 0), (.getfield 16, mR 3 2), (.iload_n 1, mI 0), (.iaload, mI 0)]
theorem kX3_runsTo_10 : mchk MX3_runsTo 10 bX3_runsTo_10 16 = true := by decide +kernel
theorem tX3_runsTo_16 : mdk MX3_runsTo 16 (.invokestatic 165) = true := by decide +kernel
theorem tX3_runsTo_19 : mbk MX3_runsTo 19 (.ifCond .eq 26) 45 = true := by decide +kernel
def bX3_runsTo_22 : List mB := [(.aload_n 0, mI 0), (.aload_n 0, mI 0), (.getfield 16, mR 3 2), (.iload_n 1, mI 0), (.iaload, mI 0)]
theorem kX3_runsTo_22 : mchk MX3_runsTo 22 bX3_runsTo_22 29 = true := by decide +kernel
theorem tX3_runsTo_29 : mdk MX3_runsTo 29 (.invokevirtual 152) = true := by decide +kernel
def bX3_runsTo_32 : List mB := [(.iconst 1, mI (nI 1))]
theorem kX3_runsTo_32 : mchk MX3_runsTo 32 bX3_runsTo_32 33 = true := by decide +kernel
theorem tX3_runsTo_33 : mbk MX3_runsTo 33 (.if_icmp .le 12) 45 = true := by decide +kernel
def bX3_runsTo_36 : List mB := [(.aload_n 0, mI 0), (.getfield 16, mR 3 2), (.iload_n 1, mI 0), (.iaload, mI 0)]
theorem kX3_runsTo_36 : mchk MX3_runsTo 36 bX3_runsTo_36 42 = true := by decide +kernel
theorem tX3_runsTo_42 : mbk MX3_runsTo 42 (.goto 13) 55 = true := by decide +kernel
def bX3_runsTo_45 : List mB := [(.aload_n 0, mI 0), (.aload_n 0, mI 0), (.getfield 16, mR 3 2), (.iload_n 1, mI 0), (.iaload, mI 0)]
theorem kX3_runsTo_45 : mchk MX3_runsTo 45 bX3_runsTo_45 52 = true := by decide +kernel
theorem tX3_runsTo_52 : mdk MX3_runsTo 52 (.invokevirtual 168) = true := by decide +kernel
theorem tX3_runsTo_55 : mrk MX3_runsTo 55 .ireturn = true := by decide +kernel
def bX3_runsTo_56 : List mB := [(.aload_n 0, mI 0), (.iload_n 1, mI 0)]
theorem kX3_runsTo_56 : mchk MX3_runsTo 56 bX3_runsTo_56 58 = true := by decide +kernel
theorem tX3_runsTo_58 : mdk MX3_runsTo 58 (.invokevirtual 171) = true := by decide +kernel
def bX3_runsTo_61 : List mB := [(.istore_n 2, mI 0), (.iload_n 2, mI 0)]
theorem kX3_runsTo_61 : mchk MX3_runsTo 61 bX3_runsTo_61 63 = true := by decide +kernel
theorem tX3_runsTo_63 : mbk MX3_runsTo 63 (.ifCond .lt 16) 79 = true := by decide +kernel
def bX3_runsTo_66 : List mB := [(.aload_n 0, mI 0), (.iload_n 1, mI 0), (.iload_n 2, mI 0)]
theorem kX3_runsTo_66 : mchk MX3_runsTo 66 bX3_runsTo_66 69 = true := by decide +kernel
theorem tX3_runsTo_69 : mdk MX3_runsTo 69 (.invokevirtual 174) = true := by decide +kernel
def bX3_runsTo_72 : List mB := [(.aload_n 0, mI 0), (.getfield 16, mR 3 2), (.iload_n 1, mI 0), (.iaload, mI 0)]
theorem kX3_runsTo_72 : mchk MX3_runsTo 72 bX3_runsTo_72 78 = true := by decide +kernel
theorem tX3_runsTo_78 : mrk MX3_runsTo 78 .ireturn = true := by decide +kernel
def bX3_runsTo_79 : List mB := [(.aload_n 0, mI 0), (.iload_n 1, mI 0)]
theorem kX3_runsTo_79 : mchk MX3_runsTo 79 bX3_runsTo_79 81 = true := by decide +kernel
theorem tX3_runsTo_81 : mdk MX3_runsTo 81 (.invokevirtual 177) = true := by decide +kernel
def bX3_runsTo_84 : List mB := [(.istore_n 3, mI 0), (.iload_n 3, mI 0)]
theorem kX3_runsTo_84 : mchk MX3_runsTo 84 bX3_runsTo_84 86 = true := by decide +kernel
theorem tX3_runsTo_86 : mbk MX3_runsTo 86 (.ifCond .lt 35) 121 = true := by decide +kernel
def bX3_runsTo_89 : List mB := [(.aload_n 0, mI 0), (.aload_n 0, mI 0), (.getfield 16, mR 3 2), (.iload_n 1, mI 0), (.iaload, mI 0)]
theorem kX3_runsTo_89 : mchk MX3_runsTo 89 bX3_runsTo_89 96 = true := by decide +kernel
theorem tX3_runsTo_96 : mdk MX3_runsTo 96 (.invokevirtual 152) = true := by decide +kernel
def bX3_runsTo_99 : List mB := [(.iconst 1, mI (nI 1))]
theorem kX3_runsTo_99 : mchk MX3_runsTo 99 bX3_runsTo_99 100 = true := by decide +kernel
theorem tX3_runsTo_100 : mbk MX3_runsTo 100 (.if_icmp .le 21) 121 = true := by decide +kernel
def bX3_runsTo_103 : List mB := [(.aload_n 0, mI 0), (.getfield 16, mR 3 2), (.iload_n 1, mI 0), (.iaload, mI 0), (.aload_n 0, mI 0), (.getfield 16, mR 3 2), (.iload_n 3, mI 0), (.iaload, mI 0)]
theorem kX3_runsTo_103 : mchk MX3_runsTo 103 bX3_runsTo_103 115 = true := by decide +kernel
theorem tX3_runsTo_115 : mdk MX3_runsTo 115 (.invokestatic 180) = true := by decide +kernel
theorem tX3_runsTo_118 : mbk MX3_runsTo 118 (.goto 13) 131 = true := by decide +kernel
def bX3_runsTo_121 : List mB := [(.aload_n 0, mI 0), (.aload_n 0, mI 0), (.getfield 16, mR 3 2), (.iload_n 1, mI 0), (.iaload, mI 0)]
theorem kX3_runsTo_121 : mchk MX3_runsTo 121 bX3_runsTo_121 128 = true := by decide +kernel
theorem tX3_runsTo_128 : mdk MX3_runsTo 128 (.invokevirtual 168) = true := by decide +kernel
theorem tX3_runsTo_131 : mrk MX3_runsTo 131 .ireturn = true := by decide +kernel
def bX3_isRunner_0 : List mB := [(.aload_n 0, mI 0), (.iload_n 1, mI 0)]
theorem kX3_isRunner_0 : mchk MX3_isRunner 0 bX3_isRunner_0 2 = true := by decide +kernel
theorem tX3_isRunner_2 : mdk MX3_isRunner 2 (.invokevirtual 109) = true := by decide +kernel
theorem tX3_isRunner_5 : mbk MX3_isRunner 5 (.ifCond .ne 16) 21 = true := by decide +kernel
def bX3_isRunner_8 : List mB := [(.aload_n 0, mI 0), (.getfield 22, mR 3 4), (.iload_n 1, mI 0), (.iaload, mI 0)]
theorem kX3_isRunner_8 : mchk MX3_isRunner 8 bX3_isRunner_8 14 = true := by decide +kernel
theorem tX3_isRunner_14 : mbk MX3_isRunner 14 (.ifCond .ne 7) 21 = true := by decide +kernel
def bX3_isRunner_17 : List mB := [(.iconst 1, mI (nI 1))]
theorem kX3_isRunner_17 : mchk MX3_isRunner 17 bX3_isRunner_17 18 = true := by decide +kernel
theorem tX3_isRunner_18 : mbk MX3_isRunner 18 (.goto 4) 22 = true := by decide +kernel
def bX3_isRunner_21 : List mB := [(.iconst 0, mI (nI 0))]
theorem kX3_isRunner_21 : mchk MX3_isRunner 21 bX3_isRunner_21 22 = true := by decide +kernel
theorem tX3_isRunner_22 : mrk MX3_isRunner 22 .ireturn = true := by decide +kernel
def bX3_touches_0 : List mB := [(.iconst 0, mI (nI 0)), (.istore_n 2, mI 0)]
theorem kX3_touches_0 : mchk MX3_touches 0 bX3_touches_0 2 = true := by decide +kernel
def bX3_touches_2 : List mB := [(.iload_n 2, mI 0), (.aload_n 0, mI 0), (.getfield 60, mR 3 7)]
theorem kX3_touches_2 : mchk MX3_touches 2 bX3_touches_2 7 = true := by decide +kernel
theorem tX3_touches_7 : mbk MX3_touches 7 (.if_icmp .ge 76) 83 = true := by decide +kernel
def bX3_touches_10 : List mB := [(.aload_n 0, mI 0), (.iload_n 2, mI 0)]
theorem kX3_touches_10 : mchk MX3_touches 10 bX3_touches_10 12 = true := by decide +kernel
theorem tX3_touches_12 : mdk MX3_touches 12 (.invokevirtual 183) = true := by decide +kernel
theorem tX3_touches_15 : mbk MX3_touches 15 (.ifCond .eq 62) 77 = true := by decide +kernel
def bX3_touches_18 : List mB := [(.iload_n 2, mI 0), (.aload_n 0, mI 0), (.getfield 46, mR 3 21)]
theorem kX3_touches_18 : mchk MX3_touches 18 bX3_touches_18 23 = true := by decide +kernel
theorem tX3_touches_23 : mbk MX3_touches 23 (.if_icmp .eq 54) 77 = true := by decide +kernel
def bX3_touches_26 : List mB := [(.aload_n 0, mI 0), (.getfield 16, mR 3 2), (.iload_n 1, mI 0), (.iaload, mI 0), (.aload_n 0, mI 0), (.getfield 16, mR 3 2), (.iload_n 2, mI 0), (.iaload, mI 0)]
theorem kX3_touches_26 : mchk MX3_touches 26 bX3_touches_26 38 = true := by decide +kernel
theorem tX3_touches_38 : mdk MX3_touches 38 (.invokestatic 146) = true := by decide +kernel
def bX3_touches_41 : List mB := [(.iconst 1, mI (nI 1))]
theorem kX3_touches_41 : mchk MX3_touches 41 bX3_touches_41 42 = true := by decide +kernel
theorem tX3_touches_42 : mbk MX3_touches 42 (.if_icmp .gt 35) 77 = true := by decide +kernel
def bX3_touches_45 : List mB := [(.aload_n 0, mI 0), (.getfield 112, mR 3 8), (.iconst 1, mI (nI 1))]
theorem kX3_touches_45 : mchk MX3_touches 45 bX3_touches_45 50 = true := by decide +kernel
theorem tX3_touches_50 : mbk MX3_touches 50 (.if_icmp .ne 18) 68 = true := by decide +kernel
def bX3_touches_53 : List mB := [(.aload_n 0, mI 0), (.getfield 16, mR 3 2), (.iload_n 2, mI 0), (.iaload, mI 0)]
theorem kX3_touches_53 : mchk MX3_touches 53 bX3_touches_53 59 = true := by decide +kernel
theorem tX3_touches_59 : mdk MX3_touches 59 (.invokestatic 165) = true := by decide +kernel
theorem tX3_touches_62 : mbk MX3_touches 62 (.ifCond .eq 6) 68 = true := by decide +kernel
theorem tX3_touches_65 : mbk MX3_touches 65 (.goto 12) 77 = true := by decide +kernel
def bX3_touches_68 : List mB := [(.aload_n 0, mI 0), (.getfield 22, mR 3 4), (.iload_n 2, mI 0), (.iconst 1, mI (nI 1)), (.iastore, mI 0), (.iconst 1, mI (nI 1))]
theorem kX3_touches_68 : mchk MX3_touches 68 bX3_touches_68 76 = true := by decide +kernel
theorem tX3_touches_76 : mrk MX3_touches 76 .ireturn = true := by decide +kernel
def bX3_touches_77 : List mB := [(.iinc 2 1, mI (nI 1))]
theorem kX3_touches_77 : mchk MX3_touches 77 bX3_touches_77 80 = true := by decide +kernel
theorem tX3_touches_80 : mbk MX3_touches 80 (.goto (-78)) 2 = true := by decide +kernel
def bX3_touches_83 : List mB := [(.iconst 0, mI (nI 0))]
theorem kX3_touches_83 : mchk MX3_touches 83 bX3_touches_83 84 = true := by decide +kernel
theorem tX3_touches_84 : mrk MX3_touches 84 .ireturn = true := by decide +kernel
def bX3_nearest_0 : List mB := [(.bipush (-9), mI (-9)), (.istore_n 3, mI 0), (.iconst 0, mI (nI 0)), (.istore 4, mI 0)]
theorem kX3_nearest_0 : mchk MX3_nearest 0 bX3_nearest_0 6 = true := by decide +kernel
def bX3_nearest_6 : List mB := [(.iload 4, mI 0), (.aload_n 0, mI 0), (.getfield 60, mR 3 7)]
theorem kX3_nearest_6 : mchk MX3_nearest 6 bX3_nearest_6 12 = true := by decide +kernel
theorem tX3_nearest_12 : mbk MX3_nearest 12 (.if_icmp .ge 73) 85 = true := by decide +kernel
def bX3_nearest_15 : List mB := [(.aload_n 0, mI 0), (.iload 4, mI 0)]
theorem kX3_nearest_15 : mchk MX3_nearest 15 bX3_nearest_15 18 = true := by decide +kernel
theorem tX3_nearest_18 : mdk MX3_nearest 18 (.invokevirtual 109) = true := by decide +kernel
theorem tX3_nearest_21 : mbk MX3_nearest 21 (.ifCond .ne 58) 79 = true := by decide +kernel
def bX3_nearest_24 : List mB := [(.aload_n 0, mI 0), (.getfield 22, mR 3 4), (.iload 4, mI 0), (.iaload, mI 0), (.iload_n 2, mI 0)]
theorem kX3_nearest_24 : mchk MX3_nearest 24 bX3_nearest_24 32 = true := by decide +kernel
theorem tX3_nearest_32 : mbk MX3_nearest 32 (.if_icmp .eq 6) 38 = true := by decide +kernel
theorem tX3_nearest_35 : mbk MX3_nearest 35 (.goto 44) 79 = true := by decide +kernel
def bX3_nearest_38 : List mB := [(.iload_n 3, mI 0)]
theorem kX3_nearest_38 : mchk MX3_nearest 38 bX3_nearest_38 39 = true := by decide +kernel
theorem tX3_nearest_39 : mbk MX3_nearest 39 (.ifCond .lt 37) 76 = true := by decide +kernel
def bX3_nearest_42 : List mB := [(.aload_n 0, mI 0), (.getfield 16, mR 3 2), (.iload_n 1, mI 0), (.iaload, mI 0), (.aload_n 0, mI 0), (.getfield 16, mR 3 2), (.iload 4, mI 0), (.iaload, mI 0)]
theorem kX3_nearest_42 : mchk MX3_nearest 42 bX3_nearest_42 55 = true := by decide +kernel
theorem tX3_nearest_55 : mdk MX3_nearest 55 (.invokestatic 146) = true := by decide +kernel
def bX3_nearest_58 : List mB := [(.aload_n 0, mI 0), (.getfield 16, mR 3 2), (.iload_n 1, mI 0), (.iaload, mI 0), (.aload_n 0, mI 0), (.getfield 16, mR 3 2), (.iload_n 3, mI 0), (.iaload, mI 0)]
theorem kX3_nearest_58 : mchk MX3_nearest 58 bX3_nearest_58 70 = true := by decide +kernel
theorem tX3_nearest_70 : mdk MX3_nearest 70 (.invokestatic 146) = true := by decide +kernel
theorem tX3_nearest_73 : mbk MX3_nearest 73 (.if_icmp .ge 6) 79 = true := by decide +kernel
def bX3_nearest_76 : List mB := [(.iload 4, mI 0), (.istore_n 3, mI 0)]
theorem kX3_nearest_76 : mchk MX3_nearest 76 bX3_nearest_76 79 = true := by decide +kernel
def bX3_nearest_79 : List mB := [(.iinc 4 1, mI (nI 1))]
theorem kX3_nearest_79 : mchk MX3_nearest 79 bX3_nearest_79 82 = true := by decide +kernel
theorem tX3_nearest_82 : mbk MX3_nearest 82 (.goto (-76)) 6 = true := by decide +kernel
def bX3_nearest_85 : List mB := [(.iload_n 3, mI 0)]
theorem kX3_nearest_85 : mchk MX3_nearest 85 bX3_nearest_85 86 = true := by decide +kernel
theorem tX3_nearest_86 : mrk MX3_nearest 86 .ireturn = true := by decide +kernel
def bX3_hunts_0 : List mB := [(.aload_n 0, mI 0), (.iload_n 1, mI 0), (.iconst 0, mI (nI 0))]
theorem kX3_hunts_0 : mchk MX3_hunts 0 bX3_hunts_0 3 = true := by decide +kernel
theorem tX3_hunts_3 : mdk MX3_hunts 3 (.invokevirtual 186) = true := by decide +kernel
def bX3_hunts_6 : List mB := [(.istore_n 2, mI 0), (.iload_n 2, mI 0)]
theorem kX3_hunts_6 : mchk MX3_hunts 6 bX3_hunts_6 8 = true := by decide +kernel
theorem tX3_hunts_8 : mbk MX3_hunts 8 (.ifCond .ge 12) 20 = true := by decide +kernel
def bX3_hunts_11 : List mB := [(.aload_n 0, mI 0), (.getfield 16, mR 3 2), (.iload_n 1, mI 0), (.iaload, mI 0)]
theorem kX3_hunts_11 : mchk MX3_hunts 11 bX3_hunts_11 17 = true := by decide +kernel
theorem tX3_hunts_17 : mbk MX3_hunts 17 (.goto 18) 35 = true := by decide +kernel
def bX3_hunts_20 : List mB := [(.aload_n 0, mI 0), (.getfield 16, mR 3 2), (.iload_n 1, mI 0), (.iaload, mI 0), (.aload_n 0, mI 0), (.getfield 16, mR 3 2), (.iload_n 2, mI 0), (.iaload, mI 0)]
theorem kX3_hunts_20 : mchk MX3_hunts 20 bX3_hunts_20 32 = true := by decide +kernel
theorem tX3_hunts_32 : mdk MX3_hunts 32 (.invokestatic 180) = true := by decide +kernel
theorem tX3_hunts_35 : mrk MX3_hunts 35 .ireturn = true := by decide +kernel
def bX3_catches_0 : List mB := [(.aload_n 0, mI 0), (.getfield 13, mR 3 1), (.iload_n 1, mI 0), (.iaload, mI 0), (.bipush 7, mI (nI 7))]
theorem kX3_catches_0 : mchk MX3_catches 0 bX3_catches_0 8 = true := by decide +kernel
theorem tX3_catches_8 : mbk MX3_catches 8 (.if_icmp .ne 12) 20 = true := by decide +kernel
def bX3_catches_11 : List mB := [(.aload_n 0, mI 0), (.getfield 140, mR 3 9), (.iconst 3, mI (nI 3)), (.irem, mI 0)]
theorem kX3_catches_11 : mchk MX3_catches 11 bX3_catches_11 17 = true := by decide +kernel
theorem tX3_catches_17 : mbk MX3_catches 17 (.ifCond .eq 11) 28 = true := by decide +kernel
def bX3_catches_20 : List mB := [(.aload_n 0, mI 0), (.iload_n 1, mI 0)]
theorem kX3_catches_20 : mchk MX3_catches 20 bX3_catches_20 22 = true := by decide +kernel
theorem tX3_catches_22 : mdk MX3_catches 22 (.invokevirtual 189) = true := by decide +kernel
theorem tX3_catches_25 : mbk MX3_catches 25 (.ifCond .eq 4) 29 = true := by decide +kernel
theorem tX3_catches_28 : mrk MX3_catches 28 .return_ = true := by decide +kernel
def bX3_catches_29 : List mB := [(.aload_n 0, mI 0), (.iload_n 1, mI 0), (.iconst 1, mI (nI 1))]
theorem kX3_catches_29 : mchk MX3_catches 29 bX3_catches_29 32 = true := by decide +kernel
theorem tX3_catches_32 : mdk MX3_catches 32 (.invokevirtual 186) = true := by decide +kernel
def bX3_catches_35 : List mB := [(.istore_n 2, mI 0), (.iload_n 2, mI 0)]
theorem kX3_catches_35 : mchk MX3_catches 35 bX3_catches_35 37 = true := by decide +kernel
theorem tX3_catches_37 : mbk MX3_catches 37 (.ifCond .lt 24) 61 = true := by decide +kernel
def bX3_catches_40 : List mB := [(.aload_n 0, mI 0), (.getfield 13, mR 3 1), (.iload_n 1, mI 0), (.iaload, mI 0), (.iconst 4, mI (nI 4))]
theorem kX3_catches_40 : mchk MX3_catches 40 bX3_catches_40 47 = true := by decide +kernel
theorem tX3_catches_47 : mbk MX3_catches 47 (.if_icmp .eq 14) 61 = true := by decide +kernel
def bX3_catches_50 : List mB := [(.aload_n 0, mI 0), (.getfield 13, mR 3 1), (.iload_n 1, mI 0), (.iaload, mI 0), (.bipush 7, mI (nI 7))]
theorem kX3_catches_50 : mchk MX3_catches 50 bX3_catches_50 58 = true := by decide +kernel
theorem tX3_catches_58 : mbk MX3_catches 58 (.if_icmp .ne 15) 73 = true := by decide +kernel
def bX3_catches_61 : List mB := [(.aload_n 0, mI 0), (.getfield 16, mR 3 2), (.iload_n 1, mI 0), (.aload_n 0, mI 0), (.iload_n 1, mI 0)]
theorem kX3_catches_61 : mchk MX3_catches 61 bX3_catches_61 68 = true := by decide +kernel
theorem tX3_catches_68 : mdk MX3_catches 68 (.invokevirtual 192) = true := by decide +kernel
def bX3_catches_71 : List mB := [(.iastore, mI 0)]
theorem kX3_catches_71 : mchk MX3_catches 71 bX3_catches_71 72 = true := by decide +kernel
theorem tX3_catches_72 : mrk MX3_catches 72 .return_ = true := by decide +kernel
def bX3_catches_73 : List mB := [(.aload_n 0, mI 0), (.getfield 13, mR 3 1), (.iload_n 1, mI 0), (.iaload, mI 0), (.iconst 5, mI (nI 5))]
theorem kX3_catches_73 : mchk MX3_catches 73 bX3_catches_73 80 = true := by decide +kernel
theorem tX3_catches_80 : mbk MX3_catches 80 (.if_icmp .ne 43) 123 = true := by decide +kernel
def bX3_catches_83 : List mB := [(.aload_n 0, mI 0), (.getfield 16, mR 3 2), (.iload_n 1, mI 0), (.iaload, mI 0), (.aload_n 0, mI 0), (.getfield 16, mR 3 2), (.iload_n 2, mI 0), (.iaload, mI 0)]
theorem kX3_catches_83 : mchk MX3_catches 83 bX3_catches_83 95 = true := by decide +kernel
theorem tX3_catches_95 : mdk MX3_catches 95 (.invokestatic 146) = true := by decide +kernel
def bX3_catches_98 : List mB := [(.iconst 1, mI (nI 1))]
theorem kX3_catches_98 : mchk MX3_catches 98 bX3_catches_98 99 = true := by decide +kernel
theorem tX3_catches_99 : mbk MX3_catches 99 (.if_icmp .le 24) 123 = true := by decide +kernel
def bX3_catches_102 : List mB := [(.aload_n 0, mI 0), (.getfield 16, mR 3 2), (.iload_n 1, mI 0), (.aload_n 0, mI 0), (.getfield 16, mR 3 2), (.iload_n 1, mI 0), (.iaload, mI 0), (.aload_n 0, mI 0), (.getfield 16, mR 3 2), (.iload_n 2, mI 0), (.iaload, mI 0)]
theorem kX3_catches_102 : mchk MX3_catches 102 bX3_catches_102 119 = true := by decide +kernel
theorem tX3_catches_119 : mdk MX3_catches 119 (.invokestatic 180) = true := by decide +kernel
def bX3_catches_122 : List mB := [(.iastore, mI 0)]
theorem kX3_catches_122 : mchk MX3_catches 122 bX3_catches_122 123 = true := by decide +kernel
theorem tX3_catches_123 : mrk MX3_catches 123 .return_ = true := by decide +kernel
def bX3_less_0 : List mB := [(.iload_n 0, mI 0)]
theorem kX3_less_0 : mchk MX3_less 0 bX3_less_0 1 = true := by decide +kernel
theorem tX3_less_1 : mbk MX3_less 1 (.ifCond .le 9) 10 = true := by decide +kernel
def bX3_less_4 : List mB := [(.iload_n 0, mI 0), (.iconst 1, mI (nI 1)), (.isub, mI 0)]
theorem kX3_less_4 : mchk MX3_less 4 bX3_less_4 7 = true := by decide +kernel
theorem tX3_less_7 : mbk MX3_less 7 (.goto 4) 11 = true := by decide +kernel
def bX3_less_10 : List mB := [(.iconst 0, mI (nI 0))]
theorem kX3_less_10 : mchk MX3_less 10 bX3_less_10 11 = true := by decide +kernel
theorem tX3_less_11 : mrk MX3_less 11 .ireturn = true := by decide +kernel
def bX3_goesOn_0 : List mB := [(.aload_n 0, mI 0), (.iload_n 1, mI 0)]
theorem kX3_goesOn_0 : mchk MX3_goesOn 0 bX3_goesOn_0 2 = true := by decide +kernel
theorem tX3_goesOn_2 : mdk MX3_goesOn 2 (.invokevirtual 109) = true := by decide +kernel
theorem tX3_goesOn_5 : mbk MX3_goesOn 5 (.ifCond .eq 9) 14 = true := by decide +kernel
def bX3_goesOn_8 : List mB := [(.aload_n 0, mI 0), (.iload_n 1, mI 0)]
theorem kX3_goesOn_8 : mchk MX3_goesOn 8 bX3_goesOn_8 10 = true := by decide +kernel
theorem tX3_goesOn_10 : mdk MX3_goesOn 10 (.invokevirtual 195) = true := by decide +kernel
theorem tX3_goesOn_13 : mrk MX3_goesOn 13 .return_ = true := by decide +kernel
def bX3_goesOn_14 : List mB := [(.aload_n 0, mI 0), (.getfield 22, mR 3 4), (.iload_n 1, mI 0), (.iaload, mI 0), (.iconst 1, mI (nI 1))]
theorem kX3_goesOn_14 : mchk MX3_goesOn 14 bX3_goesOn_14 21 = true := by decide +kernel
theorem tX3_goesOn_21 : mbk MX3_goesOn 21 (.if_icmp .eq 11) 32 = true := by decide +kernel
def bX3_goesOn_24 : List mB := [(.iload_n 1, mI 0), (.aload_n 0, mI 0), (.getfield 46, mR 3 21)]
theorem kX3_goesOn_24 : mchk MX3_goesOn 24 bX3_goesOn_24 29 = true := by decide +kernel
theorem tX3_goesOn_29 : mbk MX3_goesOn 29 (.if_icmp .ne 19) 48 = true := by decide +kernel
def bX3_goesOn_32 : List mB := [(.aload_n 0, mI 0), (.getfield 25, mR 3 5), (.iload_n 1, mI 0), (.aload_n 0, mI 0), (.getfield 25, mR 3 5), (.iload_n 1, mI 0), (.iaload, mI 0)]
theorem kX3_goesOn_32 : mchk MX3_goesOn 32 bX3_goesOn_32 43 = true := by decide +kernel
theorem tX3_goesOn_43 : mdk MX3_goesOn 43 (.invokestatic 199) = true := by decide +kernel
def bX3_goesOn_46 : List mB := [(.iastore, mI 0)]
theorem kX3_goesOn_46 : mchk MX3_goesOn 46 bX3_goesOn_46 47 = true := by decide +kernel
theorem tX3_goesOn_47 : mrk MX3_goesOn 47 .return_ = true := by decide +kernel
def bX3_goesOn_48 : List mB := [(.aload_n 0, mI 0), (.getfield 25, mR 3 5), (.iload_n 1, mI 0), (.iaload, mI 0), (.bipush 9, mI (nI 9))]
theorem kX3_goesOn_48 : mchk MX3_goesOn 48 bX3_goesOn_48 56 = true := by decide +kernel
theorem tX3_goesOn_56 : mbk MX3_goesOn 56 (.if_icmp .ne 11) 67 = true := by decide +kernel
def bX3_goesOn_59 : List mB := [(.aload_n 0, mI 0), (.getfield 25, mR 3 5), (.iload_n 1, mI 0), (.iconst 0, mI (nI 0)), (.iastore, mI 0)]
theorem kX3_goesOn_59 : mchk MX3_goesOn 59 bX3_goesOn_59 66 = true := by decide +kernel
theorem tX3_goesOn_66 : mrk MX3_goesOn 66 .return_ = true := by decide +kernel
def bX3_goesOn_67 : List mB := [(.aload_n 0, mI 0), (.iload_n 1, mI 0)]
theorem kX3_goesOn_67 : mchk MX3_goesOn 67 bX3_goesOn_67 69 = true := by decide +kernel
theorem tX3_goesOn_69 : mdk MX3_goesOn 69 (.invokevirtual 202) = true := by decide +kernel
def bX3_goesOn_72 : List mB := [(.istore_n 2, mI 0), (.aload_n 0, mI 0), (.getfield 25, mR 3 5), (.iload_n 1, mI 0), (.iload_n 2, mI 0), (.aload_n 0, mI 0), (.getfield 16, mR 3 2), (.iload_n 1, mI 0), (.iaload, mI 0)]
theorem kX3_goesOn_72 : mchk MX3_goesOn 72 bX3_goesOn_72 85 = true := by decide +kernel
theorem tX3_goesOn_85 : mbk MX3_goesOn 85 (.if_icmp .ne 15) 100 = true := by decide +kernel
def bX3_goesOn_88 : List mB := [(.aload_n 0, mI 0), (.getfield 25, mR 3 5), (.iload_n 1, mI 0), (.iaload, mI 0)]
theorem kX3_goesOn_88 : mchk MX3_goesOn 88 bX3_goesOn_88 94 = true := by decide +kernel
theorem tX3_goesOn_94 : mdk MX3_goesOn 94 (.invokestatic 199) = true := by decide +kernel
theorem tX3_goesOn_97 : mbk MX3_goesOn 97 (.goto 11) 108 = true := by decide +kernel
def bX3_goesOn_100 : List mB := [(.aload_n 0, mI 0), (.getfield 25, mR 3 5), (.iload_n 1, mI 0), (.iaload, mI 0), (.iconst 1, mI (nI 1)), (.iadd, mI 0)]
theorem kX3_goesOn_100 : mchk MX3_goesOn 100 bX3_goesOn_100 108 = true := by decide +kernel
def bX3_goesOn_108 : List mB := [(.iastore, mI 0), (.aload_n 0, mI 0), (.getfield 16, mR 3 2), (.iload_n 1, mI 0), (.iload_n 2, mI 0), (.iastore, mI 0)]
theorem kX3_goesOn_108 : mchk MX3_goesOn 108 bX3_goesOn_108 116 = true := by decide +kernel
theorem tX3_goesOn_116 : mrk MX3_goesOn 116 .return_ = true := by decide +kernel
def bX3_goes_0 : List mB := [(.iconst 0, mI (nI 0)), (.istore_n 1, mI 0)]
theorem kX3_goes_0 : mchk MX3_goes 0 bX3_goes_0 2 = true := by decide +kernel
def bX3_goes_2 : List mB := [(.iload_n 1, mI 0), (.aload_n 0, mI 0), (.getfield 60, mR 3 7)]
theorem kX3_goes_2 : mchk MX3_goes 2 bX3_goes_2 7 = true := by decide +kernel
theorem tX3_goes_7 : mbk MX3_goes 7 (.if_icmp .ge 34) 41 = true := by decide +kernel
def bX3_goes_10 : List mB := [(.aload_n 0, mI 0), (.getfield 112, mR 3 8), (.iconst 3, mI (nI 3))]
theorem kX3_goes_10 : mchk MX3_goes 10 bX3_goes_10 15 = true := by decide +kernel
theorem tX3_goes_15 : mbk MX3_goes 15 (.if_icmp .ne 26) 41 = true := by decide +kernel
def bX3_goes_18 : List mB := [(.aload_n 0, mI 0), (.getfield 140, mR 3 9), (.bipush 10, mI (nI 10)), (.irem, mI 0)]
theorem kX3_goes_18 : mchk MX3_goes 18 bX3_goes_18 25 = true := by decide +kernel
theorem tX3_goes_25 : mbk MX3_goes 25 (.ifCond .ne 16) 41 = true := by decide +kernel
def bX3_goes_28 : List mB := [(.aload_n 0, mI 0), (.getfield 22, mR 3 4), (.iload_n 1, mI 0), (.iconst 0, mI (nI 0)), (.iastore, mI 0), (.iinc 1 1, mI (nI 1))]
theorem kX3_goes_28 : mchk MX3_goes 28 bX3_goes_28 38 = true := by decide +kernel
theorem tX3_goes_38 : mbk MX3_goes 38 (.goto (-36)) 2 = true := by decide +kernel
def bX3_goes_41 : List mB := [(.iconst 0, mI (nI 0)), (.istore_n 1, mI 0)]
theorem kX3_goes_41 : mchk MX3_goes 41 bX3_goes_41 43 = true := by decide +kernel
def bX3_goes_43 : List mB := [(.iload_n 1, mI 0), (.aload_n 0, mI 0), (.getfield 60, mR 3 7)]
theorem kX3_goes_43 : mchk MX3_goes 43 bX3_goes_43 48 = true := by decide +kernel
theorem tX3_goes_48 : mbk MX3_goes 48 (.if_icmp .ge 14) 62 = true := by decide +kernel
def bX3_goes_51 : List mB := [(.aload_n 0, mI 0), (.iload_n 1, mI 0)]
theorem kX3_goes_51 : mchk MX3_goes 51 bX3_goes_51 53 = true := by decide +kernel
theorem tX3_goes_53 : mdk MX3_goes 53 (.invokevirtual 205) = true := by decide +kernel
def bX3_goes_56 : List mB := [(.iinc 1 1, mI (nI 1))]
theorem kX3_goes_56 : mchk MX3_goes 56 bX3_goes_56 59 = true := by decide +kernel
theorem tX3_goes_59 : mbk MX3_goes 59 (.goto (-16)) 43 = true := by decide +kernel
def bX3_goes_62 : List mB := [(.aload_n 0, mI 0), (.dup, mI 0), (.getfield 140, mR 3 9), (.iconst 1, mI (nI 1)), (.iadd, mI 0), (.putfield 140, mR 3 9)]
theorem kX3_goes_62 : mchk MX3_goes 62 bX3_goes_62 72 = true := by decide +kernel
theorem tX3_goes_72 : mrk MX3_goes 72 .return_ = true := by decide +kernel
def bX3_standBits_0 : List mB := [(.iconst 0, mI (nI 0)), (.istore_n 1, mI 0), (.iconst 0, mI (nI 0)), (.istore_n 2, mI 0)]
theorem kX3_standBits_0 : mchk MX3_standBits 0 bX3_standBits_0 4 = true := by decide +kernel
def bX3_standBits_4 : List mB := [(.iload_n 2, mI 0), (.aload_n 0, mI 0), (.getfield 60, mR 3 7)]
theorem kX3_standBits_4 : mchk MX3_standBits 4 bX3_standBits_4 9 = true := by decide +kernel
theorem tX3_standBits_9 : mbk MX3_standBits 9 (.if_icmp .ge 20) 29 = true := by decide +kernel
def bX3_standBits_12 : List mB := [(.iload_n 1, mI 0), (.aload_n 0, mI 0), (.getfield 22, mR 3 4), (.iload_n 2, mI 0), (.iaload, mI 0), (.iload_n 2, mI 0), (.ishl, mI 0), (.ior, mI 0), (.istore_n 1, mI 0), (.iinc 2 1, mI (nI 1))]
theorem kX3_standBits_12 : mchk MX3_standBits 12 bX3_standBits_12 26 = true := by decide +kernel
theorem tX3_standBits_26 : mbk MX3_standBits 26 (.goto (-22)) 4 = true := by decide +kernel
def bX3_standBits_29 : List mB := [(.iload_n 1, mI 0)]
theorem kX3_standBits_29 : mchk MX3_standBits 29 bX3_standBits_29 30 = true := by decide +kernel
theorem tX3_standBits_30 : mrk MX3_standBits 30 .ireturn = true := by decide +kernel
def bX3_runnersMany_0 : List mB := [(.iconst 0, mI (nI 0)), (.istore_n 1, mI 0), (.iconst 0, mI (nI 0)), (.istore_n 2, mI 0)]
theorem kX3_runnersMany_0 : mchk MX3_runnersMany 0 bX3_runnersMany_0 4 = true := by decide +kernel
def bX3_runnersMany_4 : List mB := [(.iload_n 2, mI 0), (.aload_n 0, mI 0), (.getfield 60, mR 3 7)]
theorem kX3_runnersMany_4 : mchk MX3_runnersMany 4 bX3_runnersMany_4 9 = true := by decide +kernel
theorem tX3_runnersMany_9 : mbk MX3_runnersMany 9 (.if_icmp .ge 25) 34 = true := by decide +kernel
def bX3_runnersMany_12 : List mB := [(.iload_n 1, mI 0), (.aload_n 0, mI 0), (.iload_n 2, mI 0)]
theorem kX3_runnersMany_12 : mchk MX3_runnersMany 12 bX3_runnersMany_12 15 = true := by decide +kernel
theorem tX3_runnersMany_15 : mdk MX3_runnersMany 15 (.invokevirtual 109) = true := by decide +kernel
theorem tX3_runnersMany_18 : mbk MX3_runnersMany 18 (.ifCond .eq 7) 25 = true := by decide +kernel
def bX3_runnersMany_21 : List mB := [(.iconst 0, mI (nI 0))]
theorem kX3_runnersMany_21 : mchk MX3_runnersMany 21 bX3_runnersMany_21 22 = true := by decide +kernel
theorem tX3_runnersMany_22 : mbk MX3_runnersMany 22 (.goto 4) 26 = true := by decide +kernel
def bX3_runnersMany_25 : List mB := [(.iconst 1, mI (nI 1))]
theorem kX3_runnersMany_25 : mchk MX3_runnersMany 25 bX3_runnersMany_25 26 = true := by decide +kernel
def bX3_runnersMany_26 : List mB := [(.iadd, mI 0), (.istore_n 1, mI 0), (.iinc 2 1, mI (nI 1))]
theorem kX3_runnersMany_26 : mchk MX3_runnersMany 26 bX3_runnersMany_26 31 = true := by decide +kernel
theorem tX3_runnersMany_31 : mbk MX3_runnersMany 31 (.goto (-27)) 4 = true := by decide +kernel
def bX3_runnersMany_34 : List mB := [(.iload_n 1, mI 0)]
theorem kX3_runnersMany_34 : mchk MX3_runnersMany 34 bX3_runnersMany_34 35 = true := by decide +kernel
theorem tX3_runnersMany_35 : mrk MX3_runnersMany 35 .ireturn = true := by decide +kernel
def bX3_child_0 : List mB := [(.aload_n 0, mI 0), (.iload_n 1, mI 0)]
theorem kX3_child_0 : mchk MX3_child 0 bX3_child_0 2 = true := by decide +kernel
theorem tX3_child_2 : mdk MX3_child 2 (.invokevirtual 106) = true := by decide +kernel
theorem tX3_child_5 : mbk MX3_child 5 (.ifCond .ne 9) 14 = true := by decide +kernel
def bX3_child_8 : List mB := [(.aload_n 0, mI 0), (.iconst (-1), mI (-1))]
theorem kX3_child_8 : mchk MX3_child 8 bX3_child_8 10 = true := by decide +kernel
theorem tX3_child_10 : mdk MX3_child 10 (.invokevirtual 70) = true := by decide +kernel
theorem tX3_child_13 : mrk MX3_child 13 .ireturn = true := by decide +kernel
def bX3_child_14 : List mB := [(.iload_n 2, mI 0)]
theorem kX3_child_14 : mchk MX3_child 14 bX3_child_14 15 = true := by decide +kernel
def sX3_child_15 : Instr := .tableswitch 68 0 4 #[33, 40, 47, 54, 61]
theorem tX3_child_15 : mswk MX3_child 15 sX3_child_15 33 = true := by decide +kernel
def bX3_child_48 : List mB := [(.aload_n 0, mI 0), (.getfield 13, mR 3 1), (.iload_n 1, mI 0), (.iaload, mI 0)]
theorem kX3_child_48 : mchk MX3_child 48 bX3_child_48 54 = true := by decide +kernel
theorem tX3_child_54 : mrk MX3_child 54 .ireturn = true := by decide +kernel
def bX3_child_55 : List mB := [(.aload_n 0, mI 0), (.getfield 16, mR 3 2), (.iload_n 1, mI 0), (.iaload, mI 0)]
theorem kX3_child_55 : mchk MX3_child 55 bX3_child_55 61 = true := by decide +kernel
theorem tX3_child_61 : mrk MX3_child 61 .ireturn = true := by decide +kernel
def bX3_child_62 : List mB := [(.aload_n 0, mI 0), (.getfield 19, mR 3 3), (.iload_n 1, mI 0), (.iaload, mI 0)]
theorem kX3_child_62 : mchk MX3_child 62 bX3_child_62 68 = true := by decide +kernel
theorem tX3_child_68 : mrk MX3_child 68 .ireturn = true := by decide +kernel
def bX3_child_69 : List mB := [(.aload_n 0, mI 0), (.getfield 22, mR 3 4), (.iload_n 1, mI 0), (.iaload, mI 0)]
theorem kX3_child_69 : mchk MX3_child 69 bX3_child_69 75 = true := by decide +kernel
theorem tX3_child_75 : mrk MX3_child 75 .ireturn = true := by decide +kernel
def bX3_child_76 : List mB := [(.aload_n 0, mI 0), (.getfield 25, mR 3 5), (.iload_n 1, mI 0), (.iaload, mI 0)]
theorem kX3_child_76 : mchk MX3_child 76 bX3_child_76 82 = true := by decide +kernel
theorem tX3_child_82 : mrk MX3_child 82 .ireturn = true := by decide +kernel
def bX3_child_83 : List mB := [(.aload_n 0, mI 0), (.bipush (-2), mI (-2))]
theorem kX3_child_83 : mchk MX3_child 83 bX3_child_83 86 = true := by decide +kernel
theorem tX3_child_86 : mdk MX3_child 86 (.invokevirtual 70) = true := by decide +kernel
theorem tX3_child_89 : mrk MX3_child 89 .ireturn = true := by decide +kernel
def bX3_go_0 : List mB := [(.aload_n 0, mI 0), (.iload_n 1, mI 0)]
theorem kX3_go_0 : mchk MX3_go 0 bX3_go_0 2 = true := by decide +kernel
theorem tX3_go_2 : mdk MX3_go 2 (.invokevirtual 106) = true := by decide +kernel
theorem tX3_go_5 : mbk MX3_go 5 (.ifCond .eq 10) 15 = true := by decide +kernel
def bX3_go_8 : List mB := [(.iload_n 2, mI 0)]
theorem kX3_go_8 : mchk MX3_go 8 bX3_go_8 9 = true := by decide +kernel
theorem tX3_go_9 : mdk MX3_go 9 (.invokestatic 99) = true := by decide +kernel
theorem tX3_go_12 : mbk MX3_go 12 (.ifCond .ne 9) 21 = true := by decide +kernel
def bX3_go_15 : List mB := [(.aload_n 0, mI 0), (.iconst (-1), mI (-1))]
theorem kX3_go_15 : mchk MX3_go 15 bX3_go_15 17 = true := by decide +kernel
theorem tX3_go_17 : mdk MX3_go 17 (.invokevirtual 70) = true := by decide +kernel
theorem tX3_go_20 : mrk MX3_go 20 .ireturn = true := by decide +kernel
def bX3_go_21 : List mB := [(.aload_n 0, mI 0), (.getfield 16, mR 3 2), (.iload_n 1, mI 0), (.iaload, mI 0), (.istore_n 3, mI 0), (.aload_n 0, mI 0), (.getfield 16, mR 3 2), (.iload_n 1, mI 0), (.iload_n 2, mI 0), (.iastore, mI 0), (.iload_n 3, mI 0)]
theorem kX3_go_21 : mchk MX3_go 21 bX3_go_21 36 = true := by decide +kernel
theorem tX3_go_36 : mrk MX3_go 36 .ireturn = true := by decide +kernel
def bX3_touch_0 : List mB := [(.aload_n 0, mI 0), (.iload_n 1, mI 0)]
theorem kX3_touch_0 : mchk MX3_touch 0 bX3_touch_0 2 = true := by decide +kernel
theorem tX3_touch_2 : mdk MX3_touch 2 (.invokevirtual 106) = true := by decide +kernel
theorem tX3_touch_5 : mbk MX3_touch 5 (.ifCond .ne 7) 12 = true := by decide +kernel
def bX3_touch_8 : List mB := [(.iconst (-1), mI (-1))]
theorem kX3_touch_8 : mchk MX3_touch 8 bX3_touch_8 9 = true := by decide +kernel
theorem tX3_touch_9 : mbk MX3_touch 9 (.goto 17) 26 = true := by decide +kernel
def bX3_touch_12 : List mB := [(.aload_n 0, mI 0), (.iload_n 1, mI 0)]
theorem kX3_touch_12 : mchk MX3_touch 12 bX3_touch_12 14 = true := by decide +kernel
theorem tX3_touch_14 : mdk MX3_touch 14 (.invokevirtual 109) = true := by decide +kernel
theorem tX3_touch_17 : mbk MX3_touch 17 (.ifCond .eq 8) 25 = true := by decide +kernel
def bX3_touch_20 : List mB := [(.bipush (-3), mI (-3))]
theorem kX3_touch_20 : mchk MX3_touch 20 bX3_touch_20 22 = true := by decide +kernel
theorem tX3_touch_22 : mbk MX3_touch 22 (.goto 4) 26 = true := by decide +kernel
def bX3_touch_25 : List mB := [(.iconst 0, mI (nI 0))]
theorem kX3_touch_25 : mchk MX3_touch 25 bX3_touch_25 26 = true := by decide +kernel
def bX3_touch_26 : List mB := [(.istore_n 2, mI 0), (.iload_n 2, mI 0)]
theorem kX3_touch_26 : mchk MX3_touch 26 bX3_touch_26 28 = true := by decide +kernel
theorem tX3_touch_28 : mbk MX3_touch 28 (.ifCond .eq 9) 37 = true := by decide +kernel
def bX3_touch_31 : List mB := [(.aload_n 0, mI 0), (.iload_n 2, mI 0)]
theorem kX3_touch_31 : mchk MX3_touch 31 bX3_touch_31 33 = true := by decide +kernel
theorem tX3_touch_33 : mdk MX3_touch 33 (.invokevirtual 70) = true := by decide +kernel
theorem tX3_touch_36 : mrk MX3_touch 36 .ireturn = true := by decide +kernel
def bX3_touch_37 : List mB := [(.aload_n 0, mI 0), (.getfield 22, mR 3 4), (.iload_n 1, mI 0), (.iconst 1, mI (nI 1)), (.aload_n 0, mI 0), (.getfield 22, mR 3 4), (.iload_n 1, mI 0), (.iaload, mI 0), (.isub, mI 0), (.iastore, mI 0), (.aload_n 0, mI 0), (.getfield 22, mR 3 4), (.iload_n 1, mI 0), (.iaload, mI 0)]
theorem kX3_touch_37 : mchk MX3_touch 37 bX3_touch_37 57 = true := by decide +kernel
theorem tX3_touch_57 : mrk MX3_touch 57 .ireturn = true := by decide +kernel
def bX3_law_0 : List mB := [(.iload_n 1, mI 0), (.iconst 0, mI (nI 0)), (.iconst 3, mI (nI 3))]
theorem kX3_law_0 : mchk MX3_law 0 bX3_law_0 3 = true := by decide +kernel
theorem tX3_law_3 : mdk MX3_law 3 (.invokestatic 81) = true := by decide +kernel
theorem tX3_law_6 : mbk MX3_law 6 (.ifCond .ne 10) 16 = true := by decide +kernel
def bX3_law_9 : List mB := [(.aload_n 0, mI 0), (.bipush (-2), mI (-2))]
theorem kX3_law_9 : mchk MX3_law 9 bX3_law_9 12 = true := by decide +kernel
theorem tX3_law_12 : mdk MX3_law 12 (.invokevirtual 70) = true := by decide +kernel
theorem tX3_law_15 : mrk MX3_law 15 .ireturn = true := by decide +kernel
def bX3_law_16 : List mB := [(.aload_n 0, mI 0), (.getfield 112, mR 3 8), (.istore_n 2, mI 0), (.aload_n 0, mI 0), (.iload_n 1, mI 0), (.putfield 112, mR 3 8), (.iload_n 2, mI 0)]
theorem kX3_law_16 : mchk MX3_law 16 bX3_law_16 27 = true := by decide +kernel
theorem tX3_law_27 : mrk MX3_law 27 .ireturn = true := by decide +kernel
def bX3_far_0 : List mB := [(.iload_n 1, mI 0)]
theorem kX3_far_0 : mchk MX3_far 0 bX3_far_0 1 = true := by decide +kernel
theorem tX3_far_1 : mdk MX3_far 1 (.invokestatic 99) = true := by decide +kernel
theorem tX3_far_4 : mbk MX3_far 4 (.ifCond .eq 18) 22 = true := by decide +kernel
def bX3_far_7 : List mB := [(.iload_n 2, mI 0)]
theorem kX3_far_7 : mchk MX3_far 7 bX3_far_7 8 = true := by decide +kernel
theorem tX3_far_8 : mdk MX3_far 8 (.invokestatic 99) = true := by decide +kernel
theorem tX3_far_11 : mbk MX3_far 11 (.ifCond .eq 11) 22 = true := by decide +kernel
def bX3_far_14 : List mB := [(.iload_n 1, mI 0), (.iload_n 2, mI 0)]
theorem kX3_far_14 : mchk MX3_far 14 bX3_far_14 16 = true := by decide +kernel
theorem tX3_far_16 : mdk MX3_far 16 (.invokestatic 146) = true := by decide +kernel
theorem tX3_far_19 : mbk MX3_far 19 (.goto 8) 27 = true := by decide +kernel
def bX3_far_22 : List mB := [(.aload_n 0, mI 0), (.iconst (-1), mI (-1))]
theorem kX3_far_22 : mchk MX3_far 22 bX3_far_22 24 = true := by decide +kernel
theorem tX3_far_24 : mdk MX3_far 24 (.invokevirtual 70) = true := by decide +kernel
theorem tX3_far_27 : mrk MX3_far 27 .ireturn = true := by decide +kernel
def bX3_seconds_0 : List mB := [(.iload_n 1, mI 0), (.iconst 1, mI (nI 1)), (.bipush 60, mI (nI 60))]
theorem kX3_seconds_0 : mchk MX3_seconds 0 bX3_seconds_0 4 = true := by decide +kernel
theorem tX3_seconds_4 : mdk MX3_seconds 4 (.invokestatic 63) = true := by decide +kernel
def bX3_seconds_7 : List mB := [(.istore_n 2, mI 0), (.iload_n 2, mI 0)]
theorem kX3_seconds_7 : mchk MX3_seconds 7 bX3_seconds_7 9 = true := by decide +kernel
theorem tX3_seconds_9 : mbk MX3_seconds 9 (.ifCond .ne 18) 27 = true := by decide +kernel
def bX3_seconds_12 : List mB := [(.aload_n 0, mI 0), (.getfield 140, mR 3 9), (.iload_n 1, mI 0), (.iadd, mI 0), (.sipush 999, mI (nI 999))]
theorem kX3_seconds_12 : mchk MX3_seconds 12 bX3_seconds_12 21 = true := by decide +kernel
theorem tX3_seconds_21 : mbk MX3_seconds 21 (.if_icmp .le 6) 27 = true := by decide +kernel
def bX3_seconds_24 : List mB := [(.bipush (-6), mI (-6)), (.istore_n 2, mI 0)]
theorem kX3_seconds_24 : mchk MX3_seconds 24 bX3_seconds_24 27 = true := by decide +kernel
def bX3_seconds_27 : List mB := [(.iload_n 2, mI 0)]
theorem kX3_seconds_27 : mchk MX3_seconds 27 bX3_seconds_27 28 = true := by decide +kernel
theorem tX3_seconds_28 : mbk MX3_seconds 28 (.ifCond .eq 9) 37 = true := by decide +kernel
def bX3_seconds_31 : List mB := [(.aload_n 0, mI 0), (.iload_n 2, mI 0)]
theorem kX3_seconds_31 : mchk MX3_seconds 31 bX3_seconds_31 33 = true := by decide +kernel
theorem tX3_seconds_33 : mdk MX3_seconds 33 (.invokevirtual 70) = true := by decide +kernel
theorem tX3_seconds_36 : mrk MX3_seconds 36 .ireturn = true := by decide +kernel
def bX3_seconds_37 : List mB := [(.iconst 0, mI (nI 0)), (.istore_n 3, mI 0)]
theorem kX3_seconds_37 : mchk MX3_seconds 37 bX3_seconds_37 39 = true := by decide +kernel
def bX3_seconds_39 : List mB := [(.iload_n 3, mI 0), (.iload_n 1, mI 0)]
theorem kX3_seconds_39 : mchk MX3_seconds 39 bX3_seconds_39 41 = true := by decide +kernel
theorem tX3_seconds_41 : mbk MX3_seconds 41 (.if_icmp .ge 13) 54 = true := by decide +kernel
def bX3_seconds_44 : List mB := [(.aload_n 0, mI 0)]
theorem kX3_seconds_44 : mchk MX3_seconds 44 bX3_seconds_44 45 = true := by decide +kernel
theorem tX3_seconds_45 : mdk MX3_seconds 45 (.invokevirtual 208) = true := by decide +kernel
def bX3_seconds_48 : List mB := [(.iinc 3 1, mI (nI 1))]
theorem kX3_seconds_48 : mchk MX3_seconds 48 bX3_seconds_48 51 = true := by decide +kernel
theorem tX3_seconds_51 : mbk MX3_seconds 51 (.goto (-12)) 39 = true := by decide +kernel
def bX3_seconds_54 : List mB := [(.aload_n 0, mI 0), (.getfield 140, mR 3 9)]
theorem kX3_seconds_54 : mchk MX3_seconds 54 bX3_seconds_54 58 = true := by decide +kernel
theorem tX3_seconds_58 : mrk MX3_seconds 58 .ireturn = true := by decide +kernel
def bX3_goesInMind_0 : List mB := [(.aload_n 0, mI 0), (.iconst 1, mI (nI 1)), (.iconst 1, mI (nI 1))]
theorem kX3_goesInMind_0 : mchk MX3_goesInMind 0 bX3_goesInMind_0 3 = true := by decide +kernel
theorem tX3_goesInMind_3 : mdk MX3_goesInMind 3 (.invokevirtual 119) = true := by decide +kernel
def bX3_goesInMind_6 : List mB := [(.aload_n 0, mI 0), (.iconst 0, mI (nI 0)), (.putfield 211, mR 3 23), (.aload_n 0, mI 0), (.iload_n 1, mI 0)]
theorem kX3_goesInMind_6 : mchk MX3_goesInMind 6 bX3_goesInMind_6 13 = true := by decide +kernel
theorem tX3_goesInMind_13 : mbk MX3_goesInMind 13 (.ifCond .ne 10) 23 = true := by decide +kernel
def bX3_goesInMind_16 : List mB := [(.aload_n 0, mI 0)]
theorem kX3_goesInMind_16 : mchk MX3_goesInMind 16 bX3_goesInMind_16 17 = true := by decide +kernel
theorem tX3_goesInMind_17 : mdk MX3_goesInMind 17 (.invokevirtual 214) = true := by decide +kernel
theorem tX3_goesInMind_20 : mbk MX3_goesInMind 20 (.goto 4) 24 = true := by decide +kernel
def bX3_goesInMind_23 : List mB := [(.iconst (-1), mI (-1))]
theorem kX3_goesInMind_23 : mchk MX3_goesInMind 23 bX3_goesInMind_23 24 = true := by decide +kernel
def bX3_goesInMind_24 : List mB := [(.putfield 217, mR 3 24), (.aload_n 0, mI 0), (.iconst 0, mI (nI 0)), (.putfield 158, mR 3 22), (.iconst 0, mI (nI 0)), (.istore_n 3, mI 0)]
theorem kX3_goesInMind_24 : mchk MX3_goesInMind 24 bX3_goesInMind_24 34 = true := by decide +kernel
def bX3_goesInMind_34 : List mB := [(.iload_n 3, mI 0), (.iload_n 1, mI 0)]
theorem kX3_goesInMind_34 : mchk MX3_goesInMind 34 bX3_goesInMind_34 36 = true := by decide +kernel
theorem tX3_goesInMind_36 : mbk MX3_goesInMind 36 (.if_icmp .ge 42) 78 = true := by decide +kernel
def bX3_goesInMind_39 : List mB := [(.aload_n 0, mI 0)]
theorem kX3_goesInMind_39 : mchk MX3_goesInMind 39 bX3_goesInMind_39 40 = true := by decide +kernel
theorem tX3_goesInMind_40 : mdk MX3_goesInMind 40 (.invokevirtual 208) = true := by decide +kernel
def bX3_goesInMind_43 : List mB := [(.aload_n 0, mI 0), (.dup, mI 0), (.getfield 211, mR 3 23), (.aload_n 0, mI 0)]
theorem kX3_goesInMind_43 : mchk MX3_goesInMind 43 bX3_goesInMind_43 49 = true := by decide +kernel
theorem tX3_goesInMind_49 : mdk MX3_goesInMind 49 (.invokevirtual 214) = true := by decide +kernel
theorem tX3_goesInMind_52 : mdk MX3_goesInMind 52 (.invokestatic 220) = true := by decide +kernel
def bX3_goesInMind_55 : List mB := [(.iadd, mI 0), (.putfield 211, mR 3 23), (.aload_n 0, mI 0), (.dup, mI 0), (.getfield 217, mR 3 24), (.aload_n 0, mI 0)]
theorem kX3_goesInMind_55 : mchk MX3_goesInMind 55 bX3_goesInMind_55 65 = true := by decide +kernel
theorem tX3_goesInMind_65 : mdk MX3_goesInMind 65 (.invokevirtual 214) = true := by decide +kernel
def bX3_goesInMind_68 : List mB := [(.iand, mI 0), (.putfield 217, mR 3 24), (.iinc 3 1, mI (nI 1))]
theorem kX3_goesInMind_68 : mchk MX3_goesInMind 68 bX3_goesInMind_68 75 = true := by decide +kernel
theorem tX3_goesInMind_75 : mbk MX3_goesInMind 75 (.goto (-41)) 34 = true := by decide +kernel
def bX3_goesInMind_78 : List mB := [(.aload_n 0, mI 0), (.aload_n 0, mI 0)]
theorem kX3_goesInMind_78 : mchk MX3_goesInMind 78 bX3_goesInMind_78 80 = true := by decide +kernel
theorem tX3_goesInMind_80 : mdk MX3_goesInMind 80 (.invokevirtual 214) = true := by decide +kernel
def bX3_goesInMind_83 : List mB := [(.putfield 223, mR 3 25), (.aload_n 0, mI 0), (.aload_n 0, mI 0), (.getfield 158, mR 3 22), (.putfield 226, mR 3 26), (.aload_n 0, mI 0), (.aload_n 0, mI 0), (.getfield 16, mR 3 2), (.iload_n 2, mI 0), (.iaload, mI 0), (.putfield 229, mR 3 27), (.aload_n 0, mI 0), (.iconst 1, mI (nI 1)), (.iconst 0, mI (nI 0))]
theorem kX3_goesInMind_83 : mchk MX3_goesInMind 83 bX3_goesInMind_83 107 = true := by decide +kernel
theorem tX3_goesInMind_107 : mdk MX3_goesInMind 107 (.invokevirtual 119) = true := by decide +kernel
theorem tX3_goesInMind_110 : mrk MX3_goesInMind 110 .return_ = true := by decide +kernel
def bX3_stand_0 : List mB := [(.iload_n 1, mI 0), (.iconst 0, mI (nI 0)), (.bipush 60, mI (nI 60))]
theorem kX3_stand_0 : mchk MX3_stand 0 bX3_stand_0 4 = true := by decide +kernel
theorem tX3_stand_4 : mdk MX3_stand 4 (.invokestatic 63) = true := by decide +kernel
def bX3_stand_7 : List mB := [(.istore_n 2, mI 0), (.iload_n 2, mI 0)]
theorem kX3_stand_7 : mchk MX3_stand 7 bX3_stand_7 9 = true := by decide +kernel
theorem tX3_stand_9 : mbk MX3_stand 9 (.ifCond .eq 9) 18 = true := by decide +kernel
def bX3_stand_12 : List mB := [(.aload_n 0, mI 0), (.iload_n 2, mI 0)]
theorem kX3_stand_12 : mchk MX3_stand 12 bX3_stand_12 14 = true := by decide +kernel
theorem tX3_stand_14 : mdk MX3_stand 14 (.invokevirtual 70) = true := by decide +kernel
theorem tX3_stand_17 : mrk MX3_stand 17 .ireturn = true := by decide +kernel
def bX3_stand_18 : List mB := [(.aload_n 0, mI 0), (.iload_n 1, mI 0), (.iconst 0, mI (nI 0))]
theorem kX3_stand_18 : mchk MX3_stand 18 bX3_stand_18 21 = true := by decide +kernel
theorem tX3_stand_21 : mdk MX3_stand 21 (.invokevirtual 232) = true := by decide +kernel
def bX3_stand_24 : List mB := [(.aload_n 0, mI 0), (.getfield 223, mR 3 25)]
theorem kX3_stand_24 : mchk MX3_stand 24 bX3_stand_24 28 = true := by decide +kernel
theorem tX3_stand_28 : mrk MX3_stand 28 .ireturn = true := by decide +kernel
def bX3_where_0 : List mB := [(.aload_n 0, mI 0), (.iload_n 1, mI 0)]
theorem kX3_where_0 : mchk MX3_where 0 bX3_where_0 2 = true := by decide +kernel
theorem tX3_where_2 : mdk MX3_where 2 (.invokevirtual 106) = true := by decide +kernel
theorem tX3_where_5 : mbk MX3_where 5 (.ifCond .ne 7) 12 = true := by decide +kernel
def bX3_where_8 : List mB := [(.iconst (-1), mI (-1))]
theorem kX3_where_8 : mchk MX3_where 8 bX3_where_8 9 = true := by decide +kernel
theorem tX3_where_9 : mbk MX3_where 9 (.goto 10) 19 = true := by decide +kernel
def bX3_where_12 : List mB := [(.iload_n 2, mI 0), (.iconst 0, mI (nI 0)), (.bipush 60, mI (nI 60))]
theorem kX3_where_12 : mchk MX3_where 12 bX3_where_12 16 = true := by decide +kernel
theorem tX3_where_16 : mdk MX3_where 16 (.invokestatic 63) = true := by decide +kernel
def bX3_where_19 : List mB := [(.istore_n 3, mI 0), (.iload_n 3, mI 0)]
theorem kX3_where_19 : mchk MX3_where 19 bX3_where_19 21 = true := by decide +kernel
theorem tX3_where_21 : mbk MX3_where 21 (.ifCond .eq 9) 30 = true := by decide +kernel
def bX3_where_24 : List mB := [(.aload_n 0, mI 0), (.iload_n 3, mI 0)]
theorem kX3_where_24 : mchk MX3_where 24 bX3_where_24 26 = true := by decide +kernel
theorem tX3_where_26 : mdk MX3_where 26 (.invokevirtual 70) = true := by decide +kernel
theorem tX3_where_29 : mrk MX3_where 29 .ireturn = true := by decide +kernel
def bX3_where_30 : List mB := [(.aload_n 0, mI 0), (.iload_n 2, mI 0), (.iload_n 1, mI 0)]
theorem kX3_where_30 : mchk MX3_where 30 bX3_where_30 33 = true := by decide +kernel
theorem tX3_where_33 : mdk MX3_where 33 (.invokevirtual 232) = true := by decide +kernel
def bX3_where_36 : List mB := [(.aload_n 0, mI 0), (.getfield 229, mR 3 27)]
theorem kX3_where_36 : mchk MX3_where 36 bX3_where_36 40 = true := by decide +kernel
theorem tX3_where_40 : mrk MX3_where 40 .ireturn = true := by decide +kernel
def bX3_overIn_0 : List mB := [(.aload_n 0, mI 0), (.iconst 1, mI (nI 1)), (.iconst 1, mI (nI 1))]
theorem kX3_overIn_0 : mchk MX3_overIn 0 bX3_overIn_0 3 = true := by decide +kernel
theorem tX3_overIn_3 : mdk MX3_overIn 3 (.invokevirtual 119) = true := by decide +kernel
def bX3_overIn_6 : List mB := [(.iconst 0, mI (nI 0)), (.istore_n 1, mI 0)]
theorem kX3_overIn_6 : mchk MX3_overIn 6 bX3_overIn_6 8 = true := by decide +kernel
def bX3_overIn_8 : List mB := [(.aload_n 0, mI 0)]
theorem kX3_overIn_8 : mchk MX3_overIn 8 bX3_overIn_8 9 = true := by decide +kernel
theorem tX3_overIn_9 : mdk MX3_overIn 9 (.invokevirtual 214) = true := by decide +kernel
theorem tX3_overIn_12 : mdk MX3_overIn 12 (.invokestatic 220) = true := by decide +kernel
def bX3_overIn_15 : List mB := [(.aload_n 0, mI 0)]
theorem kX3_overIn_15 : mchk MX3_overIn 15 bX3_overIn_15 16 = true := by decide +kernel
theorem tX3_overIn_16 : mdk MX3_overIn 16 (.invokevirtual 235) = true := by decide +kernel
theorem tX3_overIn_19 : mbk MX3_overIn 19 (.if_icmp .ge 19) 38 = true := by decide +kernel
def bX3_overIn_22 : List mB := [(.iload_n 1, mI 0), (.bipush 60, mI (nI 60))]
theorem kX3_overIn_22 : mchk MX3_overIn 22 bX3_overIn_22 25 = true := by decide +kernel
theorem tX3_overIn_25 : mbk MX3_overIn 25 (.if_icmp .gt 13) 38 = true := by decide +kernel
def bX3_overIn_28 : List mB := [(.aload_n 0, mI 0)]
theorem kX3_overIn_28 : mchk MX3_overIn 28 bX3_overIn_28 29 = true := by decide +kernel
theorem tX3_overIn_29 : mdk MX3_overIn 29 (.invokevirtual 208) = true := by decide +kernel
def bX3_overIn_32 : List mB := [(.iinc 1 1, mI (nI 1))]
theorem kX3_overIn_32 : mchk MX3_overIn 32 bX3_overIn_32 35 = true := by decide +kernel
theorem tX3_overIn_35 : mbk MX3_overIn 35 (.goto (-27)) 8 = true := by decide +kernel
def bX3_overIn_38 : List mB := [(.aload_n 0, mI 0), (.iconst 1, mI (nI 1)), (.iconst 0, mI (nI 0))]
theorem kX3_overIn_38 : mchk MX3_overIn 38 bX3_overIn_38 41 = true := by decide +kernel
theorem tX3_overIn_41 : mdk MX3_overIn 41 (.invokevirtual 119) = true := by decide +kernel
def bX3_overIn_44 : List mB := [(.iload_n 1, mI 0), (.bipush 60, mI (nI 60))]
theorem kX3_overIn_44 : mchk MX3_overIn 44 bX3_overIn_44 47 = true := by decide +kernel
theorem tX3_overIn_47 : mbk MX3_overIn 47 (.if_icmp .le 8) 55 = true := by decide +kernel
def bX3_overIn_50 : List mB := [(.bipush (-9), mI (-9))]
theorem kX3_overIn_50 : mchk MX3_overIn 50 bX3_overIn_50 52 = true := by decide +kernel
theorem tX3_overIn_52 : mbk MX3_overIn 52 (.goto 4) 56 = true := by decide +kernel
def bX3_overIn_55 : List mB := [(.iload_n 1, mI 0)]
theorem kX3_overIn_55 : mchk MX3_overIn 55 bX3_overIn_55 56 = true := by decide +kernel
theorem tX3_overIn_56 : mrk MX3_overIn 56 .ireturn = true := by decide +kernel
def bX3_over_0 : List mB := [(.aload_n 0, mI 0)]
theorem kX3_over_0 : mchk MX3_over 0 bX3_over_0 1 = true := by decide +kernel
theorem tX3_over_1 : mdk MX3_over 1 (.invokevirtual 235) = true := by decide +kernel
theorem tX3_over_4 : mbk MX3_over 4 (.ifCond .ne 12) 16 = true := by decide +kernel
def bX3_over_7 : List mB := [(.aload_n 0, mI 0), (.bipush (-3), mI (-3))]
theorem kX3_over_7 : mchk MX3_over 7 bX3_over_7 10 = true := by decide +kernel
theorem tX3_over_10 : mdk MX3_over 10 (.invokevirtual 70) = true := by decide +kernel
theorem tX3_over_13 : mbk MX3_over 13 (.goto 7) 20 = true := by decide +kernel
def bX3_over_16 : List mB := [(.aload_n 0, mI 0)]
theorem kX3_over_16 : mchk MX3_over 16 bX3_over_16 17 = true := by decide +kernel
theorem tX3_over_17 : mdk MX3_over 17 (.invokevirtual 238) = true := by decide +kernel
theorem tX3_over_20 : mrk MX3_over 20 .ireturn = true := by decide +kernel
def bX3_divisor_0 : List mB := [(.lload_n 0, mI 0), (.lstore 4, mI 0), (.lload_n 2, mI 0), (.lstore 6, mI 0)]
theorem kX3_divisor_0 : mchk MX3_divisor 0 bX3_divisor_0 6 = true := by decide +kernel
def bX3_divisor_6 : List mB := [(.lload 6, mI 0), (.lconst 0, mJ (lN 0)), (.lcmp, mI 0)]
theorem kX3_divisor_6 : mchk MX3_divisor 6 bX3_divisor_6 10 = true := by decide +kernel
theorem tX3_divisor_10 : mbk MX3_divisor 10 (.ifCond .eq 21) 31 = true := by decide +kernel
def bX3_divisor_13 : List mB := [(.lload 4, mI 0), (.lload 6, mI 0), (.lrem, mI 0), (.lstore 8, mI 0), (.lload 6, mI 0), (.lstore 4, mI 0), (.lload 8, mI 0), (.lstore 6, mI 0)]
theorem kX3_divisor_13 : mchk MX3_divisor 13 bX3_divisor_13 28 = true := by decide +kernel
theorem tX3_divisor_28 : mbk MX3_divisor 28 (.goto (-22)) 6 = true := by decide +kernel
def bX3_divisor_31 : List mB := [(.lload 4, mI 0)]
theorem kX3_divisor_31 : mchk MX3_divisor 31 bX3_divisor_31 33 = true := by decide +kernel
theorem tX3_divisor_33 : mrk MX3_divisor 33 .lreturn = true := by decide +kernel
def bX3_mean_0 : List mB := [(.iload_n 1, mI 0), (.iconst 0, mI (nI 0)), (.bipush 60, mI (nI 60))]
theorem kX3_mean_0 : mchk MX3_mean 0 bX3_mean_0 4 = true := by decide +kernel
theorem tX3_mean_4 : mdk MX3_mean 4 (.invokestatic 63) = true := by decide +kernel
def bX3_mean_7 : List mB := [(.istore_n 3, mI 0), (.iload_n 3, mI 0)]
theorem kX3_mean_7 : mchk MX3_mean 7 bX3_mean_7 9 = true := by decide +kernel
theorem tX3_mean_9 : mbk MX3_mean 9 (.ifCond .ne 15) 24 = true := by decide +kernel
def bX3_mean_12 : List mB := [(.iload_n 2, mI 0), (.iconst 0, mI (nI 0)), (.iconst 1, mI (nI 1))]
theorem kX3_mean_12 : mchk MX3_mean 12 bX3_mean_12 15 = true := by decide +kernel
theorem tX3_mean_15 : mdk MX3_mean 15 (.invokestatic 81) = true := by decide +kernel
theorem tX3_mean_18 : mbk MX3_mean 18 (.ifCond .ne 6) 24 = true := by decide +kernel
def bX3_mean_21 : List mB := [(.bipush (-2), mI (-2)), (.istore_n 3, mI 0)]
theorem kX3_mean_21 : mchk MX3_mean 21 bX3_mean_21 24 = true := by decide +kernel
def bX3_mean_24 : List mB := [(.iload_n 3, mI 0)]
theorem kX3_mean_24 : mchk MX3_mean 24 bX3_mean_24 25 = true := by decide +kernel
theorem tX3_mean_25 : mbk MX3_mean 25 (.ifCond .eq 9) 34 = true := by decide +kernel
def bX3_mean_28 : List mB := [(.aload_n 0, mI 0), (.iload_n 3, mI 0)]
theorem kX3_mean_28 : mchk MX3_mean 28 bX3_mean_28 30 = true := by decide +kernel
theorem tX3_mean_30 : mdk MX3_mean 30 (.invokevirtual 241) = true := by decide +kernel
theorem tX3_mean_33 : mrk MX3_mean 33 .lreturn = true := by decide +kernel
def bX3_mean_34 : List mB := [(.aload_n 0, mI 0), (.iload_n 1, mI 0), (.iconst 0, mI (nI 0))]
theorem kX3_mean_34 : mchk MX3_mean 34 bX3_mean_34 37 = true := by decide +kernel
theorem tX3_mean_37 : mdk MX3_mean 37 (.invokevirtual 232) = true := by decide +kernel
def bX3_mean_40 : List mB := [(.aload_n 0, mI 0), (.getfield 211, mR 3 23), (.aload_n 0, mI 0)]
theorem kX3_mean_40 : mchk MX3_mean 40 bX3_mean_40 45 = true := by decide +kernel
theorem tX3_mean_45 : mdk MX3_mean 45 (.invokevirtual 214) = true := by decide +kernel
theorem tX3_mean_48 : mdk MX3_mean 48 (.invokestatic 220) = true := by decide +kernel
def bX3_mean_51 : List mB := [(.iadd, mI 0), (.i2l, mI 0), (.lstore 4, mI 0), (.iload_n 1, mI 0), (.iconst 1, mI (nI 1)), (.iadd, mI 0), (.i2l, mI 0), (.lstore 6, mI 0), (.iload_n 2, mI 0)]
theorem kX3_mean_51 : mchk MX3_mean 51 bX3_mean_51 62 = true := by decide +kernel
theorem tX3_mean_62 : mbk MX3_mean 62 (.ifCond .ne 8) 70 = true := by decide +kernel
def bX3_mean_65 : List mB := [(.lload 4, mI 0)]
theorem kX3_mean_65 : mchk MX3_mean 65 bX3_mean_65 67 = true := by decide +kernel
theorem tX3_mean_67 : mbk MX3_mean 67 (.goto 5) 72 = true := by decide +kernel
def bX3_mean_70 : List mB := [(.lload 6, mI 0)]
theorem kX3_mean_70 : mchk MX3_mean 70 bX3_mean_70 72 = true := by decide +kernel
def bX3_mean_72 : List mB := [(.lload 4, mI 0), (.lload 6, mI 0)]
theorem kX3_mean_72 : mchk MX3_mean 72 bX3_mean_72 76 = true := by decide +kernel
theorem tX3_mean_76 : mdk MX3_mean 76 (.invokestatic 245) = true := by decide +kernel
def bX3_mean_79 : List mB := [(.ldiv, mI 0)]
theorem kX3_mean_79 : mchk MX3_mean 79 bX3_mean_79 80 = true := by decide +kernel
theorem tX3_mean_80 : mrk MX3_mean 80 .lreturn = true := by decide +kernel
def bX3_frees_0 : List mB := [(.iload_n 1, mI 0), (.iconst 0, mI (nI 0)), (.bipush 60, mI (nI 60))]
theorem kX3_frees_0 : mchk MX3_frees 0 bX3_frees_0 4 = true := by decide +kernel
theorem tX3_frees_4 : mdk MX3_frees 4 (.invokestatic 63) = true := by decide +kernel
def bX3_frees_7 : List mB := [(.istore_n 2, mI 0), (.iload_n 2, mI 0)]
theorem kX3_frees_7 : mchk MX3_frees 7 bX3_frees_7 9 = true := by decide +kernel
theorem tX3_frees_9 : mbk MX3_frees 9 (.ifCond .eq 9) 18 = true := by decide +kernel
def bX3_frees_12 : List mB := [(.aload_n 0, mI 0), (.iload_n 2, mI 0)]
theorem kX3_frees_12 : mchk MX3_frees 12 bX3_frees_12 14 = true := by decide +kernel
theorem tX3_frees_14 : mdk MX3_frees 14 (.invokevirtual 70) = true := by decide +kernel
theorem tX3_frees_17 : mrk MX3_frees 17 .ireturn = true := by decide +kernel
def bX3_frees_18 : List mB := [(.aload_n 0, mI 0), (.iload_n 1, mI 0), (.iconst 0, mI (nI 0))]
theorem kX3_frees_18 : mchk MX3_frees 18 bX3_frees_18 21 = true := by decide +kernel
theorem tX3_frees_21 : mdk MX3_frees 21 (.invokevirtual 232) = true := by decide +kernel
def bX3_frees_24 : List mB := [(.aload_n 0, mI 0), (.getfield 226, mR 3 26)]
theorem kX3_frees_24 : mchk MX3_frees 24 bX3_frees_24 28 = true := by decide +kernel
theorem tX3_frees_28 : mrk MX3_frees 28 .ireturn = true := by decide +kernel
def bX3_never_0 : List mB := [(.iload_n 1, mI 0), (.iconst 0, mI (nI 0)), (.bipush 60, mI (nI 60))]
theorem kX3_never_0 : mchk MX3_never 0 bX3_never_0 4 = true := by decide +kernel
theorem tX3_never_4 : mdk MX3_never 4 (.invokestatic 63) = true := by decide +kernel
def bX3_never_7 : List mB := [(.istore_n 2, mI 0), (.iload_n 2, mI 0)]
theorem kX3_never_7 : mchk MX3_never 7 bX3_never_7 9 = true := by decide +kernel
theorem tX3_never_9 : mbk MX3_never 9 (.ifCond .eq 9) 18 = true := by decide +kernel
def bX3_never_12 : List mB := [(.aload_n 0, mI 0), (.iload_n 2, mI 0)]
theorem kX3_never_12 : mchk MX3_never 12 bX3_never_12 14 = true := by decide +kernel
theorem tX3_never_14 : mdk MX3_never 14 (.invokevirtual 70) = true := by decide +kernel
theorem tX3_never_17 : mrk MX3_never 17 .ireturn = true := by decide +kernel
def bX3_never_18 : List mB := [(.aload_n 0, mI 0), (.iload_n 1, mI 0), (.iconst 0, mI (nI 0))]
theorem kX3_never_18 : mchk MX3_never 18 bX3_never_18 21 = true := by decide +kernel
theorem tX3_never_21 : mdk MX3_never 21 (.invokevirtual 232) = true := by decide +kernel
def bX3_never_24 : List mB := [(.aload_n 0, mI 0), (.getfield 217, mR 3 24)]
theorem kX3_never_24 : mchk MX3_never 24 bX3_never_24 28 = true := by decide +kernel
theorem tX3_never_28 : mrk MX3_never 28 .ireturn = true := by decide +kernel
def bX3_mayFree_0 : List mB := [(.aload_n 0, mI 0), (.iload_n 1, mI 0)]
theorem kX3_mayFree_0 : mchk MX3_mayFree 0 bX3_mayFree_0 2 = true := by decide +kernel
theorem tX3_mayFree_2 : mdk MX3_mayFree 2 (.invokevirtual 106) = true := by decide +kernel
theorem tX3_mayFree_5 : mbk MX3_mayFree 5 (.ifCond .ne 9) 14 = true := by decide +kernel
def bX3_mayFree_8 : List mB := [(.aload_n 0, mI 0), (.iconst (-1), mI (-1))]
theorem kX3_mayFree_8 : mchk MX3_mayFree 8 bX3_mayFree_8 10 = true := by decide +kernel
theorem tX3_mayFree_10 : mdk MX3_mayFree 10 (.invokevirtual 70) = true := by decide +kernel
theorem tX3_mayFree_13 : mrk MX3_mayFree 13 .ireturn = true := by decide +kernel
def bX3_mayFree_14 : List mB := [(.aload_n 0, mI 0), (.iload_n 1, mI 0)]
theorem kX3_mayFree_14 : mchk MX3_mayFree 14 bX3_mayFree_14 16 = true := by decide +kernel
theorem tX3_mayFree_16 : mdk MX3_mayFree 16 (.invokevirtual 109) = true := by decide +kernel
theorem tX3_mayFree_19 : mbk MX3_mayFree 19 (.ifCond .ne 13) 32 = true := by decide +kernel
def bX3_mayFree_22 : List mB := [(.aload_n 0, mI 0), (.getfield 22, mR 3 4), (.iload_n 1, mI 0), (.iaload, mI 0), (.iconst 1, mI (nI 1))]
theorem kX3_mayFree_22 : mchk MX3_mayFree 22 bX3_mayFree_22 29 = true := by decide +kernel
theorem tX3_mayFree_29 : mbk MX3_mayFree 29 (.if_icmp .ne 8) 37 = true := by decide +kernel
def bX3_mayFree_32 : List mB := [(.bipush (-9), mI (-9))]
theorem kX3_mayFree_32 : mchk MX3_mayFree 32 bX3_mayFree_32 34 = true := by decide +kernel
theorem tX3_mayFree_34 : mbk MX3_mayFree 34 (.goto 8) 42 = true := by decide +kernel
def bX3_mayFree_37 : List mB := [(.aload_n 0, mI 0), (.iload_n 1, mI 0)]
theorem kX3_mayFree_37 : mchk MX3_mayFree 37 bX3_mayFree_37 39 = true := by decide +kernel
theorem tX3_mayFree_39 : mdk MX3_mayFree 39 (.invokevirtual 171) = true := by decide +kernel
theorem tX3_mayFree_42 : mrk MX3_mayFree 42 .ireturn = true := by decide +kernel
def bX3_othersStand_0 : List mB := [(.aload_n 0, mI 0), (.iconst 1, mI (nI 1)), (.iconst 1, mI (nI 1))]
theorem kX3_othersStand_0 : mchk MX3_othersStand 0 bX3_othersStand_0 3 = true := by decide +kernel
theorem tX3_othersStand_3 : mdk MX3_othersStand 3 (.invokevirtual 119) = true := by decide +kernel
def bX3_othersStand_6 : List mB := [(.iconst 0, mI (nI 0)), (.istore_n 2, mI 0), (.iconst 0, mI (nI 0)), (.istore_n 3, mI 0)]
theorem kX3_othersStand_6 : mchk MX3_othersStand 6 bX3_othersStand_6 10 = true := by decide +kernel
def bX3_othersStand_10 : List mB := [(.iload_n 3, mI 0), (.bipush 20, mI (nI 20))]
theorem kX3_othersStand_10 : mchk MX3_othersStand 10 bX3_othersStand_10 13 = true := by decide +kernel
theorem tX3_othersStand_13 : mbk MX3_othersStand 13 (.if_icmp .ge 29) 42 = true := by decide +kernel
def bX3_othersStand_16 : List mB := [(.aload_n 0, mI 0)]
theorem kX3_othersStand_16 : mchk MX3_othersStand 16 bX3_othersStand_16 17 = true := by decide +kernel
theorem tX3_othersStand_17 : mdk MX3_othersStand 17 (.invokevirtual 208) = true := by decide +kernel
def bX3_othersStand_20 : List mB := [(.iload_n 2, mI 0), (.aload_n 0, mI 0)]
theorem kX3_othersStand_20 : mchk MX3_othersStand 20 bX3_othersStand_20 22 = true := by decide +kernel
theorem tX3_othersStand_22 : mdk MX3_othersStand 22 (.invokevirtual 214) = true := by decide +kernel
def bX3_othersStand_25 : List mB := [(.iconst 1, mI (nI 1)), (.iload_n 1, mI 0), (.ishl, mI 0), (.iconst (-1), mI (-1)), (.ixor, mI 0), (.iand, mI 0)]
theorem kX3_othersStand_25 : mchk MX3_othersStand 25 bX3_othersStand_25 31 = true := by decide +kernel
theorem tX3_othersStand_31 : mdk MX3_othersStand 31 (.invokestatic 220) = true := by decide +kernel
def bX3_othersStand_34 : List mB := [(.iadd, mI 0), (.istore_n 2, mI 0), (.iinc 3 1, mI (nI 1))]
theorem kX3_othersStand_34 : mchk MX3_othersStand 34 bX3_othersStand_34 39 = true := by decide +kernel
theorem tX3_othersStand_39 : mbk MX3_othersStand 39 (.goto (-29)) 10 = true := by decide +kernel
def bX3_othersStand_42 : List mB := [(.aload_n 0, mI 0), (.iconst 1, mI (nI 1)), (.iconst 0, mI (nI 0))]
theorem kX3_othersStand_42 : mchk MX3_othersStand 42 bX3_othersStand_42 45 = true := by decide +kernel
theorem tX3_othersStand_45 : mdk MX3_othersStand 45 (.invokevirtual 119) = true := by decide +kernel
def bX3_othersStand_48 : List mB := [(.iload_n 2, mI 0)]
theorem kX3_othersStand_48 : mchk MX3_othersStand 48 bX3_othersStand_48 49 = true := by decide +kernel
theorem tX3_othersStand_49 : mrk MX3_othersStand 49 .ireturn = true := by decide +kernel
def bX3_worth_0 : List mB := [(.aload_n 0, mI 0), (.iload_n 1, mI 0)]
theorem kX3_worth_0 : mchk MX3_worth 0 bX3_worth_0 2 = true := by decide +kernel
theorem tX3_worth_2 : mdk MX3_worth 2 (.invokevirtual 106) = true := by decide +kernel
theorem tX3_worth_5 : mbk MX3_worth 5 (.ifCond .ne 9) 14 = true := by decide +kernel
def bX3_worth_8 : List mB := [(.aload_n 0, mI 0), (.iconst (-1), mI (-1))]
theorem kX3_worth_8 : mchk MX3_worth 8 bX3_worth_8 10 = true := by decide +kernel
theorem tX3_worth_10 : mdk MX3_worth 10 (.invokevirtual 249) = true := by decide +kernel
theorem tX3_worth_13 : mrk MX3_worth 13 .ireturn = true := by decide +kernel
def bX3_worth_14 : List mB := [(.aload_n 0, mI 0), (.iload_n 1, mI 0)]
theorem kX3_worth_14 : mchk MX3_worth 14 bX3_worth_14 16 = true := by decide +kernel
theorem tX3_worth_16 : mdk MX3_worth 16 (.invokevirtual 109) = true := by decide +kernel
theorem tX3_worth_19 : mbk MX3_worth 19 (.ifCond .eq 10) 29 = true := by decide +kernel
def bX3_worth_22 : List mB := [(.aload_n 0, mI 0), (.bipush (-3), mI (-3))]
theorem kX3_worth_22 : mchk MX3_worth 22 bX3_worth_22 25 = true := by decide +kernel
theorem tX3_worth_25 : mdk MX3_worth 25 (.invokevirtual 249) = true := by decide +kernel
theorem tX3_worth_28 : mrk MX3_worth 28 .ireturn = true := by decide +kernel
def bX3_worth_29 : List mB := [(.aload_n 0, mI 0), (.iload_n 1, mI 0)]
theorem kX3_worth_29 : mchk MX3_worth 29 bX3_worth_29 31 = true := by decide +kernel
theorem tX3_worth_31 : mdk MX3_worth 31 (.invokevirtual 252) = true := by decide +kernel
def bX3_worth_34 : List mB := [(.istore_n 2, mI 0), (.aload_n 0, mI 0), (.iload_n 1, mI 0), (.putfield 46, mR 3 21), (.aload_n 0, mI 0), (.iload_n 1, mI 0)]
theorem kX3_worth_34 : mchk MX3_worth 34 bX3_worth_34 42 = true := by decide +kernel
theorem tX3_worth_42 : mdk MX3_worth 42 (.invokevirtual 252) = true := by decide +kernel
def bX3_worth_45 : List mB := [(.iload_n 2, mI 0), (.isub, mI 0), (.istore_n 3, mI 0), (.aload_n 0, mI 0), (.bipush (-9), mI (-9)), (.putfield 46, mR 3 21), (.iload_n 3, mI 0)]
theorem kX3_worth_45 : mchk MX3_worth 45 bX3_worth_45 55 = true := by decide +kernel
theorem tX3_worth_55 : mrk MX3_worth 55 .ireturn = true := by decide +kernel
def bX3_hunt_0 : List mB := [(.aload_n 0, mI 0), (.iload_n 1, mI 0)]
theorem kX3_hunt_0 : mchk MX3_hunt 0 bX3_hunt_0 2 = true := by decide +kernel
theorem tX3_hunt_2 : mdk MX3_hunt 2 (.invokevirtual 106) = true := by decide +kernel
theorem tX3_hunt_5 : mbk MX3_hunt 5 (.ifCond .ne 7) 12 = true := by decide +kernel
def bX3_hunt_8 : List mB := [(.iconst (-1), mI (-1))]
theorem kX3_hunt_8 : mchk MX3_hunt 8 bX3_hunt_8 9 = true := by decide +kernel
theorem tX3_hunt_9 : mbk MX3_hunt 9 (.goto 23) 32 = true := by decide +kernel
def bX3_hunt_12 : List mB := [(.aload_n 0, mI 0), (.iload_n 1, mI 0)]
theorem kX3_hunt_12 : mchk MX3_hunt 12 bX3_hunt_12 14 = true := by decide +kernel
theorem tX3_hunt_14 : mdk MX3_hunt 14 (.invokevirtual 109) = true := by decide +kernel
theorem tX3_hunt_17 : mbk MX3_hunt 17 (.ifCond .ne 8) 25 = true := by decide +kernel
def bX3_hunt_20 : List mB := [(.bipush (-3), mI (-3))]
theorem kX3_hunt_20 : mchk MX3_hunt 20 bX3_hunt_20 22 = true := by decide +kernel
theorem tX3_hunt_22 : mbk MX3_hunt 22 (.goto 10) 32 = true := by decide +kernel
def bX3_hunt_25 : List mB := [(.iload_n 2, mI 0), (.iconst 1, mI (nI 1)), (.bipush 60, mI (nI 60))]
theorem kX3_hunt_25 : mchk MX3_hunt 25 bX3_hunt_25 29 = true := by decide +kernel
theorem tX3_hunt_29 : mdk MX3_hunt 29 (.invokestatic 63) = true := by decide +kernel
def bX3_hunt_32 : List mB := [(.istore 4, mI 0), (.iload 4, mI 0)]
theorem kX3_hunt_32 : mchk MX3_hunt 32 bX3_hunt_32 36 = true := by decide +kernel
theorem tX3_hunt_36 : mbk MX3_hunt 36 (.ifCond .ne 16) 52 = true := by decide +kernel
def bX3_hunt_39 : List mB := [(.iload_n 3, mI 0), (.iconst 0, mI (nI 0)), (.iconst 1, mI (nI 1))]
theorem kX3_hunt_39 : mchk MX3_hunt 39 bX3_hunt_39 42 = true := by decide +kernel
theorem tX3_hunt_42 : mdk MX3_hunt 42 (.invokestatic 81) = true := by decide +kernel
theorem tX3_hunt_45 : mbk MX3_hunt 45 (.ifCond .ne 7) 52 = true := by decide +kernel
def bX3_hunt_48 : List mB := [(.bipush (-2), mI (-2)), (.istore 4, mI 0)]
theorem kX3_hunt_48 : mchk MX3_hunt 48 bX3_hunt_48 52 = true := by decide +kernel
def bX3_hunt_52 : List mB := [(.iload 4, mI 0)]
theorem kX3_hunt_52 : mchk MX3_hunt 52 bX3_hunt_52 54 = true := by decide +kernel
theorem tX3_hunt_54 : mbk MX3_hunt 54 (.ifCond .eq 10) 64 = true := by decide +kernel
def bX3_hunt_57 : List mB := [(.aload_n 0, mI 0), (.iload 4, mI 0)]
theorem kX3_hunt_57 : mchk MX3_hunt 57 bX3_hunt_57 60 = true := by decide +kernel
theorem tX3_hunt_60 : mdk MX3_hunt 60 (.invokevirtual 70) = true := by decide +kernel
theorem tX3_hunt_63 : mrk MX3_hunt 63 .ireturn = true := by decide +kernel
def bX3_hunt_64 : List mB := [(.aload_n 0, mI 0), (.getfield 13, mR 3 1), (.iload_n 1, mI 0), (.iaload, mI 0), (.istore 5, mI 0), (.iconst 0, mI (nI 0)), (.istore 6, mI 0), (.iconst (-1), mI (-1)), (.istore 7, mI 0), (.iconst 0, mI (nI 0)), (.istore 8, mI 0)]
theorem kX3_hunt_64 : mchk MX3_hunt 64 bX3_hunt_64 81 = true := by decide +kernel
def bX3_hunt_81 : List mB := [(.iload 8, mI 0), (.iconst 4, mI (nI 4))]
theorem kX3_hunt_81 : mchk MX3_hunt 81 bX3_hunt_81 84 = true := by decide +kernel
theorem tX3_hunt_84 : mbk MX3_hunt 84 (.if_icmp .ge 47) 131 = true := by decide +kernel
def bX3_hunt_87 : List mB := [(.aload_n 0, mI 0), (.getfield 13, mR 3 1), (.iload_n 1, mI 0), (.iconst 4, mI (nI 4)), (.iload 8, mI 0), (.iadd, mI 0), (.iastore, mI 0), (.aload_n 0, mI 0), (.iload_n 2, mI 0), (.iconst 0, mI (nI 0))]
theorem kX3_hunt_87 : mchk MX3_hunt 87 bX3_hunt_87 100 = true := by decide +kernel
theorem tX3_hunt_100 : mdk MX3_hunt 100 (.invokevirtual 232) = true := by decide +kernel
def bX3_hunt_103 : List mB := [(.aload_n 0, mI 0), (.getfield 211, mR 3 23), (.iload 7, mI 0)]
theorem kX3_hunt_103 : mchk MX3_hunt 103 bX3_hunt_103 109 = true := by decide +kernel
theorem tX3_hunt_109 : mbk MX3_hunt 109 (.if_icmp .gt 6) 115 = true := by decide +kernel
theorem tX3_hunt_112 : mbk MX3_hunt 112 (.goto 13) 125 = true := by decide +kernel
def bX3_hunt_115 : List mB := [(.iload 8, mI 0), (.istore 6, mI 0), (.aload_n 0, mI 0), (.getfield 211, mR 3 23), (.istore 7, mI 0)]
theorem kX3_hunt_115 : mchk MX3_hunt 115 bX3_hunt_115 125 = true := by decide +kernel
def bX3_hunt_125 : List mB := [(.iinc 8 1, mI (nI 1))]
theorem kX3_hunt_125 : mchk MX3_hunt 125 bX3_hunt_125 128 = true := by decide +kernel
theorem tX3_hunt_128 : mbk MX3_hunt 128 (.goto (-47)) 81 = true := by decide +kernel
def bX3_hunt_131 : List mB := [(.aload_n 0, mI 0), (.getfield 13, mR 3 1), (.iload_n 1, mI 0), (.iload 5, mI 0), (.iastore, mI 0), (.iload_n 3, mI 0)]
theorem kX3_hunt_131 : mchk MX3_hunt 131 bX3_hunt_131 140 = true := by decide +kernel
theorem tX3_hunt_140 : mbk MX3_hunt 140 (.ifCond .ne 8) 148 = true := by decide +kernel
def bX3_hunt_143 : List mB := [(.iload 6, mI 0)]
theorem kX3_hunt_143 : mchk MX3_hunt 143 bX3_hunt_143 145 = true := by decide +kernel
theorem tX3_hunt_145 : mbk MX3_hunt 145 (.goto 5) 150 = true := by decide +kernel
def bX3_hunt_148 : List mB := [(.iload 7, mI 0)]
theorem kX3_hunt_148 : mchk MX3_hunt 148 bX3_hunt_148 150 = true := by decide +kernel
theorem tX3_hunt_150 : mrk MX3_hunt 150 .ireturn = true := by decide +kernel
def bX3_enough_0 : List mB := [(.aload_n 0, mI 0)]
theorem kX3_enough_0 : mchk MX3_enough 0 bX3_enough_0 1 = true := by decide +kernel
theorem tX3_enough_1 : mdk MX3_enough 1 (.invokevirtual 235) = true := by decide +kernel
theorem tX3_enough_4 : mbk MX3_enough 4 (.ifCond .ne 10) 14 = true := by decide +kernel
def bX3_enough_7 : List mB := [(.aload_n 0, mI 0), (.bipush (-3), mI (-3))]
theorem kX3_enough_7 : mchk MX3_enough 7 bX3_enough_7 10 = true := by decide +kernel
theorem tX3_enough_10 : mdk MX3_enough 10 (.invokevirtual 70) = true := by decide +kernel
theorem tX3_enough_13 : mrk MX3_enough 13 .ireturn = true := by decide +kernel
def bX3_enough_14 : List mB := [(.aload_n 0, mI 0), (.getfield 60, mR 3 7), (.istore_n 1, mI 0), (.bipush (-9), mI (-9)), (.istore_n 2, mI 0), (.iconst 0, mI (nI 0)), (.istore_n 3, mI 0)]
theorem kX3_enough_14 : mchk MX3_enough 14 bX3_enough_14 24 = true := by decide +kernel
def bX3_enough_24 : List mB := [(.iload_n 3, mI 0), (.iconst 4, mI (nI 4))]
theorem kX3_enough_24 : mchk MX3_enough 24 bX3_enough_24 26 = true := by decide +kernel
theorem tX3_enough_26 : mbk MX3_enough 26 (.if_icmp .ge 47) 73 = true := by decide +kernel
def bX3_enough_29 : List mB := [(.iload_n 2, mI 0)]
theorem kX3_enough_29 : mchk MX3_enough 29 bX3_enough_29 30 = true := by decide +kernel
theorem tX3_enough_30 : mbk MX3_enough 30 (.ifCond .ge 43) 73 = true := by decide +kernel
def bX3_enough_33 : List mB := [(.iload_n 3, mI 0)]
theorem kX3_enough_33 : mchk MX3_enough 33 bX3_enough_33 34 = true := by decide +kernel
theorem tX3_enough_34 : mbk MX3_enough 34 (.ifCond .le 19) 53 = true := by decide +kernel
def bX3_enough_37 : List mB := [(.aload_n 0, mI 0), (.getfield 60, mR 3 7), (.bipush 8, mI (nI 8))]
theorem kX3_enough_37 : mchk MX3_enough 37 bX3_enough_37 43 = true := by decide +kernel
theorem tX3_enough_43 : mbk MX3_enough 43 (.if_icmp .ge 10) 53 = true := by decide +kernel
def bX3_enough_46 : List mB := [(.aload_n 0, mI 0), (.iconst 4, mI (nI 4)), (.iconst 0, mI (nI 0)), (.iconst 0, mI (nI 0))]
theorem kX3_enough_46 : mchk MX3_enough 46 bX3_enough_46 50 = true := by decide +kernel
theorem tX3_enough_50 : mdk MX3_enough 50 (.invokevirtual 102) = true := by decide +kernel
def bX3_enough_53 : List mB := [(.aload_n 0, mI 0)]
theorem kX3_enough_53 : mchk MX3_enough 53 bX3_enough_53 54 = true := by decide +kernel
theorem tX3_enough_54 : mdk MX3_enough 54 (.invokevirtual 238) = true := by decide +kernel
theorem tX3_enough_57 : mbk MX3_enough 57 (.ifCond .lt 7) 64 = true := by decide +kernel
def bX3_enough_60 : List mB := [(.iload_n 3, mI 0)]
theorem kX3_enough_60 : mchk MX3_enough 60 bX3_enough_60 61 = true := by decide +kernel
theorem tX3_enough_61 : mbk MX3_enough 61 (.goto 5) 66 = true := by decide +kernel
def bX3_enough_64 : List mB := [(.bipush (-9), mI (-9))]
theorem kX3_enough_64 : mchk MX3_enough 64 bX3_enough_64 66 = true := by decide +kernel
def bX3_enough_66 : List mB := [(.istore_n 2, mI 0), (.iinc 3 1, mI (nI 1))]
theorem kX3_enough_66 : mchk MX3_enough 66 bX3_enough_66 70 = true := by decide +kernel
theorem tX3_enough_70 : mbk MX3_enough 70 (.goto (-46)) 24 = true := by decide +kernel
def bX3_enough_73 : List mB := [(.aload_n 0, mI 0), (.iload_n 1, mI 0), (.putfield 60, mR 3 7), (.iload_n 2, mI 0)]
theorem kX3_enough_73 : mchk MX3_enough 73 bX3_enough_73 79 = true := by decide +kernel
theorem tX3_enough_79 : mrk MX3_enough 79 .ireturn = true := by decide +kernel
def bX3_standAfterChange_0 : List mB := [(.aload_n 0, mI 0), (.iconst 1, mI (nI 1)), (.iconst 1, mI (nI 1))]
theorem kX3_standAfterChange_0 : mchk MX3_standAfterChange 0 bX3_standAfterChange_0 3 = true := by decide +kernel
theorem tX3_standAfterChange_3 : mdk MX3_standAfterChange 3 (.invokevirtual 119) = true := by decide +kernel
def bX3_standAfterChange_6 : List mB := [(.iconst 0, mI (nI 0)), (.istore 4, mI 0)]
theorem kX3_standAfterChange_6 : mchk MX3_standAfterChange 6 bX3_standAfterChange_6 9 = true := by decide +kernel
def bX3_standAfterChange_9 : List mB := [(.iload 4, mI 0), (.bipush 30, mI (nI 30))]
theorem kX3_standAfterChange_9 : mchk MX3_standAfterChange 9 bX3_standAfterChange_9 13 = true := by decide +kernel
theorem tX3_standAfterChange_13 : mbk MX3_standAfterChange 13 (.if_icmp .ge 25) 38 = true := by decide +kernel
def bX3_standAfterChange_16 : List mB := [(.iload 4, mI 0), (.iload_n 3, mI 0)]
theorem kX3_standAfterChange_16 : mchk MX3_standAfterChange 16 bX3_standAfterChange_16 19 = true := by decide +kernel
theorem tX3_standAfterChange_19 : mbk MX3_standAfterChange 19 (.if_icmp .ne 9) 28 = true := by decide +kernel
def bX3_standAfterChange_22 : List mB := [(.aload_n 0, mI 0), (.iload_n 1, mI 0), (.iload_n 2, mI 0)]
theorem kX3_standAfterChange_22 : mchk MX3_standAfterChange 22 bX3_standAfterChange_22 25 = true := by decide +kernel
theorem tX3_standAfterChange_25 : mdk MX3_standAfterChange 25 (.invokevirtual 255) = true := by decide +kernel
def bX3_standAfterChange_28 : List mB := [(.aload_n 0, mI 0)]
theorem kX3_standAfterChange_28 : mchk MX3_standAfterChange 28 bX3_standAfterChange_28 29 = true := by decide +kernel
theorem tX3_standAfterChange_29 : mdk MX3_standAfterChange 29 (.invokevirtual 208) = true := by decide +kernel
def bX3_standAfterChange_32 : List mB := [(.iinc 4 1, mI (nI 1))]
theorem kX3_standAfterChange_32 : mchk MX3_standAfterChange 32 bX3_standAfterChange_32 35 = true := by decide +kernel
theorem tX3_standAfterChange_35 : mbk MX3_standAfterChange 35 (.goto (-26)) 9 = true := by decide +kernel
def bX3_standAfterChange_38 : List mB := [(.aload_n 0, mI 0)]
theorem kX3_standAfterChange_38 : mchk MX3_standAfterChange 38 bX3_standAfterChange_38 39 = true := by decide +kernel
theorem tX3_standAfterChange_39 : mdk MX3_standAfterChange 39 (.invokevirtual 214) = true := by decide +kernel
theorem tX3_standAfterChange_42 : mdk MX3_standAfterChange 42 (.invokestatic 220) = true := by decide +kernel
def bX3_standAfterChange_45 : List mB := [(.istore 4, mI 0), (.aload_n 0, mI 0), (.iconst 1, mI (nI 1)), (.iconst 0, mI (nI 0))]
theorem kX3_standAfterChange_45 : mchk MX3_standAfterChange 45 bX3_standAfterChange_45 50 = true := by decide +kernel
theorem tX3_standAfterChange_50 : mdk MX3_standAfterChange 50 (.invokevirtual 119) = true := by decide +kernel
def bX3_standAfterChange_53 : List mB := [(.iload 4, mI 0)]
theorem kX3_standAfterChange_53 : mchk MX3_standAfterChange 53 bX3_standAfterChange_53 55 = true := by decide +kernel
theorem tX3_standAfterChange_55 : mrk MX3_standAfterChange 55 .ireturn = true := by decide +kernel
def bX3_changes_0 : List mB := [(.aload_n 0, mI 0), (.getfield 13, mR 3 1), (.iload_n 1, mI 0), (.iaload, mI 0), (.istore_n 3, mI 0), (.aload_n 0, mI 0), (.getfield 13, mR 3 1), (.iload_n 1, mI 0), (.aload_n 0, mI 0), (.getfield 13, mR 3 1), (.iload_n 2, mI 0), (.iaload, mI 0), (.iastore, mI 0), (.aload_n 0, mI 0), (.getfield 13, mR 3 1), (.iload_n 2, mI 0), (.iload_n 3, mI 0), (.iastore, mI 0), (.aload_n 0, mI 0), (.getfield 22, mR 3 4), (.iload_n 2, mI 0), (.iconst 0, mI (nI 0)), (.iastore, mI 0)]
theorem kX3_changes_0 : mchk MX3_changes 0 bX3_changes_0 33 = true := by decide +kernel
theorem tX3_changes_33 : mrk MX3_changes 33 .return_ = true := by decide +kernel
def bX3_change_0 : List mB := [(.aload_n 0, mI 0), (.iload_n 1, mI 0)]
theorem kX3_change_0 : mchk MX3_change 0 bX3_change_0 2 = true := by decide +kernel
theorem tX3_change_2 : mdk MX3_change 2 (.invokevirtual 106) = true := by decide +kernel
theorem tX3_change_5 : mbk MX3_change 5 (.ifCond .eq 11) 16 = true := by decide +kernel
def bX3_change_8 : List mB := [(.aload_n 0, mI 0), (.iload_n 2, mI 0)]
theorem kX3_change_8 : mchk MX3_change 8 bX3_change_8 10 = true := by decide +kernel
theorem tX3_change_10 : mdk MX3_change 10 (.invokevirtual 106) = true := by decide +kernel
theorem tX3_change_13 : mbk MX3_change 13 (.ifCond .ne 7) 20 = true := by decide +kernel
def bX3_change_16 : List mB := [(.iconst (-1), mI (-1))]
theorem kX3_change_16 : mchk MX3_change 16 bX3_change_16 17 = true := by decide +kernel
theorem tX3_change_17 : mbk MX3_change 17 (.goto 39) 56 = true := by decide +kernel
def bX3_change_20 : List mB := [(.aload_n 0, mI 0), (.iload_n 1, mI 0)]
theorem kX3_change_20 : mchk MX3_change 20 bX3_change_20 22 = true := by decide +kernel
theorem tX3_change_22 : mdk MX3_change 22 (.invokevirtual 109) = true := by decide +kernel
theorem tX3_change_25 : mbk MX3_change 25 (.ifCond .eq 11) 36 = true := by decide +kernel
def bX3_change_28 : List mB := [(.aload_n 0, mI 0), (.iload_n 2, mI 0)]
theorem kX3_change_28 : mchk MX3_change 28 bX3_change_28 30 = true := by decide +kernel
theorem tX3_change_30 : mdk MX3_change 30 (.invokevirtual 109) = true := by decide +kernel
theorem tX3_change_33 : mbk MX3_change 33 (.ifCond .eq 8) 41 = true := by decide +kernel
def bX3_change_36 : List mB := [(.bipush (-3), mI (-3))]
theorem kX3_change_36 : mchk MX3_change 36 bX3_change_36 38 = true := by decide +kernel
theorem tX3_change_38 : mbk MX3_change 38 (.goto 18) 56 = true := by decide +kernel
def bX3_change_41 : List mB := [(.iload_n 3, mI 0), (.iconst 0, mI (nI 0)), (.iconst 1, mI (nI 1))]
theorem kX3_change_41 : mchk MX3_change 41 bX3_change_41 44 = true := by decide +kernel
theorem tX3_change_44 : mdk MX3_change 44 (.invokestatic 81) = true := by decide +kernel
theorem tX3_change_47 : mbk MX3_change 47 (.ifCond .ne 8) 55 = true := by decide +kernel
def bX3_change_50 : List mB := [(.bipush (-2), mI (-2))]
theorem kX3_change_50 : mchk MX3_change 50 bX3_change_50 52 = true := by decide +kernel
theorem tX3_change_52 : mbk MX3_change 52 (.goto 4) 56 = true := by decide +kernel
def bX3_change_55 : List mB := [(.iconst 0, mI (nI 0))]
theorem kX3_change_55 : mchk MX3_change 55 bX3_change_55 56 = true := by decide +kernel
def bX3_change_56 : List mB := [(.istore 4, mI 0), (.iload 4, mI 0)]
theorem kX3_change_56 : mchk MX3_change 56 bX3_change_56 60 = true := by decide +kernel
theorem tX3_change_60 : mbk MX3_change 60 (.ifCond .eq 10) 70 = true := by decide +kernel
def bX3_change_63 : List mB := [(.aload_n 0, mI 0), (.iload 4, mI 0)]
theorem kX3_change_63 : mchk MX3_change 63 bX3_change_63 66 = true := by decide +kernel
theorem tX3_change_66 : mdk MX3_change 66 (.invokevirtual 70) = true := by decide +kernel
theorem tX3_change_69 : mrk MX3_change 69 .ireturn = true := by decide +kernel
def bX3_change_70 : List mB := [(.iconst 0, mI (nI 0)), (.istore 5, mI 0), (.iconst (-1), mI (-1)), (.istore 6, mI 0), (.iconst 0, mI (nI 0)), (.istore 7, mI 0)]
theorem kX3_change_70 : mchk MX3_change 70 bX3_change_70 79 = true := by decide +kernel
def bX3_change_79 : List mB := [(.iload 7, mI 0), (.bipush 21, mI (nI 21))]
theorem kX3_change_79 : mchk MX3_change 79 bX3_change_79 83 = true := by decide +kernel
theorem tX3_change_83 : mbk MX3_change 83 (.if_icmp .ge 37) 120 = true := by decide +kernel
def bX3_change_86 : List mB := [(.aload_n 0, mI 0), (.iload_n 1, mI 0), (.iload_n 2, mI 0), (.iload 7, mI 0)]
theorem kX3_change_86 : mchk MX3_change 86 bX3_change_86 91 = true := by decide +kernel
theorem tX3_change_91 : mdk MX3_change 91 (.invokevirtual 258) = true := by decide +kernel
def bX3_change_94 : List mB := [(.istore 8, mI 0), (.iload 8, mI 0), (.iload 6, mI 0)]
theorem kX3_change_94 : mchk MX3_change 94 bX3_change_94 100 = true := by decide +kernel
theorem tX3_change_100 : mbk MX3_change 100 (.if_icmp .gt 6) 106 = true := by decide +kernel
theorem tX3_change_103 : mbk MX3_change 103 (.goto 11) 114 = true := by decide +kernel
def bX3_change_106 : List mB := [(.iload 7, mI 0), (.istore 5, mI 0), (.iload 8, mI 0), (.istore 6, mI 0)]
theorem kX3_change_106 : mchk MX3_change 106 bX3_change_106 114 = true := by decide +kernel
def bX3_change_114 : List mB := [(.iinc 7 1, mI (nI 1))]
theorem kX3_change_114 : mchk MX3_change 114 bX3_change_114 117 = true := by decide +kernel
theorem tX3_change_117 : mbk MX3_change 117 (.goto (-38)) 79 = true := by decide +kernel
def bX3_change_120 : List mB := [(.iload_n 3, mI 0)]
theorem kX3_change_120 : mchk MX3_change 120 bX3_change_120 121 = true := by decide +kernel
theorem tX3_change_121 : mbk MX3_change 121 (.ifCond .ne 8) 129 = true := by decide +kernel
def bX3_change_124 : List mB := [(.iload 5, mI 0)]
theorem kX3_change_124 : mchk MX3_change 124 bX3_change_124 126 = true := by decide +kernel
theorem tX3_change_126 : mbk MX3_change 126 (.goto 5) 131 = true := by decide +kernel
def bX3_change_129 : List mB := [(.iload 6, mI 0)]
theorem kX3_change_129 : mchk MX3_change 129 bX3_change_129 131 = true := by decide +kernel
theorem tX3_change_131 : mrk MX3_change 131 .ireturn = true := by decide +kernel
def bX3_longest_0 : List mB := [(.aload_n 0, mI 0)]
theorem kX3_longest_0 : mchk MX3_longest 0 bX3_longest_0 1 = true := by decide +kernel
theorem tX3_longest_1 : mdk MX3_longest 1 (.invokevirtual 235) = true := by decide +kernel
theorem tX3_longest_4 : mbk MX3_longest 4 (.ifCond .ne 10) 14 = true := by decide +kernel
def bX3_longest_7 : List mB := [(.aload_n 0, mI 0), (.bipush (-3), mI (-3))]
theorem kX3_longest_7 : mchk MX3_longest 7 bX3_longest_7 10 = true := by decide +kernel
theorem tX3_longest_10 : mdk MX3_longest 10 (.invokevirtual 70) = true := by decide +kernel
theorem tX3_longest_13 : mrk MX3_longest 13 .ireturn = true := by decide +kernel
def bX3_longest_14 : List mB := [(.aload_n 0, mI 0), (.getfield 112, mR 3 8), (.istore_n 1, mI 0), (.iconst 0, mI (nI 0)), (.istore_n 2, mI 0), (.iconst (-1), mI (-1)), (.istore_n 3, mI 0), (.iconst 0, mI (nI 0)), (.istore 4, mI 0)]
theorem kX3_longest_14 : mchk MX3_longest 14 bX3_longest_14 26 = true := by decide +kernel
def bX3_longest_26 : List mB := [(.iload 4, mI 0), (.iconst 4, mI (nI 4))]
theorem kX3_longest_26 : mchk MX3_longest 26 bX3_longest_26 29 = true := by decide +kernel
theorem tX3_longest_29 : mbk MX3_longest 29 (.if_icmp .ge 50) 79 = true := by decide +kernel
def bX3_longest_32 : List mB := [(.aload_n 0, mI 0), (.iload 4, mI 0), (.putfield 112, mR 3 8), (.aload_n 0, mI 0)]
theorem kX3_longest_32 : mchk MX3_longest 32 bX3_longest_32 39 = true := by decide +kernel
theorem tX3_longest_39 : mdk MX3_longest 39 (.invokevirtual 238) = true := by decide +kernel
def bX3_longest_42 : List mB := [(.istore 5, mI 0), (.iload 5, mI 0)]
theorem kX3_longest_42 : mchk MX3_longest 42 bX3_longest_42 46 = true := by decide +kernel
theorem tX3_longest_46 : mbk MX3_longest 46 (.ifCond .ge 8) 54 = true := by decide +kernel
def bX3_longest_49 : List mB := [(.bipush 61, mI (nI 61))]
theorem kX3_longest_49 : mchk MX3_longest 49 bX3_longest_49 51 = true := by decide +kernel
theorem tX3_longest_51 : mbk MX3_longest 51 (.goto 5) 56 = true := by decide +kernel
def bX3_longest_54 : List mB := [(.iload 5, mI 0)]
theorem kX3_longest_54 : mchk MX3_longest 54 bX3_longest_54 56 = true := by decide +kernel
def bX3_longest_56 : List mB := [(.istore 5, mI 0), (.iload 5, mI 0), (.iload_n 3, mI 0)]
theorem kX3_longest_56 : mchk MX3_longest 56 bX3_longest_56 61 = true := by decide +kernel
theorem tX3_longest_61 : mbk MX3_longest 61 (.if_icmp .gt 6) 67 = true := by decide +kernel
theorem tX3_longest_64 : mbk MX3_longest 64 (.goto 9) 73 = true := by decide +kernel
def bX3_longest_67 : List mB := [(.iload 4, mI 0), (.istore_n 2, mI 0), (.iload 5, mI 0), (.istore_n 3, mI 0)]
theorem kX3_longest_67 : mchk MX3_longest 67 bX3_longest_67 73 = true := by decide +kernel
def bX3_longest_73 : List mB := [(.iinc 4 1, mI (nI 1))]
theorem kX3_longest_73 : mchk MX3_longest 73 bX3_longest_73 76 = true := by decide +kernel
theorem tX3_longest_76 : mbk MX3_longest 76 (.goto (-50)) 26 = true := by decide +kernel
def bX3_longest_79 : List mB := [(.aload_n 0, mI 0), (.iload_n 1, mI 0), (.putfield 112, mR 3 8), (.iload_n 2, mI 0)]
theorem kX3_longest_79 : mchk MX3_longest 79 bX3_longest_79 85 = true := by decide +kernel
theorem tX3_longest_85 : mrk MX3_longest 85 .ireturn = true := by decide +kernel
def bX3_owes_0 : List mB := [(.aload_n 0, mI 0), (.iload_n 1, mI 0)]
theorem kX3_owes_0 : mchk MX3_owes 0 bX3_owes_0 2 = true := by decide +kernel
theorem tX3_owes_2 : mdk MX3_owes 2 (.invokevirtual 106) = true := by decide +kernel
theorem tX3_owes_5 : mbk MX3_owes 5 (.ifCond .eq 25) 30 = true := by decide +kernel
def bX3_owes_8 : List mB := [(.aload_n 0, mI 0), (.iload_n 2, mI 0)]
theorem kX3_owes_8 : mchk MX3_owes 8 bX3_owes_8 10 = true := by decide +kernel
theorem tX3_owes_10 : mdk MX3_owes 10 (.invokevirtual 106) = true := by decide +kernel
theorem tX3_owes_13 : mbk MX3_owes 13 (.ifCond .eq 17) 30 = true := by decide +kernel
def bX3_owes_16 : List mB := [(.aload_n 0, mI 0), (.getfield 28, mR 3 6), (.bipush 8, mI (nI 8)), (.iload_n 2, mI 0), (.imul, mI 0), (.iload_n 1, mI 0), (.iadd, mI 0), (.iaload, mI 0)]
theorem kX3_owes_16 : mchk MX3_owes 16 bX3_owes_16 27 = true := by decide +kernel
theorem tX3_owes_27 : mbk MX3_owes 27 (.goto 8) 35 = true := by decide +kernel
def bX3_owes_30 : List mB := [(.aload_n 0, mI 0), (.iconst (-1), mI (-1))]
theorem kX3_owes_30 : mchk MX3_owes 30 bX3_owes_30 32 = true := by decide +kernel
theorem tX3_owes_32 : mdk MX3_owes 32 (.invokevirtual 70) = true := by decide +kernel
theorem tX3_owes_35 : mrk MX3_owes 35 .ireturn = true := by decide +kernel
def bX3_debt_0 : List mB := [(.aload_n 0, mI 0), (.iload_n 1, mI 0)]
theorem kX3_debt_0 : mchk MX3_debt 0 bX3_debt_0 2 = true := by decide +kernel
theorem tX3_debt_2 : mdk MX3_debt 2 (.invokevirtual 106) = true := by decide +kernel
theorem tX3_debt_5 : mbk MX3_debt 5 (.ifCond .ne 9) 14 = true := by decide +kernel
def bX3_debt_8 : List mB := [(.aload_n 0, mI 0), (.iconst (-1), mI (-1))]
theorem kX3_debt_8 : mchk MX3_debt 8 bX3_debt_8 10 = true := by decide +kernel
theorem tX3_debt_10 : mdk MX3_debt 10 (.invokevirtual 249) = true := by decide +kernel
theorem tX3_debt_13 : mrk MX3_debt 13 .ireturn = true := by decide +kernel
def bX3_debt_14 : List mB := [(.iconst 0, mI (nI 0)), (.istore_n 2, mI 0), (.iconst 0, mI (nI 0)), (.istore_n 3, mI 0)]
theorem kX3_debt_14 : mchk MX3_debt 14 bX3_debt_14 18 = true := by decide +kernel
def bX3_debt_18 : List mB := [(.iload_n 3, mI 0), (.bipush 8, mI (nI 8))]
theorem kX3_debt_18 : mchk MX3_debt 18 bX3_debt_18 21 = true := by decide +kernel
theorem tX3_debt_21 : mbk MX3_debt 21 (.if_icmp .ge 35) 56 = true := by decide +kernel
def bX3_debt_24 : List mB := [(.iload_n 2, mI 0), (.aload_n 0, mI 0), (.getfield 28, mR 3 6), (.bipush 8, mI (nI 8)), (.iload_n 1, mI 0), (.imul, mI 0), (.iload_n 3, mI 0), (.iadd, mI 0), (.iaload, mI 0), (.aload_n 0, mI 0), (.getfield 28, mR 3 6), (.bipush 8, mI (nI 8)), (.iload_n 3, mI 0), (.imul, mI 0), (.iload_n 1, mI 0), (.iadd, mI 0), (.iaload, mI 0), (.isub, mI 0), (.iadd, mI 0), (.istore_n 2, mI 0), (.iinc 3 1, mI (nI 1))]
theorem kX3_debt_24 : mchk MX3_debt 24 bX3_debt_24 53 = true := by decide +kernel
theorem tX3_debt_53 : mbk MX3_debt 53 (.goto (-35)) 18 = true := by decide +kernel
def bX3_debt_56 : List mB := [(.iload_n 2, mI 0)]
theorem kX3_debt_56 : mchk MX3_debt 56 bX3_debt_56 57 = true := by decide +kernel
theorem tX3_debt_57 : mrk MX3_debt 57 .ireturn = true := by decide +kernel
def bX3_isMayed_0 : List mB := [(.iconst 0, mI (nI 0)), (.istore_n 2, mI 0)]
theorem kX3_isMayed_0 : mchk MX3_isMayed 0 bX3_isMayed_0 2 = true := by decide +kernel
def bX3_isMayed_2 : List mB := [(.iload_n 2, mI 0), (.aload_n 0, mI 0), (.getfield 60, mR 3 7)]
theorem kX3_isMayed_2 : mchk MX3_isMayed 2 bX3_isMayed_2 7 = true := by decide +kernel
theorem tX3_isMayed_7 : mbk MX3_isMayed 7 (.if_icmp .ge 46) 53 = true := by decide +kernel
def bX3_isMayed_10 : List mB := [(.iload_n 2, mI 0), (.iload_n 1, mI 0)]
theorem kX3_isMayed_10 : mchk MX3_isMayed 10 bX3_isMayed_10 12 = true := by decide +kernel
theorem tX3_isMayed_12 : mbk MX3_isMayed 12 (.if_icmp .eq 35) 47 = true := by decide +kernel
def bX3_isMayed_15 : List mB := [(.aload_n 0, mI 0), (.getfield 13, mR 3 1), (.iload_n 2, mI 0), (.iaload, mI 0), (.iconst 1, mI (nI 1))]
theorem kX3_isMayed_15 : mchk MX3_isMayed 15 bX3_isMayed_15 22 = true := by decide +kernel
theorem tX3_isMayed_22 : mbk MX3_isMayed 22 (.if_icmp .eq 23) 45 = true := by decide +kernel
def bX3_isMayed_25 : List mB := [(.aload_n 0, mI 0), (.getfield 13, mR 3 1), (.iload_n 2, mI 0), (.iaload, mI 0), (.iconst 2, mI (nI 2))]
theorem kX3_isMayed_25 : mchk MX3_isMayed 25 bX3_isMayed_25 32 = true := by decide +kernel
theorem tX3_isMayed_32 : mbk MX3_isMayed 32 (.if_icmp .ne 15) 47 = true := by decide +kernel
def bX3_isMayed_35 : List mB := [(.aload_n 0, mI 0), (.getfield 19, mR 3 3), (.iload_n 2, mI 0), (.iaload, mI 0), (.iload_n 1, mI 0)]
theorem kX3_isMayed_35 : mchk MX3_isMayed 35 bX3_isMayed_35 42 = true := by decide +kernel
theorem tX3_isMayed_42 : mbk MX3_isMayed 42 (.if_icmp .ne 5) 47 = true := by decide +kernel
def bX3_isMayed_45 : List mB := [(.iconst 1, mI (nI 1))]
theorem kX3_isMayed_45 : mchk MX3_isMayed 45 bX3_isMayed_45 46 = true := by decide +kernel
theorem tX3_isMayed_46 : mrk MX3_isMayed 46 .ireturn = true := by decide +kernel
def bX3_isMayed_47 : List mB := [(.iinc 2 1, mI (nI 1))]
theorem kX3_isMayed_47 : mchk MX3_isMayed 47 bX3_isMayed_47 50 = true := by decide +kernel
theorem tX3_isMayed_50 : mbk MX3_isMayed 50 (.goto (-48)) 2 = true := by decide +kernel
def bX3_isMayed_53 : List mB := [(.iconst 0, mI (nI 0))]
theorem kX3_isMayed_53 : mchk MX3_isMayed 53 bX3_isMayed_53 54 = true := by decide +kernel
theorem tX3_isMayed_54 : mrk MX3_isMayed 54 .ireturn = true := by decide +kernel
def bX3_isWatched_0 : List mB := [(.aload_n 0, mI 0), (.iconst 1, mI (nI 1)), (.iconst 1, mI (nI 1))]
theorem kX3_isWatched_0 : mchk MX3_isWatched 0 bX3_isWatched_0 3 = true := by decide +kernel
theorem tX3_isWatched_3 : mdk MX3_isWatched 3 (.invokevirtual 119) = true := by decide +kernel
def bX3_isWatched_6 : List mB := [(.iconst 1, mI (nI 1)), (.istore_n 3, mI 0), (.iconst 0, mI (nI 0)), (.istore 4, mI 0)]
theorem kX3_isWatched_6 : mchk MX3_isWatched 6 bX3_isWatched_6 11 = true := by decide +kernel
def bX3_isWatched_11 : List mB := [(.iload 4, mI 0), (.iload_n 2, mI 0)]
theorem kX3_isWatched_11 : mchk MX3_isWatched 11 bX3_isWatched_11 14 = true := by decide +kernel
theorem tX3_isWatched_14 : mbk MX3_isWatched 14 (.if_icmp .ge 35) 49 = true := by decide +kernel
def bX3_isWatched_17 : List mB := [(.aload_n 0, mI 0)]
theorem kX3_isWatched_17 : mchk MX3_isWatched 17 bX3_isWatched_17 18 = true := by decide +kernel
theorem tX3_isWatched_18 : mdk MX3_isWatched 18 (.invokevirtual 208) = true := by decide +kernel
def bX3_isWatched_21 : List mB := [(.iload_n 3, mI 0), (.aload_n 0, mI 0), (.aload_n 0, mI 0), (.getfield 16, mR 3 2), (.iload_n 1, mI 0), (.iaload, mI 0)]
theorem kX3_isWatched_21 : mchk MX3_isWatched 21 bX3_isWatched_21 29 = true := by decide +kernel
theorem tX3_isWatched_29 : mdk MX3_isWatched 29 (.invokevirtual 152) = true := by decide +kernel
def bX3_isWatched_32 : List mB := [(.iconst 2, mI (nI 2))]
theorem kX3_isWatched_32 : mchk MX3_isWatched 32 bX3_isWatched_32 33 = true := by decide +kernel
theorem tX3_isWatched_33 : mbk MX3_isWatched 33 (.if_icmp .ge 7) 40 = true := by decide +kernel
def bX3_isWatched_36 : List mB := [(.iconst 1, mI (nI 1))]
theorem kX3_isWatched_36 : mchk MX3_isWatched 36 bX3_isWatched_36 37 = true := by decide +kernel
theorem tX3_isWatched_37 : mbk MX3_isWatched 37 (.goto 4) 41 = true := by decide +kernel
def bX3_isWatched_40 : List mB := [(.iconst 0, mI (nI 0))]
theorem kX3_isWatched_40 : mchk MX3_isWatched 40 bX3_isWatched_40 41 = true := by decide +kernel
def bX3_isWatched_41 : List mB := [(.iand, mI 0), (.istore_n 3, mI 0), (.iinc 4 1, mI (nI 1))]
theorem kX3_isWatched_41 : mchk MX3_isWatched 41 bX3_isWatched_41 46 = true := by decide +kernel
theorem tX3_isWatched_46 : mbk MX3_isWatched 46 (.goto (-35)) 11 = true := by decide +kernel
def bX3_isWatched_49 : List mB := [(.aload_n 0, mI 0), (.iconst 1, mI (nI 1)), (.iconst 0, mI (nI 0))]
theorem kX3_isWatched_49 : mchk MX3_isWatched 49 bX3_isWatched_49 52 = true := by decide +kernel
theorem tX3_isWatched_52 : mdk MX3_isWatched 52 (.invokevirtual 119) = true := by decide +kernel
def bX3_isWatched_55 : List mB := [(.iload_n 3, mI 0)]
theorem kX3_isWatched_55 : mchk MX3_isWatched 55 bX3_isWatched_55 56 = true := by decide +kernel
theorem tX3_isWatched_56 : mrk MX3_isWatched 56 .ireturn = true := by decide +kernel
def bX3_why_0 : List mB := [(.aload_n 0, mI 0), (.iload_n 1, mI 0)]
theorem kX3_why_0 : mchk MX3_why 0 bX3_why_0 2 = true := by decide +kernel
theorem tX3_why_2 : mdk MX3_why 2 (.invokevirtual 106) = true := by decide +kernel
theorem tX3_why_5 : mbk MX3_why 5 (.ifCond .ne 7) 12 = true := by decide +kernel
def bX3_why_8 : List mB := [(.iconst (-1), mI (-1))]
theorem kX3_why_8 : mchk MX3_why 8 bX3_why_8 9 = true := by decide +kernel
theorem tX3_why_9 : mbk MX3_why 9 (.goto 24) 33 = true := by decide +kernel
def bX3_why_12 : List mB := [(.aload_n 0, mI 0), (.getfield 22, mR 3 4), (.iload_n 1, mI 0), (.iaload, mI 0)]
theorem kX3_why_12 : mchk MX3_why 12 bX3_why_12 18 = true := by decide +kernel
theorem tX3_why_18 : mbk MX3_why 18 (.ifCond .ne 8) 26 = true := by decide +kernel
def bX3_why_21 : List mB := [(.bipush (-3), mI (-3))]
theorem kX3_why_21 : mchk MX3_why 21 bX3_why_21 23 = true := by decide +kernel
theorem tX3_why_23 : mbk MX3_why 23 (.goto 10) 33 = true := by decide +kernel
def bX3_why_26 : List mB := [(.iload_n 2, mI 0), (.iconst 1, mI (nI 1)), (.bipush 60, mI (nI 60))]
theorem kX3_why_26 : mchk MX3_why 26 bX3_why_26 30 = true := by decide +kernel
theorem tX3_why_30 : mdk MX3_why 30 (.invokestatic 63) = true := by decide +kernel
def bX3_why_33 : List mB := [(.istore_n 3, mI 0), (.iload_n 3, mI 0)]
theorem kX3_why_33 : mchk MX3_why 33 bX3_why_33 35 = true := by decide +kernel
theorem tX3_why_35 : mbk MX3_why 35 (.ifCond .eq 9) 44 = true := by decide +kernel
def bX3_why_38 : List mB := [(.aload_n 0, mI 0), (.iload_n 3, mI 0)]
theorem kX3_why_38 : mchk MX3_why 38 bX3_why_38 40 = true := by decide +kernel
theorem tX3_why_40 : mdk MX3_why 40 (.invokevirtual 70) = true := by decide +kernel
theorem tX3_why_43 : mrk MX3_why 43 .ireturn = true := by decide +kernel
def bX3_why_44 : List mB := [(.aload_n 0, mI 0), (.iload_n 2, mI 0), (.iconst 0, mI (nI 0))]
theorem kX3_why_44 : mchk MX3_why 44 bX3_why_44 47 = true := by decide +kernel
theorem tX3_why_47 : mdk MX3_why 47 (.invokevirtual 232) = true := by decide +kernel
def bX3_why_50 : List mB := [(.aload_n 0, mI 0), (.getfield 217, mR 3 24), (.iload_n 1, mI 0), (.ishr, mI 0), (.iconst 1, mI (nI 1)), (.iand, mI 0)]
theorem kX3_why_50 : mchk MX3_why 50 bX3_why_50 58 = true := by decide +kernel
theorem tX3_why_58 : mbk MX3_why 58 (.ifCond .ne 5) 63 = true := by decide +kernel
def bX3_why_61 : List mB := [(.iconst 0, mI (nI 0))]
theorem kX3_why_61 : mchk MX3_why 61 bX3_why_61 62 = true := by decide +kernel
theorem tX3_why_62 : mrk MX3_why 62 .ireturn = true := by decide +kernel
def bX3_why_63 : List mB := [(.aload_n 0, mI 0), (.iload_n 1, mI 0)]
theorem kX3_why_63 : mchk MX3_why 63 bX3_why_63 65 = true := by decide +kernel
theorem tX3_why_65 : mdk MX3_why 65 (.invokevirtual 261) = true := by decide +kernel
theorem tX3_why_68 : mbk MX3_why 68 (.ifCond .ne 7) 75 = true := by decide +kernel
def bX3_why_71 : List mB := [(.iconst 1, mI (nI 1))]
theorem kX3_why_71 : mchk MX3_why 71 bX3_why_71 72 = true := by decide +kernel
theorem tX3_why_72 : mbk MX3_why 72 (.goto 17) 89 = true := by decide +kernel
def bX3_why_75 : List mB := [(.aload_n 0, mI 0), (.iload_n 1, mI 0), (.iload_n 2, mI 0)]
theorem kX3_why_75 : mchk MX3_why 75 bX3_why_75 78 = true := by decide +kernel
theorem tX3_why_78 : mdk MX3_why 78 (.invokevirtual 264) = true := by decide +kernel
theorem tX3_why_81 : mbk MX3_why 81 (.ifCond .eq 7) 88 = true := by decide +kernel
def bX3_why_84 : List mB := [(.iconst 2, mI (nI 2))]
theorem kX3_why_84 : mchk MX3_why 84 bX3_why_84 85 = true := by decide +kernel
theorem tX3_why_85 : mbk MX3_why 85 (.goto 4) 89 = true := by decide +kernel
def bX3_why_88 : List mB := [(.iconst 3, mI (nI 3))]
theorem kX3_why_88 : mchk MX3_why 88 bX3_why_88 89 = true := by decide +kernel
theorem tX3_why_89 : mrk MX3_why 89 .ireturn = true := by decide +kernel
def bX3_row_0 : List mB := [(.iload_n 1, mI 0), (.iconst 0, mI (nI 0)), (.bipush 8, mI (nI 8))]
theorem kX3_row_0 : mchk MX3_row 0 bX3_row_0 4 = true := by decide +kernel
theorem tX3_row_4 : mdk MX3_row 4 (.invokestatic 63) = true := by decide +kernel
def bX3_row_7 : List mB := [(.istore_n 2, mI 0), (.iload_n 2, mI 0)]
theorem kX3_row_7 : mchk MX3_row 7 bX3_row_7 9 = true := by decide +kernel
theorem tX3_row_9 : mbk MX3_row 9 (.ifCond .ne 15) 24 = true := by decide +kernel
def bX3_row_12 : List mB := [(.aload_n 0, mI 0), (.getfield 267, mR 3 29), (.bipush 20, mI (nI 20))]
theorem kX3_row_12 : mchk MX3_row 12 bX3_row_12 18 = true := by decide +kernel
theorem tX3_row_18 : mbk MX3_row 18 (.if_icmp .ne 6) 24 = true := by decide +kernel
def bX3_row_21 : List mB := [(.bipush (-6), mI (-6)), (.istore_n 2, mI 0)]
theorem kX3_row_21 : mchk MX3_row 21 bX3_row_21 24 = true := by decide +kernel
def bX3_row_24 : List mB := [(.iload_n 2, mI 0)]
theorem kX3_row_24 : mchk MX3_row 24 bX3_row_24 25 = true := by decide +kernel
theorem tX3_row_25 : mbk MX3_row 25 (.ifCond .eq 9) 34 = true := by decide +kernel
def bX3_row_28 : List mB := [(.aload_n 0, mI 0), (.iload_n 2, mI 0)]
theorem kX3_row_28 : mchk MX3_row 28 bX3_row_28 30 = true := by decide +kernel
theorem tX3_row_30 : mdk MX3_row 30 (.invokevirtual 70) = true := by decide +kernel
theorem tX3_row_33 : mrk MX3_row 33 .ireturn = true := by decide +kernel
def bX3_row_34 : List mB := [(.aload_n 0, mI 0), (.getfield 50, mR 3 28), (.aload_n 0, mI 0), (.getfield 267, mR 3 29), (.iload_n 1, mI 0), (.iastore, mI 0), (.aload_n 0, mI 0), (.dup, mI 0), (.getfield 267, mR 3 29), (.iconst 1, mI (nI 1)), (.iadd, mI 0), (.putfield 267, mR 3 29), (.aload_n 0, mI 0), (.getfield 267, mR 3 29)]
theorem kX3_row_34 : mchk MX3_row 34 bX3_row_34 58 = true := by decide +kernel
theorem tX3_row_58 : mrk MX3_row 58 .ireturn = true := by decide +kernel
def bX3_wrongAt_0 : List mB := [(.aload_n 0, mI 0), (.iconst 1, mI (nI 1)), (.iconst 1, mI (nI 1))]
theorem kX3_wrongAt_0 : mchk MX3_wrongAt 0 bX3_wrongAt_0 3 = true := by decide +kernel
theorem tX3_wrongAt_3 : mdk MX3_wrongAt 3 (.invokevirtual 119) = true := by decide +kernel
def bX3_wrongAt_6 : List mB := [(.bipush (-9), mI (-9)), (.istore_n 1, mI 0), (.iconst 0, mI (nI 0)), (.istore_n 2, mI 0)]
theorem kX3_wrongAt_6 : mchk MX3_wrongAt 6 bX3_wrongAt_6 11 = true := by decide +kernel
def bX3_wrongAt_11 : List mB := [(.iload_n 2, mI 0), (.aload_n 0, mI 0), (.getfield 267, mR 3 29)]
theorem kX3_wrongAt_11 : mchk MX3_wrongAt 11 bX3_wrongAt_11 16 = true := by decide +kernel
theorem tX3_wrongAt_16 : mbk MX3_wrongAt 16 (.if_icmp .ge 40) 56 = true := by decide +kernel
def bX3_wrongAt_19 : List mB := [(.iload_n 1, mI 0)]
theorem kX3_wrongAt_19 : mchk MX3_wrongAt 19 bX3_wrongAt_19 20 = true := by decide +kernel
theorem tX3_wrongAt_20 : mbk MX3_wrongAt 20 (.ifCond .ge 36) 56 = true := by decide +kernel
def bX3_wrongAt_23 : List mB := [(.aload_n 0, mI 0)]
theorem kX3_wrongAt_23 : mchk MX3_wrongAt 23 bX3_wrongAt_23 24 = true := by decide +kernel
theorem tX3_wrongAt_24 : mdk MX3_wrongAt 24 (.invokevirtual 208) = true := by decide +kernel
def bX3_wrongAt_27 : List mB := [(.aload_n 0, mI 0)]
theorem kX3_wrongAt_27 : mchk MX3_wrongAt 27 bX3_wrongAt_27 28 = true := by decide +kernel
theorem tX3_wrongAt_28 : mdk MX3_wrongAt 28 (.invokevirtual 214) = true := by decide +kernel
theorem tX3_wrongAt_31 : mdk MX3_wrongAt 31 (.invokestatic 220) = true := by decide +kernel
def bX3_wrongAt_34 : List mB := [(.aload_n 0, mI 0), (.getfield 50, mR 3 28), (.iload_n 2, mI 0), (.iaload, mI 0)]
theorem kX3_wrongAt_34 : mchk MX3_wrongAt 34 bX3_wrongAt_34 40 = true := by decide +kernel
theorem tX3_wrongAt_40 : mbk MX3_wrongAt 40 (.if_icmp .eq 7) 47 = true := by decide +kernel
def bX3_wrongAt_43 : List mB := [(.iload_n 2, mI 0)]
theorem kX3_wrongAt_43 : mchk MX3_wrongAt 43 bX3_wrongAt_43 44 = true := by decide +kernel
theorem tX3_wrongAt_44 : mbk MX3_wrongAt 44 (.goto 5) 49 = true := by decide +kernel
def bX3_wrongAt_47 : List mB := [(.bipush (-9), mI (-9))]
theorem kX3_wrongAt_47 : mchk MX3_wrongAt 47 bX3_wrongAt_47 49 = true := by decide +kernel
def bX3_wrongAt_49 : List mB := [(.istore_n 1, mI 0), (.iinc 2 1, mI (nI 1))]
theorem kX3_wrongAt_49 : mchk MX3_wrongAt 49 bX3_wrongAt_49 53 = true := by decide +kernel
theorem tX3_wrongAt_53 : mbk MX3_wrongAt 53 (.goto (-42)) 11 = true := by decide +kernel
def bX3_wrongAt_56 : List mB := [(.aload_n 0, mI 0), (.iconst 1, mI (nI 1)), (.iconst 0, mI (nI 0))]
theorem kX3_wrongAt_56 : mchk MX3_wrongAt 56 bX3_wrongAt_56 59 = true := by decide +kernel
theorem tX3_wrongAt_59 : mdk MX3_wrongAt 59 (.invokevirtual 119) = true := by decide +kernel
def bX3_wrongAt_62 : List mB := [(.iload_n 1, mI 0)]
theorem kX3_wrongAt_62 : mchk MX3_wrongAt 62 bX3_wrongAt_62 63 = true := by decide +kernel
theorem tX3_wrongAt_63 : mrk MX3_wrongAt 63 .ireturn = true := by decide +kernel
def bX3_fits_0 : List mB := [(.aload_n 0, mI 0), (.iload_n 1, mI 0)]
theorem kX3_fits_0 : mchk MX3_fits 0 bX3_fits_0 2 = true := by decide +kernel
theorem tX3_fits_2 : mdk MX3_fits 2 (.invokevirtual 106) = true := by decide +kernel
theorem tX3_fits_5 : mbk MX3_fits 5 (.ifCond .ne 9) 14 = true := by decide +kernel
def bX3_fits_8 : List mB := [(.aload_n 0, mI 0), (.iconst (-1), mI (-1))]
theorem kX3_fits_8 : mchk MX3_fits 8 bX3_fits_8 10 = true := by decide +kernel
theorem tX3_fits_10 : mdk MX3_fits 10 (.invokevirtual 70) = true := by decide +kernel
theorem tX3_fits_13 : mrk MX3_fits 13 .ireturn = true := by decide +kernel
def bX3_fits_14 : List mB := [(.aload_n 0, mI 0), (.getfield 16, mR 3 2), (.iload_n 1, mI 0), (.iaload, mI 0), (.istore_n 2, mI 0), (.iconst 0, mI (nI 0)), (.istore_n 3, mI 0), (.iconst 0, mI (nI 0)), (.istore 4, mI 0)]
theorem kX3_fits_14 : mchk MX3_fits 14 bX3_fits_14 26 = true := by decide +kernel
def bX3_fits_26 : List mB := [(.iload 4, mI 0), (.bipush 24, mI (nI 24))]
theorem kX3_fits_26 : mchk MX3_fits 26 bX3_fits_26 30 = true := by decide +kernel
theorem tX3_fits_30 : mbk MX3_fits 30 (.if_icmp .ge 35) 65 = true := by decide +kernel
def bX3_fits_33 : List mB := [(.aload_n 0, mI 0), (.getfield 16, mR 3 2), (.iload_n 1, mI 0), (.iload 4, mI 0), (.iastore, mI 0), (.iload_n 3, mI 0), (.aload_n 0, mI 0)]
theorem kX3_fits_33 : mchk MX3_fits 33 bX3_fits_33 43 = true := by decide +kernel
theorem tX3_fits_43 : mdk MX3_fits 43 (.invokevirtual 270) = true := by decide +kernel
theorem tX3_fits_46 : mbk MX3_fits 46 (.ifCond .ge 10) 56 = true := by decide +kernel
def bX3_fits_49 : List mB := [(.iconst 1, mI (nI 1)), (.iload 4, mI 0), (.ishl, mI 0)]
theorem kX3_fits_49 : mchk MX3_fits 49 bX3_fits_49 53 = true := by decide +kernel
theorem tX3_fits_53 : mbk MX3_fits 53 (.goto 4) 57 = true := by decide +kernel
def bX3_fits_56 : List mB := [(.iconst 0, mI (nI 0))]
theorem kX3_fits_56 : mchk MX3_fits 56 bX3_fits_56 57 = true := by decide +kernel
def bX3_fits_57 : List mB := [(.ior, mI 0), (.istore_n 3, mI 0), (.iinc 4 1, mI (nI 1))]
theorem kX3_fits_57 : mchk MX3_fits 57 bX3_fits_57 62 = true := by decide +kernel
theorem tX3_fits_62 : mbk MX3_fits 62 (.goto (-36)) 26 = true := by decide +kernel
def bX3_fits_65 : List mB := [(.aload_n 0, mI 0), (.getfield 16, mR 3 2), (.iload_n 1, mI 0), (.iload_n 2, mI 0), (.iastore, mI 0), (.iload_n 3, mI 0)]
theorem kX3_fits_65 : mchk MX3_fits 65 bX3_fits_65 73 = true := by decide +kernel
theorem tX3_fits_73 : mrk MX3_fits 73 .ireturn = true := by decide +kernel
def bX3_judge_0 : List mB := [(.aload_n 0, mI 0)]
theorem kX3_judge_0 : mchk MX3_judge 0 bX3_judge_0 1 = true := by decide +kernel
theorem tX3_judge_1 : mdk MX3_judge 1 (.invokevirtual 270) = true := by decide +kernel
def bX3_judge_4 : List mB := [(.istore_n 1, mI 0), (.aload_n 0, mI 0), (.iconst 0, mI (nI 0)), (.putfield 267, mR 3 29), (.iload_n 1, mI 0)]
theorem kX3_judge_4 : mchk MX3_judge 4 bX3_judge_4 11 = true := by decide +kernel
theorem tX3_judge_11 : mrk MX3_judge 11 .ireturn = true := by decide +kernel
def bX3_lots_0 : List mB := [(.iload_n 1, mI 0), (.iconst 1, mI (nI 1)), (.bipush 20, mI (nI 20))]
theorem kX3_lots_0 : mchk MX3_lots 0 bX3_lots_0 4 = true := by decide +kernel
theorem tX3_lots_4 : mdk MX3_lots 4 (.invokestatic 63) = true := by decide +kernel
def bX3_lots_7 : List mB := [(.istore_n 3, mI 0), (.iload_n 3, mI 0)]
theorem kX3_lots_7 : mchk MX3_lots 7 bX3_lots_7 9 = true := by decide +kernel
theorem tX3_lots_9 : mbk MX3_lots 9 (.ifCond .eq 9) 18 = true := by decide +kernel
def bX3_lots_12 : List mB := [(.aload_n 0, mI 0), (.iload_n 3, mI 0)]
theorem kX3_lots_12 : mchk MX3_lots 12 bX3_lots_12 14 = true := by decide +kernel
theorem tX3_lots_14 : mdk MX3_lots 14 (.invokevirtual 70) = true := by decide +kernel
theorem tX3_lots_17 : mrk MX3_lots 17 .ireturn = true := by decide +kernel
def bX3_lots_18 : List mB := [(.aload_n 0, mI 0), (.iconst 1, mI (nI 1)), (.iconst 1, mI (nI 1))]
theorem kX3_lots_18 : mchk MX3_lots 18 bX3_lots_18 21 = true := by decide +kernel
theorem tX3_lots_21 : mdk MX3_lots 21 (.invokevirtual 119) = true := by decide +kernel
def bX3_lots_24 : List mB := [(.iload_n 2, mI 0), (.istore 4, mI 0), (.iconst 0, mI (nI 0)), (.istore 5, mI 0), (.aload_n 0, mI 0), (.getfield 140, mR 3 9), (.istore 6, mI 0), (.iconst 0, mI (nI 0)), (.istore 7, mI 0)]
theorem kX3_lots_24 : mchk MX3_lots 24 bX3_lots_24 39 = true := by decide +kernel
def bX3_lots_39 : List mB := [(.iload 7, mI 0), (.iload_n 1, mI 0)]
theorem kX3_lots_39 : mchk MX3_lots 39 bX3_lots_39 42 = true := by decide +kernel
theorem tX3_lots_42 : mbk MX3_lots 42 (.if_icmp .ge 113) 155 = true := by decide +kernel
def bX3_lots_45 : List mB := [(.iconst 0, mI (nI 0)), (.istore 8, mI 0)]
theorem kX3_lots_45 : mchk MX3_lots 45 bX3_lots_45 48 = true := by decide +kernel
def bX3_lots_48 : List mB := [(.iload 8, mI 0), (.aload_n 0, mI 0), (.getfield 60, mR 3 7)]
theorem kX3_lots_48 : mchk MX3_lots 48 bX3_lots_48 54 = true := by decide +kernel
theorem tX3_lots_54 : mbk MX3_lots 54 (.if_icmp .ge 57) 111 = true := by decide +kernel
def bX3_lots_57 : List mB := [(.iload 4, mI 0), (.ldc_w 273, mI (nI 1664525)), (.imul, mI 0), (.ldc_w 274, mI (nI 1013904223)), (.iadd, mI 0), (.istore 4, mI 0), (.aload_n 0, mI 0), (.getfield 16, mR 3 2), (.iload 8, mI 0), (.iload 4, mI 0), (.ldc_w 275, mI (nI 2147483647)), (.iand, mI 0), (.sipush 256, mI (nI 256)), (.idiv, mI 0), (.bipush 24, mI (nI 24)), (.irem, mI 0), (.iastore, mI 0), (.aload_n 0, mI 0), (.getfield 22, mR 3 4), (.iload 8, mI 0), (.iconst 0, mI (nI 0)), (.iastore, mI 0), (.aload_n 0, mI 0), (.getfield 25, mR 3 5), (.iload 8, mI 0), (.iconst 0, mI (nI 0)), (.iastore, mI 0), (.iinc 8 1, mI (nI 1))]
theorem kX3_lots_57 : mchk MX3_lots 57 bX3_lots_57 108 = true := by decide +kernel
theorem tX3_lots_108 : mbk MX3_lots 108 (.goto (-60)) 48 = true := by decide +kernel
def bX3_lots_111 : List mB := [(.aload_n 0, mI 0), (.iload 6, mI 0), (.putfield 140, mR 3 9), (.iconst 0, mI (nI 0)), (.istore 8, mI 0)]
theorem kX3_lots_111 : mchk MX3_lots 111 bX3_lots_111 120 = true := by decide +kernel
def bX3_lots_120 : List mB := [(.iload 8, mI 0), (.bipush 30, mI (nI 30))]
theorem kX3_lots_120 : mchk MX3_lots 120 bX3_lots_120 124 = true := by decide +kernel
theorem tX3_lots_124 : mbk MX3_lots 124 (.if_icmp .ge 13) 137 = true := by decide +kernel
def bX3_lots_127 : List mB := [(.aload_n 0, mI 0)]
theorem kX3_lots_127 : mchk MX3_lots 127 bX3_lots_127 128 = true := by decide +kernel
theorem tX3_lots_128 : mdk MX3_lots 128 (.invokevirtual 208) = true := by decide +kernel
def bX3_lots_131 : List mB := [(.iinc 8 1, mI (nI 1))]
theorem kX3_lots_131 : mchk MX3_lots 131 bX3_lots_131 134 = true := by decide +kernel
theorem tX3_lots_134 : mbk MX3_lots 134 (.goto (-14)) 120 = true := by decide +kernel
def bX3_lots_137 : List mB := [(.iload 5, mI 0), (.aload_n 0, mI 0)]
theorem kX3_lots_137 : mchk MX3_lots 137 bX3_lots_137 140 = true := by decide +kernel
theorem tX3_lots_140 : mdk MX3_lots 140 (.invokevirtual 214) = true := by decide +kernel
theorem tX3_lots_143 : mdk MX3_lots 143 (.invokestatic 220) = true := by decide +kernel
def bX3_lots_146 : List mB := [(.iadd, mI 0), (.istore 5, mI 0), (.iinc 7 1, mI (nI 1))]
theorem kX3_lots_146 : mchk MX3_lots 146 bX3_lots_146 152 = true := by decide +kernel
theorem tX3_lots_152 : mbk MX3_lots 152 (.goto (-113)) 39 = true := by decide +kernel
def bX3_lots_155 : List mB := [(.aload_n 0, mI 0), (.iconst 1, mI (nI 1)), (.iconst 0, mI (nI 0))]
theorem kX3_lots_155 : mchk MX3_lots 155 bX3_lots_155 158 = true := by decide +kernel
theorem tX3_lots_158 : mdk MX3_lots 158 (.invokevirtual 119) = true := by decide +kernel
def bX3_lots_161 : List mB := [(.iload 5, mI 0)]
theorem kX3_lots_161 : mchk MX3_lots 161 bX3_lots_161 163 = true := by decide +kernel
theorem tX3_lots_163 : mrk MX3_lots 163 .ireturn = true := by decide +kernel
def bX3_count_0 : List mB := [(.iload_n 1, mI 0), (.bipush 11, mI (nI 11)), (.bipush 16, mI (nI 16))]
theorem kX3_count_0 : mchk MX3_count 0 bX3_count_0 5 = true := by decide +kernel
theorem tX3_count_5 : mdk MX3_count 5 (.invokestatic 81) = true := by decide +kernel
theorem tX3_count_8 : mbk MX3_count 8 (.ifCond .eq 13) 21 = true := by decide +kernel
def bX3_count_11 : List mB := [(.aload_n 0, mI 0), (.getfield 7, mR 3 0), (.iload_n 1, mI 0), (.bipush 10, mI (nI 10)), (.isub, mI 0), (.iaload, mI 0)]
theorem kX3_count_11 : mchk MX3_count 11 bX3_count_11 20 = true := by decide +kernel
theorem tX3_count_20 : mrk MX3_count 20 .ireturn = true := by decide +kernel
def bX3_count_21 : List mB := [(.iconst 0, mI (nI 0)), (.istore_n 2, mI 0), (.iload_n 1, mI 0)]
theorem kX3_count_21 : mchk MX3_count 21 bX3_count_21 24 = true := by decide +kernel
def sX3_count_24 : Instr := .tableswitch 150 0 8 #[52, 57, 67, 75, 80, 85, 112, 140, 145]
theorem tX3_count_24 : mswk MX3_count 24 sX3_count_24 52 = true := by decide +kernel
def bX3_count_76 : List mB := [(.aload_n 0, mI 0), (.getfield 60, mR 3 7)]
theorem kX3_count_76 : mchk MX3_count 76 bX3_count_76 80 = true := by decide +kernel
theorem tX3_count_80 : mrk MX3_count 80 .ireturn = true := by decide +kernel
def bX3_count_81 : List mB := [(.aload_n 0, mI 0), (.getfield 60, mR 3 7), (.aload_n 0, mI 0)]
theorem kX3_count_81 : mchk MX3_count 81 bX3_count_81 86 = true := by decide +kernel
theorem tX3_count_86 : mdk MX3_count 86 (.invokevirtual 235) = true := by decide +kernel
def bX3_count_89 : List mB := [(.isub, mI 0)]
theorem kX3_count_89 : mchk MX3_count 89 bX3_count_89 90 = true := by decide +kernel
theorem tX3_count_90 : mrk MX3_count 90 .ireturn = true := by decide +kernel
def bX3_count_91 : List mB := [(.aload_n 0, mI 0)]
theorem kX3_count_91 : mchk MX3_count 91 bX3_count_91 92 = true := by decide +kernel
theorem tX3_count_92 : mdk MX3_count 92 (.invokevirtual 214) = true := by decide +kernel
theorem tX3_count_95 : mdk MX3_count 95 (.invokestatic 220) = true := by decide +kernel
theorem tX3_count_98 : mrk MX3_count 98 .ireturn = true := by decide +kernel
def bX3_count_99 : List mB := [(.aload_n 0, mI 0), (.getfield 140, mR 3 9)]
theorem kX3_count_99 : mchk MX3_count 99 bX3_count_99 103 = true := by decide +kernel
theorem tX3_count_103 : mrk MX3_count 103 .ireturn = true := by decide +kernel
def bX3_count_104 : List mB := [(.aload_n 0, mI 0), (.getfield 112, mR 3 8)]
theorem kX3_count_104 : mchk MX3_count 104 bX3_count_104 108 = true := by decide +kernel
theorem tX3_count_108 : mrk MX3_count 108 .ireturn = true := by decide +kernel
def bX3_count_109 : List mB := [(.iconst 0, mI (nI 0)), (.istore_n 3, mI 0)]
theorem kX3_count_109 : mchk MX3_count 109 bX3_count_109 111 = true := by decide +kernel
def bX3_count_111 : List mB := [(.iload_n 3, mI 0), (.aload_n 0, mI 0), (.getfield 60, mR 3 7)]
theorem kX3_count_111 : mchk MX3_count 111 bX3_count_111 116 = true := by decide +kernel
theorem tX3_count_116 : mbk MX3_count 116 (.if_icmp .ge 18) 134 = true := by decide +kernel
def bX3_count_119 : List mB := [(.iload_n 2, mI 0), (.aload_n 0, mI 0), (.getfield 25, mR 3 5), (.iload_n 3, mI 0), (.iaload, mI 0), (.iadd, mI 0), (.istore_n 2, mI 0), (.iinc 3 1, mI (nI 1))]
theorem kX3_count_119 : mchk MX3_count 119 bX3_count_119 131 = true := by decide +kernel
theorem tX3_count_131 : mbk MX3_count 131 (.goto (-20)) 111 = true := by decide +kernel
def bX3_count_134 : List mB := [(.iload_n 2, mI 0)]
theorem kX3_count_134 : mchk MX3_count 134 bX3_count_134 135 = true := by decide +kernel
theorem tX3_count_135 : mrk MX3_count 135 .ireturn = true := by decide +kernel
def bX3_count_136 : List mB := [(.iconst 0, mI (nI 0)), (.istore_n 3, mI 0)]
theorem kX3_count_136 : mchk MX3_count 136 bX3_count_136 138 = true := by decide +kernel
def bX3_count_138 : List mB := [(.iload_n 3, mI 0), (.aload_n 0, mI 0), (.getfield 28, mR 3 6), (.arraylength, mI 0)]
theorem kX3_count_138 : mchk MX3_count 138 bX3_count_138 144 = true := by decide +kernel
theorem tX3_count_144 : mbk MX3_count 144 (.if_icmp .ge 18) 162 = true := by decide +kernel
def bX3_count_147 : List mB := [(.iload_n 2, mI 0), (.aload_n 0, mI 0), (.getfield 28, mR 3 6), (.iload_n 3, mI 0), (.iaload, mI 0), (.iadd, mI 0), (.istore_n 2, mI 0), (.iinc 3 1, mI (nI 1))]
theorem kX3_count_147 : mchk MX3_count 147 bX3_count_147 159 = true := by decide +kernel
theorem tX3_count_159 : mbk MX3_count 159 (.goto (-21)) 138 = true := by decide +kernel
def bX3_count_162 : List mB := [(.iload_n 2, mI 0)]
theorem kX3_count_162 : mchk MX3_count 162 bX3_count_162 163 = true := by decide +kernel
theorem tX3_count_163 : mrk MX3_count 163 .ireturn = true := by decide +kernel
def bX3_count_164 : List mB := [(.aload_n 0, mI 0), (.getfield 267, mR 3 29)]
theorem kX3_count_164 : mchk MX3_count 164 bX3_count_164 168 = true := by decide +kernel
theorem tX3_count_168 : mrk MX3_count 168 .ireturn = true := by decide +kernel
def bX3_count_169 : List mB := [(.aload_n 0, mI 0), (.getfield 67, mR 3 14)]
theorem kX3_count_169 : mchk MX3_count 169 bX3_count_169 173 = true := by decide +kernel
theorem tX3_count_173 : mrk MX3_count 173 .ireturn = true := by decide +kernel
def bX3_count_174 : List mB := [(.bipush (-9), mI (-9))]
theorem kX3_count_174 : mchk MX3_count 174 bX3_count_174 176 = true := by decide +kernel
theorem tX3_count_176 : mrk MX3_count 176 .ireturn = true := by decide +kernel
end
section
/-! ===== WHAT THE CLASS AND THE REFERENCE BOTH DO, in numbers ===== -/
def nd (x y : Nat) : Nat := (x - y) + (y - x)
def far (a b : Nat) : Nat := nd (a / 6) (b / 6) + nd (a % 6) (b % 6)
def edg (c : Nat) : Bool := c / 6 == 0 || c / 6 == 3 || c % 6 == 0 || c % 6 == 5
/-- the cell of a step: stay, up, down, left, right -/
def stp (c way : Nat) : Option Nat := match way with
  | 0 => some c
  | 1 => if 6 ≤ c then some (c - 6) else none
  | 2 => if c + 6 < 24 then some (c + 6) else none
  | 3 => if 0 < c % 6 then some (c - 1) else none
  | _ => if c % 6 < 5 then some (c + 1) else none
/-- a yard: kinds, cells, friends, tired, who stands, freed, how many children, law, second, freeings, who is set aside (8 and more: nobody) -/
abbrev Yd : Type := (Nat → Nat) × (Nat → Nat) × (Nat → Nat) × (Nat → Nat) × (Nat → Bool) × (Nat → Nat) × Nat × Nat × Nat × Nat × Nat
def dk (D : Yd) : Nat → Nat := D.1
def dc (D : Yd) : Nat → Nat := D.2.1
def df (D : Yd) : Nat → Nat := D.2.2.1
def dt (D : Yd) : Nat → Nat := D.2.2.2.1
def ds (D : Yd) : Nat → Bool := D.2.2.2.2.1
def dr (D : Yd) : Nat → Nat := D.2.2.2.2.2.1
def dn (D : Yd) : Nat := D.2.2.2.2.2.2.1
def dl (D : Yd) : Nat := D.2.2.2.2.2.2.2.1
def de (D : Yd) : Nat := D.2.2.2.2.2.2.2.2.1
def dg (D : Yd) : Nat := D.2.2.2.2.2.2.2.2.2.1
def da (D : Yd) : Nat := D.2.2.2.2.2.2.2.2.2.2
def uk (D : Yd) (f : Nat → Nat) : Yd := (f, dc D, df D, dt D, ds D, dr D, dn D, dl D, de D, dg D, da D)
def uc (D : Yd) (f : Nat → Nat) : Yd := (dk D, f, df D, dt D, ds D, dr D, dn D, dl D, de D, dg D, da D)
def uf (D : Yd) (f : Nat → Nat) : Yd := (dk D, dc D, f, dt D, ds D, dr D, dn D, dl D, de D, dg D, da D)
def ut (D : Yd) (f : Nat → Nat) : Yd := (dk D, dc D, df D, f, ds D, dr D, dn D, dl D, de D, dg D, da D)
def us (D : Yd) (f : Nat → Bool) : Yd := (dk D, dc D, df D, dt D, f, dr D, dn D, dl D, de D, dg D, da D)
def ur (D : Yd) (f : Nat → Nat) : Yd := (dk D, dc D, df D, dt D, ds D, f, dn D, dl D, de D, dg D, da D)
def un (D : Yd) (x : Nat) : Yd := (dk D, dc D, df D, dt D, ds D, dr D, x, dl D, de D, dg D, da D)
def ul (D : Yd) (x : Nat) : Yd := (dk D, dc D, df D, dt D, ds D, dr D, dn D, x, de D, dg D, da D)
def ue (D : Yd) (x : Nat) : Yd := (dk D, dc D, df D, dt D, ds D, dr D, dn D, dl D, x, dg D, da D)
def ug (D : Yd) (x : Nat) : Yd := (dk D, dc D, df D, dt D, ds D, dr D, dn D, dl D, de D, x, da D)
def ua (D : Yd) (x : Nat) : Yd := (dk D, dc D, df D, dt D, ds D, dr D, dn D, dl D, de D, dg D, x)
def isC (D : Yd) (i : Nat) : Bool := decide (4 ≤ dk D i)
/-- how far the nearest catcher below i is from a cell -/
def capL (D : Yd) (c : Nat) : Nat → Nat
  | 0 => 99
  | i + 1 => if isC D i then (if far c (dc D i) < capL D c i then far c (dc D i) else capL D c i) else capL D c i
def cap (D : Yd) (c : Nat) : Nat := capL D c (dn D)
/-- the first below i -/
def fst1 (q : Nat → Bool) : Nat → Option Nat
  | 0 => none
  | i + 1 => match fst1 q i with
    | some b => some b
    | none => if q i then some i else none
/-- the nearest below i, of several the first -/
def nrst (q : Nat → Bool) (d : Nat → Nat) : Nat → Option Nat
  | 0 => none
  | i + 1 => match nrst q d i with
    | some b => if q i && decide (d i < d b) then some i else some b
    | none => if q i then some i else none
def cnt (q : Nat → Bool) : Nat → Nat
  | 0 => 0
  | i + 1 => cnt q i + (if q i then 1 else 0)
def sumN (f : Nat → Nat) : Nat → Nat
  | 0 => 0
  | i + 1 => sumN f i + f i
def bts (q : Nat → Bool) : Nat → Nat
  | 0 => 0
  | i + 1 => bts q i + (if q i then 2 ^ i else 0)
def awS (D : Yd) (c b way : Nat) : Nat := match stp c way with
  | some t => if cap D b < cap D t then t else b
  | none => b
def awy (D : Yd) (c : Nat) : Nat := awS D c (awS D c (awS D c (awS D c c 1) 2) 3) 4
def twS (c aim b way : Nat) : Nat := match stp c way with
  | some t => if far t aim < far b aim then t else b
  | none => b
def twd (c aim : Nat) : Nat := twS c aim (twS c aim (twS c aim (twS c aim c 1) 2) 3) 4
/-- by his kind one may free another -/
def mayK (D : Yd) (i o : Nat) : Bool := dk D i == 1 || (dk D i == 2 && df D i == o)
def wnt (D : Yd) (i o : Nat) : Bool := ds D o && mayK D i o
def nearMay (D : Yd) (i : Nat) : Option Nat := fst1 (fun o => wnt D i o && decide (far (dc D i) (dc D o) ≤ 1)) (dn D)
def aimMay (D : Yd) (i : Nat) : Option Nat := nrst (wnt D i) (fun o => far (dc D i) (dc D o)) (dn D)
/-- whom he frees, if he frees one -/
def frS (D : Yd) (i whom o : Nat) : Bool := ds D o && (if dl D = 2 then decide (far (dc D i) (dc D o) ≤ 1) else o == whom)
/-- those of q are freed by i -/
def frd (D : Yd) (i : Nat) (q : Nat → Bool) : Yd := ug (ur (us D (fun j => ds D j && !q j)) (fun x => if x / 8 = i ∧ q (x % 8) = true then (if dr D x < 99 then dr D x + 1 else 99) else dr D x)) (dg D + cnt q (dn D))
def tir (t : Nat) (stays : Bool) : Nat := if stays then t - 1 else (if t < 9 then t + 1 else 9)
/-- where a runner goes, and what is then -/
def runs (D : Yd) (i : Nat) : Yd × Nat :=
  if dk D i = 3 then (D, if edg (dc D i) && decide (1 < cap D (dc D i)) then dc D i else awy D (dc D i))
  else match nearMay D i with
    | some o => (frd D i (frS D i o), dc D i)
    | none => match aimMay D i with
      | some a => (D, if 1 < cap D (dc D i) then twd (dc D i) (dc D a) else awy D (dc D i))
      | none => (D, awy D (dc D i))
def ply (D : Yd) (i : Nat) : Yd :=
  if ds D i = true ∨ i = da D then ut D (va_up (dt D) i (dt D i - 1))
  else if dt D i = 9 then ut D (va_up (dt D) i 0)
  else ut (uc (runs D i).1 (va_up (dc D) i (runs D i).2)) (va_up (dt D) i (tir (dt D i) ((runs D i).2 == dc D i)))
def rnr (D : Yd) (o : Nat) : Bool := !isC D o && !ds D o
def tch (D : Yd) (i o : Nat) : Bool := rnr D o && (!(o == da D) && (!(dl D == 1 && edg (dc D o)) && decide (far (dc D i) (dc D o) ≤ 1)))
def cat (D : Yd) (i : Nat) : Yd :=
  if dk D i = 7 ∧ de D % 3 = 0 then D
  else match fst1 (tch D i) (dn D) with
    | some o => us D (va_up (ds D) o true)
    | none => match nrst (ds D) (fun o => far (dc D i) (dc D o)) (dn D) with
      | some a => if dk D i = 6 then D else if dk D i = 5 then (if 1 < far (dc D i) (dc D a) then uc D (va_up (dc D) i (twd (dc D i) (dc D a))) else D) else (match nrst (rnr D) (fun o => far (dc D i) (dc D o)) (dn D) with
        | some b => uc D (va_up (dc D) i (twd (dc D i) (dc D b)))
        | none => D)
      | none => match nrst (rnr D) (fun o => far (dc D i) (dc D o)) (dn D) with
        | some b => uc D (va_up (dc D) i (twd (dc D i) (dc D b)))
        | none => D
def act (D : Yd) (i : Nat) : Yd := if isC D i then cat D i else ply D i
def actN (D : Yd) : Nat → Yd
  | 0 => D
  | i + 1 => act (actN D i) i
def tnth (D : Yd) : Yd := if dl D = 3 ∧ de D % 10 = 0 then us D (fun _ => false) else D
def pass (D : Yd) : Yd := ue (actN (tnth D) (dn D)) (de D + 1)
def passN (D : Yd) : Nat → Yd
  | 0 => D
  | i + 1 => pass (passN D i)
/-- what is so of every yard -/
def YI (D : Yd) : Prop := dn D ≤ 8 ∧ (∀ j, j < dn D → dk D j < 8 ∧ dc D j < 24 ∧ df D j < 8) ∧ (∀ j, dt D j ≤ 9) ∧ (∀ j, ds D j = true → j < dn D ∧ dk D j < 4) ∧ (∀ j, dn D ≤ j → dt D j = 0) ∧ (∀ x, dr D x ≤ 99) ∧ (∀ x, dn D ≤ x / 8 ∨ dn D ≤ x % 8 → dr D x = 0) ∧ dl D < 4 ∧ de D < 100000
end
section
/-! ===== numbers and bits ===== -/
theorem nI_and (a b : Nat) : nI a &&& nI b = nI (a &&& b) := by
  apply Int32.toBitVec_inj.mp
  unfold nI
  simp only [Int32.toBitVec_and, Int32.toBitVec_ofNat']
  apply BitVec.eq_of_getLsbD_eq
  intro i hi
  simp [BitVec.getLsbD_ofNat, hi]
theorem nI_or (a b : Nat) : nI a ||| nI b = nI (a ||| b) := by
  apply Int32.toBitVec_inj.mp
  unfold nI
  simp only [Int32.toBitVec_or, Int32.toBitVec_ofNat']
  apply BitVec.eq_of_getLsbD_eq
  intro i hi
  simp [BitVec.getLsbD_ofNat, hi]
theorem nI_xor (a b : Nat) : nI a ^^^ nI b = nI (a ^^^ b) := by
  apply Int32.toBitVec_inj.mp
  unfold nI
  simp only [Int32.toBitVec_xor, Int32.toBitVec_ofNat']
  apply BitVec.eq_of_getLsbD_eq
  intro i hi
  simp [BitVec.getLsbD_ofNat, hi]
theorem bts_lt (q : Nat → Bool) : ∀ k, bts q k < 2 ^ k
  | 0 => by simp [bts]
  | k + 1 => by
    have h := bts_lt q k
    have h2 : 2 ^ (k + 1) = 2 * 2 ^ k := by rw [Nat.pow_succ, Nat.mul_comm]
    unfold bts
    split <;> omega
theorem bts_bit (q : Nat → Bool) : ∀ k j, (bts q k).testBit j = (decide (j < k) && q j)
  | 0, j => by simp [bts]
  | k + 1, j => by
    have h := bts_bit q k j
    have hl := bts_lt q k
    unfold bts
    by_cases hq : q k = true
    · rw [if_pos hq, Nat.add_comm, ← Nat.one_mul (2 ^ k), Nat.mul_comm 1, Nat.testBit_two_pow_mul_add _ hl]
      by_cases hj : j < k
      · rw [if_pos hj, h]
        simp [hj]; omega
      · rw [if_neg hj]
        by_cases hjk : j = k
        · subst hjk; simp [hq]
        · have : j - k ≠ 0 := by omega
          have h3 : ¬ j < k + 1 := by omega
          simp [h3]
          cases hh : j - k with
          | zero => omega
          | succ z => simp [Nat.testBit_succ]
    · rw [if_neg hq, Nat.add_zero, h]
      by_cases hj : j < k
      · simp [hj]; omega
      · by_cases hjk : j = k
        · subst hjk; simp [hq]
        · have h3 : ¬ j < k + 1 := by omega
          simp [hj, h3]
theorem bts_ext {q : Nat → Bool} {x k : Nat} (hx : x < 2 ^ k) (h : ∀ j, j < k → x.testBit j = q j) : x = bts q k := by
  apply Nat.eq_of_testBit_eq
  intro j
  rw [bts_bit]
  by_cases hj : j < k
  · simp [hj, h j hj]
  · have : x < 2 ^ j := Nat.lt_of_lt_of_le hx (Nat.pow_le_pow_right (by decide) (by omega))
    rw [Nat.testBit_lt_two_pow this]
    simp [hj]
theorem bts_congr {q q' : Nat → Bool} {k : Nat} (h : ∀ j, j < k → q j = q' j) : bts q k = bts q' k := by
  apply bts_ext (bts_lt q k)
  intro j hj
  rw [bts_bit]
  simp [hj, h j hj]
theorem bts_cut {q : Nat → Bool} {n : Nat} (h : ∀ j, q j = true → j < n) (hn : n ≤ 8) : bts q n = bts q 8 := by
  refine bts_ext (Nat.lt_of_lt_of_le (bts_lt q n) (Nat.pow_le_pow_right (by decide) hn)) (fun j hj => ?_)
  rw [bts_bit]
  by_cases hjn : j < n
  · simp [hjn]
  · cases hq : q j with
    | false => simp
    | true => exact absurd (h j hq) hjn
theorem b256 (q : Nat → Bool) : bts q 8 < 256 := bts_lt q 8
theorem tb_shr : ∀ m, m < 256 → ∀ c, c < 8 → mshr (nI m) (nI c) &&& nI 1 = nI (if m.testBit c then 1 else 0) := by decide +kernel
theorem tb_shl : ∀ c, c < 8 → mshl (nI 1) (nI c) = nI (2 ^ c) := by decide +kernel
theorem tb_not : ∀ m, m < 256 → ∀ c, c < 256 → nI m &&& (nI c ^^^ (-1)) = nI (m &&& (255 - c)) := by decide +kernel
theorem tb_m1 : ∀ m, m < 256 → nI m &&& (-1) = nI m := by decide +kernel
theorem tb_m1b : ∀ c, c < 8 → mshr (-1) (nI c) &&& nI 1 = nI 1 := by decide +kernel
theorem tb_pow : ∀ c, c < 8 → 2 ^ c < 256 := by decide
theorem tb_tp : ∀ c, c < 8 → ∀ j, j < 8 → (2 ^ c).testBit j = decide (j = c) := by decide
theorem tb_neg : ∀ c, c < 256 → ∀ j, j < 8 → (255 - c).testBit j = !c.testBit j := by decide +kernel
theorem b_at {q : Nat → Bool} {c : Nat} (hc : c < 8) : mshr (nI (bts q 8)) (nI c) &&& nI 1 = nI (if q c then 1 else 0) := by
  rw [tb_shr _ (b256 q) c hc, bts_bit]
  simp [hc]
theorem b_or {q : Nat → Bool} {c : Nat} (hc : c < 8) : nI (bts q 8) ||| mshl (nI 1) (nI c) = nI (bts (va_up q c true) 8) := by
  rw [tb_shl c hc, nI_or]
  congr 1
  refine bts_ext (Nat.or_lt_two_pow (b256 q) (tb_pow c hc)) (fun j hj => ?_)
  rw [Nat.testBit_or, bts_bit, tb_tp c hc j hj]
  unfold va_up
  by_cases h : j = c <;> simp [h, hj, hc]
theorem b_xor {q : Nat → Bool} {c : Nat} (hc : c < 8) : nI (bts q 8) ^^^ mshl (nI 1) (nI c) = nI (bts (va_up q c (!q c)) 8) := by
  rw [tb_shl c hc, nI_xor]
  congr 1
  refine bts_ext (Nat.xor_lt_two_pow (b256 q) (tb_pow c hc)) (fun j hj => ?_)
  rw [Nat.testBit_xor, bts_bit, tb_tp c hc j hj]
  unfold va_up
  by_cases h : j = c <;> simp [h, hj, hc]
theorem b_and {q q' : Nat → Bool} : nI (bts q 8) &&& nI (bts q' 8) = nI (bts (fun j => q j && q' j) 8) := by
  rw [nI_and]
  congr 1
  refine bts_ext (Nat.and_lt_two_pow _ (b256 q')) (fun j hj => ?_)
  rw [Nat.testBit_and, bts_bit, bts_bit]
  simp [hj]
theorem b_andn {q q' : Nat → Bool} : nI (bts q 8) &&& (nI (bts q' 8) ^^^ (-1)) = nI (bts (fun j => q j && !q' j) 8) := by
  rw [tb_not _ (b256 q) _ (b256 q')]
  congr 1
  refine bts_ext (Nat.and_lt_two_pow _ (by omega)) (fun j hj => ?_)
  rw [Nat.testBit_and, tb_neg _ (b256 q') j hj, bts_bit, bts_bit]
  simp [hj]
theorem b_pow {c : Nat} (hc : c < 8) : mshl (nI 1) (nI c) = nI (bts (fun j => j == c) 8) := by
  rw [tb_shl c hc]
  congr 1
  refine bts_ext (tb_pow c hc) (fun j hj => ?_)
  rw [tb_tp c hc j hj]
  by_cases h : j = c <;> simp [h]
theorem b_clr {q : Nat → Bool} {c : Nat} (hc : c < 8) : nI (bts q 8) &&& (mshl (nI 1) (nI c) ^^^ (-1)) = nI (bts (va_up q c false) 8) := by
  rw [b_pow hc, b_andn]
  congr 1
  refine bts_congr (fun j hj => ?_)
  unfold va_up
  by_cases h : j = c <;> simp [h]
theorem b_zero : nI 0 = nI (bts (fun _ => false) 8) := by decide
theorem b_eq0 {q : Nat → Bool} : nI (bts q 8) = nI 0 ↔ ∀ j, j < 8 → q j = false := by
  rw [nI_eq (Nat.lt_trans (b256 q) (by decide)) (by decide)]
  constructor
  · intro h j hj
    have := bts_bit q 8 j
    rw [h] at this
    simpa [hj] using this.symm
  · intro h
    exact (bts_ext (q := q) (x := 0) (k := 8) (by decide) (fun j hj => by rw [h j hj]; simp)).symm
theorem b_inj {q q' : Nat → Bool} : nI (bts q 8) = nI (bts q' 8) ↔ ∀ j, j < 8 → q j = q' j := by
  rw [nI_eq (Nat.lt_trans (b256 q) (by decide)) (Nat.lt_trans (b256 q') (by decide))]
  constructor
  · intro h j hj
    have h1 := bts_bit q 8 j
    have h2 := bts_bit q' 8 j
    rw [h, h2] at h1
    simpa [hj] using h1.symm
  · exact fun h => bts_congr h
theorem cnt_congr {q q' : Nat → Bool} : ∀ {k : Nat}, (∀ j, j < k → q j = q' j) → cnt q k = cnt q' k
  | 0, _ => rfl
  | k + 1, h => by
    unfold cnt
    rw [cnt_congr (fun j hj => h j (by omega)), h k (by omega)]
theorem cnt_le (q : Nat → Bool) : ∀ k, cnt q k ≤ k
  | 0 => Nat.le_refl _
  | k + 1 => by
    have := cnt_le q k
    unfold cnt
    split <;> omega
theorem cnt_cut {q : Nat → Bool} {n : Nat} (h : ∀ j, q j = true → j < n) : ∀ {m : Nat}, n ≤ m → cnt q m = cnt q n
  | 0, hm => by have : n = 0 := by omega
                subst this; rfl
  | m + 1, hm => by
    by_cases e : n = m + 1
    · rw [e]
    · have hq : q m ≠ true := fun z => by have := h m z; omega
      show cnt q m + (if q m = true then 1 else 0) = cnt q n
      rw [if_neg hq, cnt_cut h (by omega)]
      rfl
theorem imn_n {a b : Nat} (ha : a < 2 ^ 31) (hb : b < 2 ^ 31) : imn (nI a) (nI b) = nI (if b < a then b else a) := by
  unfold imn
  by_cases h : b < a
  · rw [if_pos ((nI_ltI hb ha).mpr h), if_pos h]
  · rw [if_neg (fun z => h ((nI_ltI hb ha).mp z)), if_neg h]
theorem imx_n {a b : Nat} (ha : a < 2 ^ 31) (hb : b < 2 ^ 31) : imx (nI a) (nI b) = nI (if a < b then b else a) := by
  unfold imx
  by_cases h : a < b
  · rw [if_pos ((nI_ltI ha hb).mpr h), if_pos h]
  · rw [if_neg (fun z => h ((nI_ltI ha hb).mp z)), if_neg h]
theorem mrem_n {a b : Nat} (ha : a < 2 ^ 31) (h0 : 0 < b) (hb : b < 2 ^ 31) : mrem (nI a) (nI b) = nI (a % b) := pk_rem ha h0 hb
theorem far_le : ∀ a, a < 24 → ∀ b, b < 24 → far a b ≤ 8 := by decide +kernel
theorem stp_lt : ∀ c, c < 24 → ∀ way, way < 5 → (stp c way).all (fun t => decide (t < 24)) = true := by decide +kernel
theorem nI_m1 {a : Nat} (h : a < 2 ^ 31) : (nI a = -1) = False := by
  apply eq_false
  intro e
  have := congrArg Int32.toInt e
  rw [nI_toInt h] at this
  have h2 : (-1 : Int32).toInt = -1 := by decide
  omega
theorem nI_m9 {a : Nat} (h : a < 2 ^ 31) : (nI a = -9) = False := by
  apply eq_false
  intro e
  have := congrArg Int32.toInt e
  rw [nI_toInt h] at this
  have h2 : (-9 : Int32).toInt = -9 := by decide
  omega
end
section
/-! ===== calls with the contract first; loops; a yard of the class ===== -/
section EV2
variable {l : Launch} {d d1 : Nat} {M M1 : mM} {pc idx n : Nat} {L : List (Option mV)} {S S0 : List mV} {w : mW} {Q Q1 : Option mV → mW → Prop}
theorem Ev.cS {as : List mV} (hE : Cl l d1 M1 as w Q1) (hk : mdk M pc (.invokestatic idx) = true) (hl : mlk M.1.cls idx M1 true n = true) (hS : S = as.reverse ++ S0) (hn : as.length = n ∧ Nat.ble (mexp as).length M1.2.2.1 = true ∧ Nat.ble (mcs S0) 8 = true) (hd : d1 + 1 ≤ d) (k : ∀ r u, Q1 r u → Ev l d M (pc + 3) L (r.toList ++ S0) u Q) : Ev l d M pc L S w Q :=
  Ev.calS hk hl hS ⟨hn.1, Nat.le_of_ble_eq_true hn.2.1, Nat.le_of_ble_eq_true hn.2.2⟩ hd hE k
theorem Ev.cV {as : List mV} {t j : Nat} (hE : Cl l d1 M1 (mR t j :: as) w Q1) (hk : mdk M pc (.invokevirtual idx) = true) (hl : mlk M.1.cls idx M1 false n = true) (hS : S = as.reverse ++ mR t j :: S0) (ht : mrcv t = M1.1.cls) (hC : M1.1.cls ≠ "") (hn : as.length = n ∧ Nat.ble (mexp (mR t j :: as)).length M1.2.2.1 = true ∧ Nat.ble (mcs S0) 8 = true) (hd : d1 + 1 ≤ d) (k : ∀ r u, Q1 r u → Ev l d M (pc + 3) L (r.toList ++ S0) u Q) : Ev l d M pc L S w Q :=
  Ev.calV hk hl hS ht hC ⟨hn.1, Nat.le_of_ble_eq_true hn.2.1, Nat.le_of_ble_eq_true hn.2.2⟩ hd hE k
theorem Ev.for (I : Nat → List (Option mV) → mW → Prop) (n : Nat) (hend : ∀ L w, I n L w → Ev l d M pc L [] w Q) (hstep : ∀ i L w, i < n → I i L w → (∀ L1 w1, I (i + 1) L1 w1 → Ev l d M pc L1 [] w1 Q) → Ev l d M pc L [] w Q) (i : Nat) (hi : i ≤ n) (h0 : I i L w) : Ev l d M pc L [] w Q := by
  obtain ⟨k, rfl⟩ : ∃ k, n = i + k := ⟨n - i, by omega⟩
  induction k generalizing i L w with
  | zero => exact hend L w h0
  | succ k ih =>
    refine hstep i L w (by omega) h0 (fun L1 w1 h1 => ?_)
    refine ih (i + 1) h1 ?_ ?_ (by omega)
    · intro L w h
      exact hend L w (by rw [show i + (k + 1) = i + 1 + k by omega]; exact h)
    · intro j L w hj
      exact hstep j L w (by omega)
end EV2
theorem mgf_pf {w : mW} {t i k : Nat} {v : Int32} : mgf (mpf w t i k v) t i k = v := by simp [mgf, mpf]
theorem mgf_pfn {w : mW} {t i k t' i' k' : Nat} {v : Int32} (h : ¬ (t' = t ∧ i' = i ∧ k' = k)) : mgf (mpf w t i k v) t' i' k' = mgf w t' i' k' := by simp only [mgf, mpf, h, if_false]
theorem mga_pf {w : mW} {t i k t' i' : Nat} {v : Int32} : mga (mpf w t i k v) t' i' = mga w t' i' := rfl
theorem mgf_pA {w : mW} {t i t' i' k' : Nat} {f : Nat → Int32} : mgf (mpA w t i f) t' i' k' = mgf w t' i' k' := rfl
theorem mga_pA {w : mW} {t i : Nat} {f : Nat → Int32} : mga (mpA w t i f) t i = f := by simp [mga, mpA]
theorem mga_pAn {w : mW} {t i t' i' : Nat} {f : Nat → Int32} (h : ¬ (t' = t ∧ i' = i)) : mga (mpA w t i f) t' i' = mga w t' i' := by simp only [mga, mpA, h, if_false]
theorem ix8 {i : Nat} (h : i < 8) : (nI i).toNatClampNeg = i := nI_clamp (by omega)
theorem ixN {i : Nat} (h : i < 1000) : (nI i).toNatClampNeg = i := nI_clamp (by omega)
theorem vinN {i N : Nat} (h : i < N) (hN : N < 1000) : vp_in (nI i) N := vp_in_nI h (by omega)
theorem upd_nI {f : Nat → Int32} {g : Nat → Nat} {i v N : Nat} (h : ∀ j, j < N → f j = nI (g j)) : ∀ j, j < N → upd f i (nI v) j = nI (va_up g i v j) := by
  intro j hj
  unfold upd va_up
  by_cases e : j = i
  · rw [if_pos e, if_pos e]
  · rw [if_neg e, if_neg e]; exact h j hj
/-- the class's word for who is set aside -/
def enA (a : Nat) : Int32 := if a < 8 then nI a else -1
def YardAt (w : mW) (y : Nat) (D : Yd) : Prop :=
  ((∀ j, j < 8 → mga w 2 y j = nI (dk D j)) ∧ (∀ j, j < 8 → mga w 3 y j = nI (dc D j)) ∧ (∀ j, j < 8 → mga w 4 y j = nI (df D j)) ∧ (∀ j, j < 8 → mga w 5 y j = nI (dt D j)) ∧ (∀ j, j < 64 → mga w 6 y j = nI (dr D j))) ∧
  mgf w 1 y 5 = nI (dn D) ∧ mgf w 1 y 6 = nI (bts (ds D) 8) ∧ mgf w 1 y 7 = nI (dl D) ∧ mgf w 1 y 8 = nI (de D) ∧ mgf w 1 y 9 = nI (dg D) ∧ mgf w 1 y 10 = enA (da D)
section YA
variable {w w1 w2 : mW} {y : Nat} {D : Yd}
theorem YardAt.k (h : YardAt w y D) {j : Nat} (hj : j < 8) : mga w 2 y j = nI (dk D j) := h.1.1 j hj
theorem YardAt.c (h : YardAt w y D) {j : Nat} (hj : j < 8) : mga w 3 y j = nI (dc D j) := h.1.2.1 j hj
theorem YardAt.f (h : YardAt w y D) {j : Nat} (hj : j < 8) : mga w 4 y j = nI (df D j) := h.1.2.2.1 j hj
theorem YardAt.t (h : YardAt w y D) {j : Nat} (hj : j < 8) : mga w 5 y j = nI (dt D j) := h.1.2.2.2.1 j hj
theorem YardAt.r (h : YardAt w y D) {j : Nat} (hj : j < 64) : mga w 6 y j = nI (dr D j) := h.1.2.2.2.2 j hj
theorem YardAt.n (h : YardAt w y D) : mgf w 1 y 5 = nI (dn D) := h.2.1
theorem YardAt.s (h : YardAt w y D) : mgf w 1 y 6 = nI (bts (ds D) 8) := h.2.2.1
theorem YardAt.l (h : YardAt w y D) : mgf w 1 y 7 = nI (dl D) := h.2.2.2.1
theorem YardAt.e (h : YardAt w y D) : mgf w 1 y 8 = nI (de D) := h.2.2.2.2.1
theorem YardAt.g (h : YardAt w y D) : mgf w 1 y 9 = nI (dg D) := h.2.2.2.2.2.1
theorem YardAt.a (h : YardAt w y D) : mgf w 1 y 10 = enA (da D) := h.2.2.2.2.2.2
/-- all but the yard y is as it was -/
def Off (y : Nat) (w w1 : mW) : Prop := (∀ t i k, ¬ (t = 1 ∧ i = y) → mgf w1 t i k = mgf w t i k) ∧ ∀ t i, ¬ ((2 ≤ t ∧ t ≤ 6) ∧ i = y) → mga w1 t i = mga w t i
theorem Off.rf : Off y w w := ⟨fun _ _ _ _ => rfl, fun _ _ _ => rfl⟩
theorem Off.tr (h : Off y w w1) (h2 : Off y w1 w2) : Off y w w2 := ⟨fun t i k hn => (h2.1 t i k hn).trans (h.1 t i k hn), fun t i hn => (h2.2 t i hn).trans (h.2 t i hn)⟩
theorem Off.pf {k : Nat} {v : Int32} : Off y w (mpf w 1 y k v) := ⟨fun t i k' hn => mgf_pfn (fun ⟨a, b, _⟩ => hn ⟨a, b⟩), fun _ _ _ => rfl⟩
theorem Off.pA {t : Nat} {f : Nat → Int32} (ht : 2 ≤ t ∧ t ≤ 6) : Off y w (mpA w t y f) := ⟨fun _ _ _ _ => rfl, fun t' i hn => mga_pAn (fun ⟨a, b⟩ => hn ⟨by omega, b⟩)⟩
theorem YardAt.pN (h : YardAt w y D) {x : Nat} : YardAt (mpf w 1 y 5 (nI x)) y (un D x) := ⟨h.1, mgf_pf, by rw [mgf_pfn (by simp)]; exact h.s, by rw [mgf_pfn (by simp)]; exact h.l, by rw [mgf_pfn (by simp)]; exact h.e, by rw [mgf_pfn (by simp)]; exact h.g, by rw [mgf_pfn (by simp)]; exact h.a⟩
theorem YardAt.pS (h : YardAt w y D) {q : Nat → Bool} : YardAt (mpf w 1 y 6 (nI (bts q 8))) y (us D q) := ⟨h.1, by rw [mgf_pfn (by simp)]; exact h.n, mgf_pf, by rw [mgf_pfn (by simp)]; exact h.l, by rw [mgf_pfn (by simp)]; exact h.e, by rw [mgf_pfn (by simp)]; exact h.g, by rw [mgf_pfn (by simp)]; exact h.a⟩
theorem YardAt.pL (h : YardAt w y D) {x : Nat} : YardAt (mpf w 1 y 7 (nI x)) y (ul D x) := ⟨h.1, by rw [mgf_pfn (by simp)]; exact h.n, by rw [mgf_pfn (by simp)]; exact h.s, mgf_pf, by rw [mgf_pfn (by simp)]; exact h.e, by rw [mgf_pfn (by simp)]; exact h.g, by rw [mgf_pfn (by simp)]; exact h.a⟩
theorem YardAt.pE (h : YardAt w y D) {x : Nat} : YardAt (mpf w 1 y 8 (nI x)) y (ue D x) := ⟨h.1, by rw [mgf_pfn (by simp)]; exact h.n, by rw [mgf_pfn (by simp)]; exact h.s, by rw [mgf_pfn (by simp)]; exact h.l, mgf_pf, by rw [mgf_pfn (by simp)]; exact h.g, by rw [mgf_pfn (by simp)]; exact h.a⟩
theorem YardAt.pG (h : YardAt w y D) {x : Nat} : YardAt (mpf w 1 y 9 (nI x)) y (ug D x) := ⟨h.1, by rw [mgf_pfn (by simp)]; exact h.n, by rw [mgf_pfn (by simp)]; exact h.s, by rw [mgf_pfn (by simp)]; exact h.l, by rw [mgf_pfn (by simp)]; exact h.e, mgf_pf, by rw [mgf_pfn (by simp)]; exact h.a⟩
theorem YardAt.pa (h : YardAt w y D) {x : Nat} {v : Int32} (hv : v = enA x) : YardAt (mpf w 1 y 10 v) y (ua D x) := ⟨h.1, by rw [mgf_pfn (by simp)]; exact h.n, by rw [mgf_pfn (by simp)]; exact h.s, by rw [mgf_pfn (by simp)]; exact h.l, by rw [mgf_pfn (by simp)]; exact h.e, by rw [mgf_pfn (by simp)]; exact h.g, by rw [mgf_pf]; exact hv⟩
theorem YardAt.pk (h : YardAt w y D) {i v : Nat} : YardAt (mpA w 2 y (upd (mga w 2 y) i (nI v))) y (uk D (va_up (dk D) i v)) := ⟨⟨by rw [mga_pA]; exact upd_nI h.1.1, by rw [mga_pAn (by simp)]; exact h.1.2.1, by rw [mga_pAn (by simp)]; exact h.1.2.2.1, by rw [mga_pAn (by simp)]; exact h.1.2.2.2.1, by rw [mga_pAn (by simp)]; exact h.1.2.2.2.2⟩, h.2⟩
theorem YardAt.pc (h : YardAt w y D) {i v : Nat} : YardAt (mpA w 3 y (upd (mga w 3 y) i (nI v))) y (uc D (va_up (dc D) i v)) := ⟨⟨by rw [mga_pAn (by simp)]; exact h.1.1, by rw [mga_pA]; exact upd_nI h.1.2.1, by rw [mga_pAn (by simp)]; exact h.1.2.2.1, by rw [mga_pAn (by simp)]; exact h.1.2.2.2.1, by rw [mga_pAn (by simp)]; exact h.1.2.2.2.2⟩, h.2⟩
theorem YardAt.pF (h : YardAt w y D) {i v : Nat} : YardAt (mpA w 4 y (upd (mga w 4 y) i (nI v))) y (uf D (va_up (df D) i v)) := ⟨⟨by rw [mga_pAn (by simp)]; exact h.1.1, by rw [mga_pAn (by simp)]; exact h.1.2.1, by rw [mga_pA]; exact upd_nI h.1.2.2.1, by rw [mga_pAn (by simp)]; exact h.1.2.2.2.1, by rw [mga_pAn (by simp)]; exact h.1.2.2.2.2⟩, h.2⟩
theorem YardAt.pt (h : YardAt w y D) {i v : Nat} : YardAt (mpA w 5 y (upd (mga w 5 y) i (nI v))) y (ut D (va_up (dt D) i v)) := ⟨⟨by rw [mga_pAn (by simp)]; exact h.1.1, by rw [mga_pAn (by simp)]; exact h.1.2.1, by rw [mga_pAn (by simp)]; exact h.1.2.2.1, by rw [mga_pA]; exact upd_nI h.1.2.2.2.1, by rw [mga_pAn (by simp)]; exact h.1.2.2.2.2⟩, h.2⟩
theorem YardAt.pr (h : YardAt w y D) {i v : Nat} : YardAt (mpA w 6 y (upd (mga w 6 y) i (nI v))) y (ur D (va_up (dr D) i v)) := ⟨⟨by rw [mga_pAn (by simp)]; exact h.1.1, by rw [mga_pAn (by simp)]; exact h.1.2.1, by rw [mga_pAn (by simp)]; exact h.1.2.2.1, by rw [mga_pAn (by simp)]; exact h.1.2.2.2.1, by rw [mga_pA]; exact upd_nI h.1.2.2.2.2⟩, h.2⟩
end YA
end
section
/-! ===== the class's yard: its small methods ===== -/
def bI (b : Bool) : Int32 := if b then nI 1 else nI 0
theorem bI_0 (b : Bool) : (bI b = nI 0) = (b = false) := by cases b <;> decide
theorem bI_1 (b : Bool) : (bI b = nI 1) = (b = true) := by cases b <;> decide
theorem bI_nar (b : Bool) : narrow .boolean (.int (bI b)) = .int (bI b) := by cases b <;> rfl
theorem bI_f {P : Prop} [Decidable P] (h : ¬ P) : some (mI (nI 0)) = some (mI (bI (decide P))) := by rw [decide_eq_false h]; rfl
theorem bI_t {P : Prop} [Decidable P] (h : P) : some (mI (nI 1)) = some (mI (bI (decide P))) := by rw [decide_eq_true h]; rfl
def hasI (D : Yd) (c : Int32) : Bool := decide (nI 0 ≤ c ∧ c < nI (dn D))
theorem hasI_t {D : Yd} {i : Nat} (h : i < dn D) (hn : dn D ≤ 8) : hasI D (nI i) = true := by
  unfold hasI
  simp only [decide_eq_true_eq]
  exact ⟨(nI_leI (by omega) (by omega)).mpr (by omega), (nI_ltI (by omega) (by omega)).mpr h⟩
theorem hasI_of {D : Yd} {c : Int32} (h : hasI D c = true) (hn : dn D ≤ 8) : ∃ i, i < dn D ∧ c = nI i := by
  unfold hasI at h
  simp only [decide_eq_true_eq] at h
  obtain ⟨h1, h2⟩ := h
  rcases pk_ix c (n := dn D) (by omega) with g | g | ⟨j, g1, g2⟩
  · exact absurd g (by intro z; exact (Int32.not_lt.mpr h1) z)
  · exact absurd h2 (Int32.not_lt.mpr g)
  · exact ⟨j, g1, g2⟩
def apC (a b : Int32) : Int32 := (if nI 0 ≤ a / nI 6 - b / nI 6 then a / nI 6 - b / nI 6 else -(a / nI 6 - b / nI 6)) + (if nI 0 ≤ mrem a (nI 6) - mrem b (nI 6) then mrem a (nI 6) - mrem b (nI 6) else -(mrem a (nI 6) - mrem b (nI 6)))
theorem apC_far : ∀ a, a < 24 → ∀ b, b < 24 → apC (nI a) (nI b) = nI (far a b) := by decide +kernel
section Y1
variable {l : Launch} {d : Nat} {w : mW} {y : Nat} {D : Yd}
theorem ev_isCell (c : Int32) : Cl l d MX1_isCell [mI c] w (fun r u => u = w ∧ r = some (mI (bI (decide (nI 0 ≤ c ∧ c < nI 24))))) := by
  show Ev l d MX1_isCell 0 [some (mI c)] [] w _
  refine Ev.blk kX1_isCell_0 rfl trivial ?_
  refine Ev.br tX1_isCell_1 rfl (fun c1 => ?_) (fun c1 => ?_)
  · refine Ev.blk kX1_isCell_14 rfl trivial ?_
    refine Ev.iret tX1_isCell_15 rfl rfl ?_
    refine ⟨rfl, ?_⟩
    simp only [Int32.le_iff_toInt_le, Int32.lt_iff_toInt_lt] at *
    first | exact bI_f (by omega) | exact bI_t (by omega)
  · refine Ev.blk kX1_isCell_4 rfl trivial ?_
    refine Ev.br tX1_isCell_7 rfl (fun c7 => ?_) (fun c7 => ?_)
    · refine Ev.blk kX1_isCell_14 rfl trivial ?_
      refine Ev.iret tX1_isCell_15 rfl rfl ?_
      refine ⟨rfl, ?_⟩
      simp only [Int32.le_iff_toInt_le, Int32.lt_iff_toInt_lt] at *
      first | exact bI_f (by omega) | exact bI_t (by omega)
    · refine Ev.blk kX1_isCell_10 rfl trivial ?_
      refine Ev.jmp tX1_isCell_11 ?_
      refine Ev.iret tX1_isCell_15 rfl rfl ?_
      refine ⟨rfl, ?_⟩
      simp only [Int32.le_iff_toInt_le, Int32.lt_iff_toInt_lt] at *
      first | exact bI_f (by omega) | exact bI_t (by omega)
theorem ev_has (hY : YardAt w y D) (c : Int32) : Cl l d MX1_has [mR 1 y, mI c] w (fun r u => u = w ∧ r = some (mI (bI (hasI D c)))) := by
  show Ev l d MX1_has 0 [some (mR 1 y), some (mI c)] [] w _
  have hn := hY.n
  refine Ev.blk kX1_has_0 rfl trivial ?_
  try simp only [hn]
  refine Ev.br tX1_has_1 rfl (fun c1 => ?_) (fun c1 => ?_)
  · refine Ev.blk kX1_has_16 rfl trivial ?_
    try simp only [hn]
    refine Ev.iret tX1_has_17 rfl rfl ?_
    refine ⟨rfl, ?_⟩
    unfold hasI
    clear hY hn
    simp only [Int32.le_iff_toInt_le, Int32.lt_iff_toInt_lt] at *
    first | exact bI_f (by omega) | exact bI_t (by omega)
  · refine Ev.blk kX1_has_4 rfl trivial ?_
    try simp only [hn]
    refine Ev.br tX1_has_9 rfl (fun c9 => ?_) (fun c9 => ?_)
    · refine Ev.blk kX1_has_16 rfl trivial ?_
      try simp only [hn]
      refine Ev.iret tX1_has_17 rfl rfl ?_
      refine ⟨rfl, ?_⟩
      unfold hasI
      clear hY hn
      simp only [Int32.le_iff_toInt_le, Int32.lt_iff_toInt_lt] at *
      first | exact bI_f (by omega) | exact bI_t (by omega)
    · refine Ev.blk kX1_has_12 rfl trivial ?_
      try simp only [hn]
      refine Ev.jmp tX1_has_13 ?_
      refine Ev.iret tX1_has_17 rfl rfl ?_
      refine ⟨rfl, ?_⟩
      unfold hasI
      clear hY hn
      simp only [Int32.le_iff_toInt_le, Int32.lt_iff_toInt_lt] at *
      first | exact bI_f (by omega) | exact bI_t (by omega)
theorem ev_has_i (hY : YardAt w y D) (hI : dn D ≤ 8) {i : Nat} (hi : i < dn D) : Cl l d MX1_has [mR 1 y, mI (nI i)] w (fun r u => u = w ∧ r = some (mI (nI 1))) :=
  (ev_has hY (nI i)).mono (fun r u h => ⟨h.1, by rw [h.2, hasI_t hi hI]; rfl⟩)
theorem ev_apart {a b : Nat} (ha : a < 24) (hb : b < 24) : Cl l d MX1_apart [mI (nI a), mI (nI b)] w (fun r u => u = w ∧ r = some (mI (nI (far a b)))) := by
  show Ev l d MX1_apart 0 [some (mI (nI a)), some (mI (nI b)), none, none] [] w _
  have key := apC_far a ha b hb
  unfold apC at key
  refine Ev.blk kX1_apart_0 rfl ⟨⟨⟨⟨trivial, (by decide)⟩, (by decide)⟩, (by decide)⟩, (by decide)⟩ ?_
  refine Ev.br tX1_apart_21 rfl (fun c21 => ?_) (fun c21 => ?_)
  · refine Ev.blk kX1_apart_29 rfl trivial ?_
    refine Ev.blk kX1_apart_30 rfl trivial ?_
    refine Ev.br tX1_apart_31 rfl (fun c31 => ?_) (fun c31 => ?_)
    · refine Ev.blk kX1_apart_39 rfl trivial ?_
      refine Ev.blk kX1_apart_40 rfl trivial ?_
      refine Ev.iret tX1_apart_41 rfl rfl ?_
      refine ⟨rfl, ?_⟩
      simp only [c21, c31, if_true, if_false] at key
      rw [← key]
    · refine Ev.blk kX1_apart_34 rfl trivial ?_
      refine Ev.jmp tX1_apart_36 ?_
      refine Ev.blk kX1_apart_40 rfl trivial ?_
      refine Ev.iret tX1_apart_41 rfl rfl ?_
      refine ⟨rfl, ?_⟩
      simp only [c21, c31, if_true, if_false] at key
      rw [← key]
  · refine Ev.blk kX1_apart_24 rfl trivial ?_
    refine Ev.jmp tX1_apart_26 ?_
    refine Ev.blk kX1_apart_30 rfl trivial ?_
    refine Ev.br tX1_apart_31 rfl (fun c31 => ?_) (fun c31 => ?_)
    · refine Ev.blk kX1_apart_39 rfl trivial ?_
      refine Ev.blk kX1_apart_40 rfl trivial ?_
      refine Ev.iret tX1_apart_41 rfl rfl ?_
      refine ⟨rfl, ?_⟩
      simp only [c21, c31, if_true, if_false] at key
      rw [← key]
    · refine Ev.blk kX1_apart_34 rfl trivial ?_
      refine Ev.jmp tX1_apart_36 ?_
      refine Ev.blk kX1_apart_40 rfl trivial ?_
      refine Ev.iret tX1_apart_41 rfl rfl ?_
      refine ⟨rfl, ?_⟩
      simp only [c21, c31, if_true, if_false] at key
      rw [← key]
theorem ev_catcherApart (hY : YardAt w y D) (hI : YI D) (hd : 1 ≤ d) {c : Nat} (hc : c < 24) : Cl l d MX1_catcherApart [mR 1 y, mI (nI c)] w (fun r u => u = w ∧ r = some (mI (nI (cap D c)))) := by
  show Ev l d MX1_catcherApart 0 [some (mR 1 y), some (mI (nI c)), none, none] [] w _
  refine Ev.blk kX1_catcherApart_0 rfl trivial ?_
  have hn := hY.n
  have h8 := hI.1
  have hcl : ∀ i, capL D c i ≤ 99 := fun i => by
    induction i with
    | zero => exact Nat.le_refl _
    | succ i ih => unfold capL; repeat' split
                   all_goals omega
  refine Ev.for (fun i L u => u = w ∧ L = [some (mR 1 y), some (mI (nI c)), some (mI (nI (capL D c i))), some (mI (nI i))]) (dn D) ?_ ?_ 0 (Nat.zero_le _) ⟨rfl, rfl⟩
  · rintro L u ⟨rfl, rfl⟩
    refine Ev.blk kX1_catcherApart_5 rfl trivial ?_
    simp only [hn]
    refine Ev.br tX1_catcherApart_10 rfl (fun c10 => ?_) (fun c10 => ?_)
    · refine Ev.blk kX1_catcherApart_44 rfl trivial ?_
      refine Ev.iret tX1_catcherApart_45 rfl rfl ?_
      exact ⟨rfl, rfl⟩
    · exact absurd (nI_le (Nat.le_refl _) (by omega)) c10
  · rintro i L u hi ⟨rfl, rfl⟩ k
    have hi8 : i < 8 := by omega
    have hk := hY.k hi8
    have hcc := hY.c hi8
    have hci := (hI.2.1 i hi).2.1
    have hcl := hcl i
    have hfr := far_le c hc (dc D i) hci
    have hkk := (hI.2.1 i hi).1
    refine Ev.blk kX1_catcherApart_5 rfl trivial ?_
    simp only [hn]
    refine Ev.br tX1_catcherApart_10 rfl (fun c10 => ?_) (fun c10 => ?_)
    · exact absurd c10 (nI_ge hi (by omega))
    · refine Ev.blk kX1_catcherApart_13 rfl ⟨trivial, vinN hi8 (by decide)⟩ ?_
      simp only [ix8 hi8, hk]
      refine Ev.br tX1_catcherApart_20 rfl (fun c20 => ?_) (fun c20 => ?_)
      · refine Ev.blk kX1_catcherApart_38 rfl trivial ?_
        refine Ev.jmp tX1_catcherApart_41 ?_
        refine k _ _ ⟨rfl, ?_⟩
        rw [nI_add]
        rw [nI_ltI (by omega) (by omega)] at c20
        have e : capL D c (i + 1) = if 4 ≤ dk D i then (if far c (dc D i) < capL D c i then far c (dc D i) else capL D c i) else capL D c i := by
          show (if isC D i = true then _ else _) = _
          simp only [isC, decide_eq_true_eq]
        rw [e]
        first
          | (have e2 : ¬ 4 ≤ dk D i := by omega
             simp only [e2, if_false])
          | (have e2 : 4 ≤ dk D i := by omega
             simp only [e2, if_true])
      · refine Ev.blk kX1_catcherApart_23 rfl ⟨trivial, vinN hi8 (by decide)⟩ ?_
        simp only [ix8 hi8, hcc]
        refine Ev.cS (d1 := d - 1) (ev_apart hc hci) tX1_catcherApart_31 qX1_100 rfl ⟨rfl, rfl, rfl⟩ (by omega) ?_
        rintro _ _ ⟨rfl, rfl⟩
        refine Ev.mmin tX1_catcherApart_34 qX1_103 (by omega) (by decide) ?_
        rw [imn_n (by omega) (by omega)]
        refine Ev.blk kX1_catcherApart_37 rfl trivial ?_
        refine Ev.blk kX1_catcherApart_38 rfl trivial ?_
        refine Ev.jmp tX1_catcherApart_41 ?_
        refine k _ _ ⟨rfl, ?_⟩
        rw [nI_add]
        rw [nI_ltI (by omega) (by omega)] at c20
        have e : capL D c (i + 1) = if 4 ≤ dk D i then (if far c (dc D i) < capL D c i then far c (dc D i) else capL D c i) else capL D c i := by
          show (if isC D i = true then _ else _) = _
          simp only [isC, decide_eq_true_eq]
        rw [e]
        first
          | (have e2 : ¬ 4 ≤ dk D i := by omega
             simp only [e2, if_false])
          | (have e2 : 4 ≤ dk D i := by omega
             simp only [e2, if_true])
end Y1
end
section
/-! ===== the class's yard: reads ===== -/
def oM1 : Option Nat → Int32
  | some t => nI t
  | none => -1
def plq (D : Yd) (j : Nat) : Bool := decide (j < dn D) && !isC D j
def sfq (D : Yd) (j : Nat) : Bool := decide (j < dn D) && (j == da D || (dl D == 1 && edg (dc D j)))
def frb (D : Yd) (i : Nat) : Int32 := if dk D i = 1 then -1 else if dk D i = 2 then mshl (nI 1) (nI (df D i)) else nI 0
theorem tb_bc : ∀ m, m < 256 → ∀ z, z = nI m → (let a := z - (mushr z (nI 1) &&& nI 1431655765); let b := (a &&& nI 858993459) + (mushr a (nI 2) &&& nI 858993459); let c := (b + mushr b (nI 4)) &&& nI 252645135; let e := c + mushr c (nI 8); let f := e + mushr e (nI 16); f &&& nI 63) = nI (cnt (fun j => m.testBit j) 8) := by
  have h : ∀ m, m < 256 → (let z := nI m; let a := z - (mushr z (nI 1) &&& nI 1431655765); let b := (a &&& nI 858993459) + (mushr a (nI 2) &&& nI 858993459); let c := (b + mushr b (nI 4)) &&& nI 252645135; let e := c + mushr c (nI 8); let f := e + mushr e (nI 16); f &&& nI 63) = nI (cnt (fun j => m.testBit j) 8) := by decide +kernel
  intro m hm z hz
  subst hz
  exact h m hm
section Y2
variable {l : Launch} {d : Nat} {w : mW} {y : Nat} {D : Yd}
theorem ev_kindOf (hY : YardAt w y D) (hI : YI D) (hd : 1 ≤ d) {i : Nat} (hi : i < dn D) : Cl l d MX1_kindOf [mR 1 y, mI (nI i)] w (fun r u => u = w ∧ r = some (mI (nI (dk D i)))) := by
  show Ev l d MX1_kindOf 0 [some (mR 1 y), some (mI (nI i))] [] w _
  have h8 := hI.1
  have hi8 : i < 8 := by omega
  refine Ev.blk kX1_kindOf_0 rfl trivial ?_
  refine Ev.cV (d1 := d - 1) (ev_has_i hY h8 hi) tX1_kindOf_2 qX1_52 rfl rfl (by decide) ⟨rfl, rfl, rfl⟩ (by omega) ?_
  rintro _ _ ⟨rfl, rfl⟩
  refine Ev.br tX1_kindOf_5 rfl (fun c5 => ?_) (fun c5 => ?_)
  · exact absurd c5 (by decide)
  · refine Ev.blk kX1_kindOf_8 rfl ⟨trivial, vinN hi8 (by decide)⟩ ?_
    simp only [ix8 hi8, hY.k hi8]
    refine Ev.jmp tX1_kindOf_14 ?_
    refine Ev.iret tX1_kindOf_18 rfl rfl ?_
    exact ⟨rfl, rfl⟩
theorem ev_cellOf (hY : YardAt w y D) (hI : YI D) (hd : 1 ≤ d) {i : Nat} (hi : i < dn D) : Cl l d MX1_cellOf [mR 1 y, mI (nI i)] w (fun r u => u = w ∧ r = some (mI (nI (dc D i)))) := by
  show Ev l d MX1_cellOf 0 [some (mR 1 y), some (mI (nI i))] [] w _
  have h8 := hI.1
  have hi8 : i < 8 := by omega
  refine Ev.blk kX1_cellOf_0 rfl trivial ?_
  refine Ev.cV (d1 := d - 1) (ev_has_i hY h8 hi) tX1_cellOf_2 qX1_52 rfl rfl (by decide) ⟨rfl, rfl, rfl⟩ (by omega) ?_
  rintro _ _ ⟨rfl, rfl⟩
  refine Ev.br tX1_cellOf_5 rfl (fun c5 => ?_) (fun c5 => ?_)
  · exact absurd c5 (by decide)
  · refine Ev.blk kX1_cellOf_8 rfl ⟨trivial, vinN hi8 (by decide)⟩ ?_
    simp only [ix8 hi8, hY.c hi8]
    refine Ev.jmp tX1_cellOf_14 ?_
    refine Ev.iret tX1_cellOf_18 rfl rfl ?_
    exact ⟨rfl, rfl⟩
theorem ev_friendOf (hY : YardAt w y D) (hI : YI D) (hd : 1 ≤ d) {i : Nat} (hi : i < dn D) : Cl l d MX1_friendOf [mR 1 y, mI (nI i)] w (fun r u => u = w ∧ r = some (mI (nI (df D i)))) := by
  show Ev l d MX1_friendOf 0 [some (mR 1 y), some (mI (nI i))] [] w _
  have h8 := hI.1
  have hi8 : i < 8 := by omega
  refine Ev.blk kX1_friendOf_0 rfl trivial ?_
  refine Ev.cV (d1 := d - 1) (ev_has_i hY h8 hi) tX1_friendOf_2 qX1_52 rfl rfl (by decide) ⟨rfl, rfl, rfl⟩ (by omega) ?_
  rintro _ _ ⟨rfl, rfl⟩
  refine Ev.br tX1_friendOf_5 rfl (fun c5 => ?_) (fun c5 => ?_)
  · exact absurd c5 (by decide)
  · refine Ev.blk kX1_friendOf_8 rfl ⟨trivial, vinN hi8 (by decide)⟩ ?_
    simp only [ix8 hi8, hY.f hi8]
    refine Ev.jmp tX1_friendOf_14 ?_
    refine Ev.iret tX1_friendOf_18 rfl rfl ?_
    exact ⟨rfl, rfl⟩
theorem ev_tiredOf (hY : YardAt w y D) (hI : YI D) (hd : 1 ≤ d) {i : Nat} (hi : i < dn D) : Cl l d MX1_tiredOf [mR 1 y, mI (nI i)] w (fun r u => u = w ∧ r = some (mI (nI (dt D i)))) := by
  show Ev l d MX1_tiredOf 0 [some (mR 1 y), some (mI (nI i))] [] w _
  have h8 := hI.1
  have hi8 : i < 8 := by omega
  refine Ev.blk kX1_tiredOf_0 rfl trivial ?_
  refine Ev.cV (d1 := d - 1) (ev_has_i hY h8 hi) tX1_tiredOf_2 qX1_52 rfl rfl (by decide) ⟨rfl, rfl, rfl⟩ (by omega) ?_
  rintro _ _ ⟨rfl, rfl⟩
  refine Ev.br tX1_tiredOf_5 rfl (fun c5 => ?_) (fun c5 => ?_)
  · exact absurd c5 (by decide)
  · refine Ev.blk kX1_tiredOf_8 rfl ⟨trivial, vinN hi8 (by decide)⟩ ?_
    simp only [ix8 hi8, hY.t hi8]
    refine Ev.jmp tX1_tiredOf_14 ?_
    refine Ev.iret tX1_tiredOf_18 rfl rfl ?_
    exact ⟨rfl, rfl⟩
theorem ev_isStanding (hY : YardAt w y D) (hI : YI D) (hd : 1 ≤ d) {i : Nat} (hi : i < dn D) : Cl l d MX1_isStanding [mR 1 y, mI (nI i)] w (fun r u => u = w ∧ r = some (mI (bI (ds D i)))) := by
  show Ev l d MX1_isStanding 0 [some (mR 1 y), some (mI (nI i))] [] w _
  have h8 := hI.1
  have hi8 : i < 8 := by omega
  refine Ev.blk kX1_isStanding_0 rfl trivial ?_
  refine Ev.cV (d1 := d - 1) (ev_has_i hY h8 hi) tX1_isStanding_2 qX1_52 rfl rfl (by decide) ⟨rfl, rfl, rfl⟩ (by omega) ?_
  rintro _ _ ⟨rfl, rfl⟩
  refine Ev.br tX1_isStanding_5 rfl (fun c5 => ?_) (fun c5 => ?_)
  · exact absurd c5 (by decide)
  · refine Ev.blk kX1_isStanding_8 rfl trivial ?_
    simp only [hY.s, b_at hi8]
    refine Ev.br tX1_isStanding_17 rfl (fun c17 => ?_) (fun c17 => ?_)
    · refine Ev.blk kX1_isStanding_24 rfl trivial ?_
      refine Ev.iret tX1_isStanding_25 rfl rfl ?_
      refine ⟨rfl, ?_⟩
      cases hs : ds D i
      · first | rfl | (rw [hs] at c17; exact absurd c17 (by decide))
      · first | rfl | (rw [hs] at c17; exact absurd c17 (by decide))
    · refine Ev.blk kX1_isStanding_20 rfl trivial ?_
      refine Ev.jmp tX1_isStanding_21 ?_
      refine Ev.iret tX1_isStanding_25 rfl rfl ?_
      refine ⟨rfl, ?_⟩
      cases hs : ds D i
      · first | rfl | (rw [hs] at c17; exact absurd c17 (by decide))
      · first | rfl | (rw [hs] at c17; exact absurd c17 (by decide))
theorem ev_isCatcher (hY : YardAt w y D) (hI : YI D) (hd : 1 ≤ d) {i : Nat} (hi : i < dn D) : Cl l d MX1_isCatcher [mR 1 y, mI (nI i)] w (fun r u => u = w ∧ r = some (mI (bI (isC D i)))) := by
  show Ev l d MX1_isCatcher 0 [some (mR 1 y), some (mI (nI i))] [] w _
  have h8 := hI.1
  have hi8 : i < 8 := by omega
  have hk8 := (hI.2.1 i hi).1
  refine Ev.blk kX1_isCatcher_0 rfl trivial ?_
  refine Ev.cV (d1 := d - 1) (ev_has_i hY h8 hi) tX1_isCatcher_2 qX1_52 rfl rfl (by decide) ⟨rfl, rfl, rfl⟩ (by omega) ?_
  rintro _ _ ⟨rfl, rfl⟩
  refine Ev.br tX1_isCatcher_5 rfl (fun c5 => ?_) (fun c5 => ?_)
  · exact absurd c5 (by decide)
  · try simp (disch := omega) only [nI_eq, nI_leI, nI_ltI] at c5
    refine Ev.blk kX1_isCatcher_8 rfl ⟨trivial, vinN hi8 (by decide)⟩ ?_
    simp only [ix8 hi8, hY.k hi8]
    refine Ev.br tX1_isCatcher_15 rfl (fun c15 => ?_) (fun c15 => ?_)
    · try simp (disch := omega) only [nI_eq, nI_leI, nI_ltI] at c15
      refine Ev.blk kX1_isCatcher_22 rfl trivial ?_
      refine Ev.iret tX1_isCatcher_23 rfl rfl ?_
      refine ⟨rfl, ?_⟩
      unfold isC
      first | exact bI_f (by omega) | exact bI_t (by omega)
    · try simp (disch := omega) only [nI_eq, nI_leI, nI_ltI] at c15
      refine Ev.blk kX1_isCatcher_18 rfl trivial ?_
      refine Ev.jmp tX1_isCatcher_19 ?_
      refine Ev.iret tX1_isCatcher_23 rfl rfl ?_
      refine ⟨rfl, ?_⟩
      unfold isC
      first | exact bI_f (by omega) | exact bI_t (by omega)
theorem ev_freedBy (hY : YardAt w y D) (hI : YI D) (hd : 1 ≤ d) {i o : Nat} (hi : i < 8) (ho : o < 8) : Cl l d MX1_freedBy [mR 1 y, mI (nI i), mI (nI o)] w (fun r u => u = w ∧ r = some (mI (nI (dr D (8 * i + o))))) := by
  show Ev l d MX1_freedBy 0 [some (mR 1 y), some (mI (nI i)), some (mI (nI o))] [] w _
  have h8 := hI.1
  have hz := hI.2.2.2.2.2.2.1 (8 * i + o)
  have e1 : (8 * i + o) / 8 = i := by omega
  have e2 : (8 * i + o) % 8 = o := by omega
  rw [e1, e2] at hz
  have hh : ∀ j, j < 8 → hasI D (nI j) = false → dn D ≤ j := fun j hj h => by
    rcases Nat.lt_or_ge j (dn D) with g | g
    · rw [hasI_t g h8] at h; cases h
    · exact g
  refine Ev.blk kX1_freedBy_0 rfl trivial ?_
  refine Ev.cV (d1 := d - 1) (ev_has hY (nI i)) tX1_freedBy_2 qX1_52 rfl rfl (by decide) ⟨rfl, rfl, rfl⟩ (by omega) ?_
  rintro _ _ ⟨rfl, rfl⟩
  refine Ev.br tX1_freedBy_5 rfl (fun c5 => ?_) (fun c5 => ?_)
  · try rw [bI_0] at c5
    refine Ev.blk kX1_freedBy_30 rfl trivial ?_
    refine Ev.iret tX1_freedBy_31 rfl rfl ?_
    refine ⟨rfl, ?_⟩
    first | rfl | (rw [hz (Or.inl (hh i hi c5))]) | (rw [hz (Or.inr (hh o ho c13))])
  · try rw [bI_0] at c5
    refine Ev.blk kX1_freedBy_8 rfl trivial ?_
    refine Ev.cV (d1 := d - 1) (ev_has hY (nI o)) tX1_freedBy_10 qX1_52 rfl rfl (by decide) ⟨rfl, rfl, rfl⟩ (by omega) ?_
    rintro _ _ ⟨rfl, rfl⟩
    refine Ev.br tX1_freedBy_13 rfl (fun c13 => ?_) (fun c13 => ?_)
    · try rw [bI_0] at c13
      refine Ev.blk kX1_freedBy_30 rfl trivial ?_
      refine Ev.iret tX1_freedBy_31 rfl rfl ?_
      refine ⟨rfl, ?_⟩
      first | rfl | (rw [hz (Or.inl (hh i hi c5))]) | (rw [hz (Or.inr (hh o ho c13))])
    · try rw [bI_0] at c13
      refine Ev.blk kX1_freedBy_16 rfl ⟨trivial, (by rw [pk_mul, nI_add]; exact vinN (by show 8 * i + o < 64; omega) (by decide))⟩ ?_
      rw [pk_mul, nI_add, ixN (by omega), hY.r (by omega)]
      refine Ev.jmp tX1_freedBy_27 ?_
      refine Ev.iret tX1_freedBy_31 rfl rfl ?_
      refine ⟨rfl, ?_⟩
      first | rfl | (rw [hz (Or.inl (hh i hi c5))]) | (rw [hz (Or.inr (hh o ho c13))])
theorem ev_childrenCount (hY : YardAt w y D) : Cl l d MX1_childrenCount [mR 1 y] w (fun r u => u = w ∧ r = some (mI (nI (dn D)))) := by
  show Ev l d MX1_childrenCount 0 [some (mR 1 y)] [] w _
  refine Ev.blk kX1_childrenCount_0 rfl trivial ?_
  simp only [hY.n]
  refine Ev.iret tX1_childrenCount_4 rfl rfl ?_
  exact ⟨rfl, rfl⟩
theorem ev_standingBits (hY : YardAt w y D) : Cl l d MX1_standingBits [mR 1 y] w (fun r u => u = w ∧ r = some (mI (nI (bts (ds D) 8)))) := by
  show Ev l d MX1_standingBits 0 [some (mR 1 y)] [] w _
  refine Ev.blk kX1_standingBits_0 rfl trivial ?_
  simp only [hY.s]
  refine Ev.iret tX1_standingBits_4 rfl rfl ?_
  exact ⟨rfl, rfl⟩
theorem ev_lawNow (hY : YardAt w y D) : Cl l d MX1_lawNow [mR 1 y] w (fun r u => u = w ∧ r = some (mI (nI (dl D)))) := by
  show Ev l d MX1_lawNow 0 [some (mR 1 y)] [] w _
  refine Ev.blk kX1_lawNow_0 rfl trivial ?_
  simp only [hY.l]
  refine Ev.iret tX1_lawNow_4 rfl rfl ?_
  exact ⟨rfl, rfl⟩
theorem ev_secondNow (hY : YardAt w y D) : Cl l d MX1_secondNow [mR 1 y] w (fun r u => u = w ∧ r = some (mI (nI (de D)))) := by
  show Ev l d MX1_secondNow 0 [some (mR 1 y)] [] w _
  refine Ev.blk kX1_secondNow_0 rfl trivial ?_
  simp only [hY.e]
  refine Ev.iret tX1_secondNow_4 rfl rfl ?_
  exact ⟨rfl, rfl⟩
theorem ev_freeings (hY : YardAt w y D) : Cl l d MX1_freeingsSinceCopied [mR 1 y] w (fun r u => u = w ∧ r = some (mI (nI (dg D)))) := by
  show Ev l d MX1_freeingsSinceCopied 0 [some (mR 1 y)] [] w _
  refine Ev.blk kX1_freeingsSinceCopied_0 rfl trivial ?_
  simp only [hY.g]
  refine Ev.iret tX1_freeingsSinceCopied_4 rfl rfl ?_
  exact ⟨rfl, rfl⟩
theorem ev_bitCount (q : Nat → Bool) : Cl l d MJ6_bitCount_0f7a4 [mI (nI (bts q 8))] w (fun r u => u = w ∧ r = some (mI (nI (cnt q 8)))) := by
  show Ev l d MJ6_bitCount_0f7a4 0 [some (mI (nI (bts q 8)))] [] w _
  refine Ev.blk kJ6_bitCount_0f7a4_0 rfl trivial ?_
  refine Ev.iret tJ6_bitCount_0f7a4_52 rfl rfl ?_
  refine ⟨rfl, ?_⟩
  have h := tb_bc _ (b256 q) _ rfl
  rw [show cnt q 8 = cnt (fun j => (bts q 8).testBit j) 8 from cnt_congr (fun j hj => by rw [bts_bit]; simp [hj])]
  exact congrArg (fun z => some (mI z)) h
theorem ev_standingCount (hY : YardAt w y D) (hd : 1 ≤ d) : Cl l d MX1_standingCount [mR 1 y] w (fun r u => u = w ∧ r = some (mI (nI (cnt (ds D) 8)))) := by
  show Ev l d MX1_standingCount 0 [some (mR 1 y)] [] w _
  refine Ev.blk kX1_standingCount_0 rfl trivial ?_
  simp only [hY.s]
  refine Ev.cS (d1 := d - 1) (ev_bitCount (ds D)) tX1_standingCount_4 qX1_56 rfl ⟨rfl, rfl, rfl⟩ (by omega) ?_
  rintro _ _ ⟨rfl, rfl⟩
  refine Ev.iret tX1_standingCount_7 rfl rfl ?_
  exact ⟨rfl, rfl⟩
theorem ev_isEdge {c : Nat} (hc : c < 24) : Cl l d MX1_isEdge [mI (nI c)] w (fun r u => u = w ∧ r = some (mI (bI (edg c)))) := by
  show Ev l d MX1_isEdge 0 [some (mI (nI c)), none, none] [] w _
  have e1 : nI c / nI 6 = nI (c / 6) := pk_div (by omega) (by omega) (by omega)
  have e2 : mrem (nI c) (nI 6) = nI (c % 6) := mrem_n (by omega) (by omega) (by omega)
  refine Ev.blk kX1_isEdge_0 rfl ⟨⟨trivial, (by decide)⟩, (by decide)⟩ ?_
  simp only [e1, e2]
  refine Ev.br tX1_isEdge_11 rfl (fun c11 => ?_) (fun c11 => ?_)
  · try simp (disch := omega) only [nI_eq, nI_leI, nI_ltI] at c11
    refine Ev.blk kX1_isEdge_28 rfl trivial ?_
    refine Ev.jmp tX1_isEdge_29 ?_
    refine Ev.iret tX1_isEdge_33 rfl rfl ?_
    refine ⟨rfl, ?_⟩
    first
      | (rw [show edg c = true by unfold edg; simp; omega]; rfl)
      | (rw [show edg c = false by unfold edg; simp; omega]; rfl)
  · try simp (disch := omega) only [nI_eq, nI_leI, nI_ltI] at c11
    refine Ev.blk kX1_isEdge_14 rfl trivial ?_
    refine Ev.br tX1_isEdge_16 rfl (fun c16 => ?_) (fun c16 => ?_)
    · try simp (disch := omega) only [nI_eq, nI_leI, nI_ltI] at c16
      refine Ev.blk kX1_isEdge_28 rfl trivial ?_
      refine Ev.jmp tX1_isEdge_29 ?_
      refine Ev.iret tX1_isEdge_33 rfl rfl ?_
      refine ⟨rfl, ?_⟩
      first
        | (rw [show edg c = true by unfold edg; simp; omega]; rfl)
        | (rw [show edg c = false by unfold edg; simp; omega]; rfl)
    · try simp (disch := omega) only [nI_eq, nI_leI, nI_ltI] at c16
      refine Ev.blk kX1_isEdge_19 rfl trivial ?_
      refine Ev.br tX1_isEdge_20 rfl (fun c20 => ?_) (fun c20 => ?_)
      · try simp (disch := omega) only [nI_eq, nI_leI, nI_ltI] at c20
        refine Ev.blk kX1_isEdge_28 rfl trivial ?_
        refine Ev.jmp tX1_isEdge_29 ?_
        refine Ev.iret tX1_isEdge_33 rfl rfl ?_
        refine ⟨rfl, ?_⟩
        first
          | (rw [show edg c = true by unfold edg; simp; omega]; rfl)
          | (rw [show edg c = false by unfold edg; simp; omega]; rfl)
      · try simp (disch := omega) only [nI_eq, nI_leI, nI_ltI] at c20
        refine Ev.blk kX1_isEdge_23 rfl trivial ?_
        refine Ev.br tX1_isEdge_25 rfl (fun c25 => ?_) (fun c25 => ?_)
        · try simp (disch := omega) only [nI_eq, nI_leI, nI_ltI] at c25
          refine Ev.blk kX1_isEdge_32 rfl trivial ?_
          refine Ev.iret tX1_isEdge_33 rfl rfl ?_
          refine ⟨rfl, ?_⟩
          first
            | (rw [show edg c = true by unfold edg; simp; omega]; rfl)
            | (rw [show edg c = false by unfold edg; simp; omega]; rfl)
        · try simp (disch := omega) only [nI_eq, nI_leI, nI_ltI] at c25
          refine Ev.blk kX1_isEdge_28 rfl trivial ?_
          refine Ev.jmp tX1_isEdge_29 ?_
          refine Ev.iret tX1_isEdge_33 rfl rfl ?_
          refine ⟨rfl, ?_⟩
          first
            | (rw [show edg c = true by unfold edg; simp; omega]; rfl)
            | (rw [show edg c = false by unfold edg; simp; omega]; rfl)
theorem ev_cellBehind {c way : Nat} (hc : c < 24) (hw : way < 5) : Cl l d MX1_cellBehind [mI (nI c), mI (nI way)] w (fun r u => u = w ∧ r = some (mI (oM1 (stp c way)))) := by
  show Ev l d MX1_cellBehind 0 [some (mI (nI c)), some (mI (nI way)), none, none] [] w _
  have e1 : nI c / nI 6 = nI (c / 6) := pk_div (by omega) (by omega) (by omega)
  have e2 : mrem (nI c) (nI 6) = nI (c % 6) := mrem_n (by omega) (by omega) (by omega)
  refine Ev.blk kX1_cellBehind_0 rfl ⟨⟨trivial, by decide⟩, by decide⟩ ?_
  simp only [e1, e2]
  match way, hw with
  | 0, _ =>
    refine Ev.sw (tgt := 44) tX1_cellBehind_11 (off := 33) (by decide) (by decide) ?_
    refine Ev.blk kX1_cellBehind_44 rfl trivial ?_
    refine Ev.iret tX1_cellBehind_45 rfl rfl ?_
    exact ⟨rfl, rfl⟩
  | 1, _ =>
    refine Ev.sw (tgt := 46) tX1_cellBehind_11 (off := 35) (by decide) (by decide) ?_
    refine Ev.blk kX1_cellBehind_46 rfl trivial ?_
    refine Ev.br tX1_cellBehind_47 rfl (fun c47 => ?_) (fun c47 => ?_)
    · try simp (disch := omega) only [nI_eq, nI_leI, nI_ltI] at c47
      refine Ev.blk kX1_cellBehind_57 rfl trivial ?_
      refine Ev.iret tX1_cellBehind_58 rfl rfl ?_
      refine ⟨rfl, ?_⟩
      simp only [stp]
      first
        | (rw [if_neg (by omega)]; rfl)
        | (rw [if_pos (by omega), pk_sub (by omega)]; rfl)
    · try simp (disch := omega) only [nI_eq, nI_leI, nI_ltI] at c47
      refine Ev.blk kX1_cellBehind_50 rfl trivial ?_
      refine Ev.jmp tX1_cellBehind_54 ?_
      refine Ev.iret tX1_cellBehind_58 rfl rfl ?_
      refine ⟨rfl, ?_⟩
      simp only [stp]
      first
        | (rw [if_neg (by omega)]; rfl)
        | (rw [if_pos (by omega), pk_sub (by omega)]; rfl)
  | 2, _ =>
    refine Ev.sw (tgt := 59) tX1_cellBehind_11 (off := 48) (by decide) (by decide) ?_
    refine Ev.blk kX1_cellBehind_59 rfl trivial ?_
    refine Ev.br tX1_cellBehind_61 rfl (fun c61 => ?_) (fun c61 => ?_)
    · try simp (disch := omega) only [nI_eq, nI_leI, nI_ltI] at c61
      refine Ev.blk kX1_cellBehind_71 rfl trivial ?_
      refine Ev.iret tX1_cellBehind_72 rfl rfl ?_
      refine ⟨rfl, ?_⟩
      simp only [stp]
      first
        | (rw [if_neg (by omega)]; rfl)
        | (rw [if_pos (by omega), nI_add]; rfl)
    · try simp (disch := omega) only [nI_eq, nI_leI, nI_ltI] at c61
      refine Ev.blk kX1_cellBehind_64 rfl trivial ?_
      refine Ev.jmp tX1_cellBehind_68 ?_
      refine Ev.iret tX1_cellBehind_72 rfl rfl ?_
      refine ⟨rfl, ?_⟩
      simp only [stp]
      first
        | (rw [if_neg (by omega)]; rfl)
        | (rw [if_pos (by omega), nI_add]; rfl)
  | 3, _ =>
    refine Ev.sw (tgt := 73) tX1_cellBehind_11 (off := 62) (by decide) (by decide) ?_
    refine Ev.blk kX1_cellBehind_73 rfl trivial ?_
    refine Ev.br tX1_cellBehind_74 rfl (fun c74 => ?_) (fun c74 => ?_)
    · try simp (disch := omega) only [nI_eq, nI_leI, nI_ltI] at c74
      refine Ev.blk kX1_cellBehind_83 rfl trivial ?_
      refine Ev.iret tX1_cellBehind_84 rfl rfl ?_
      refine ⟨rfl, ?_⟩
      simp only [stp]
      first
        | (rw [if_neg (by omega)]; rfl)
        | (rw [if_pos (by omega), pk_sub (by omega)]; rfl)
    · try simp (disch := omega) only [nI_eq, nI_leI, nI_ltI] at c74
      refine Ev.blk kX1_cellBehind_77 rfl trivial ?_
      refine Ev.jmp tX1_cellBehind_80 ?_
      refine Ev.iret tX1_cellBehind_84 rfl rfl ?_
      refine ⟨rfl, ?_⟩
      simp only [stp]
      first
        | (rw [if_neg (by omega)]; rfl)
        | (rw [if_pos (by omega), pk_sub (by omega)]; rfl)
  | 4, _ =>
    refine Ev.sw (tgt := 85) tX1_cellBehind_11 (off := 74) (by decide) (by decide) ?_
    refine Ev.blk kX1_cellBehind_85 rfl trivial ?_
    refine Ev.br tX1_cellBehind_87 rfl (fun c87 => ?_) (fun c87 => ?_)
    · try simp (disch := omega) only [nI_eq, nI_leI, nI_ltI] at c87
      refine Ev.blk kX1_cellBehind_96 rfl trivial ?_
      refine Ev.iret tX1_cellBehind_97 rfl rfl ?_
      refine ⟨rfl, ?_⟩
      simp only [stp]
      first
        | (rw [if_neg (by omega)]; rfl)
        | (rw [if_pos (by omega), nI_add]; rfl)
    · try simp (disch := omega) only [nI_eq, nI_leI, nI_ltI] at c87
      refine Ev.blk kX1_cellBehind_90 rfl trivial ?_
      refine Ev.jmp tX1_cellBehind_93 ?_
      refine Ev.iret tX1_cellBehind_97 rfl rfl ?_
      refine ⟨rfl, ?_⟩
      simp only [stp]
      first
        | (rw [if_neg (by omega)]; rfl)
        | (rw [if_pos (by omega), nI_add]; rfl)
end Y2
end
section
/-! ===== the class's yard: loops over children, steps ===== -/
theorem fst1_none {q : Nat → Bool} : ∀ {n : Nat}, (∀ j, j < n → q j = false) → fst1 q n = none
  | 0, _ => rfl
  | n + 1, h => by
    unfold fst1
    rw [fst1_none (fun j hj => h j (by omega))]
    simp [h n (by omega)]
theorem fst1_some {q : Nat → Bool} {i : Nat} (h0 : fst1 q i = none) (hi : q i = true) : ∀ {n : Nat}, i < n → fst1 q n = some i
  | 0, h => by omega
  | n + 1, h => by
    unfold fst1
    by_cases e : i = n
    · subst e
      rw [h0]
      simp [hi]
    · rw [fst1_some h0 hi (show i < n by omega)]
theorem fst1_spec {q : Nat → Bool} : ∀ {n b : Nat}, fst1 q n = some b → b < n ∧ q b = true
  | 0, _, h => by simp [fst1] at h
  | n + 1, b, h => by
    unfold fst1 at h
    split at h
    · rename_i e
      cases h
      have := fst1_spec e
      exact ⟨by omega, this.2⟩
    · split at h
      · cases h
        exact ⟨by omega, by assumption⟩
      · cases h
theorem fst1_no {q : Nat → Bool} : ∀ {n : Nat}, fst1 q n = none → ∀ j, j < n → q j = false
  | 0, _, j, hj => by omega
  | n + 1, h, j, hj => by
    unfold fst1 at h
    split at h
    · cases h
    · rename_i e
      split at h
      · cases h
      · rename_i hn
        by_cases ej : j = n
        · subst ej; simpa using hn
        · exact fst1_no e j (by omega)
theorem fst1_congr {q q' : Nat → Bool} : ∀ {n : Nat}, (∀ j, j < n → q j = q' j) → fst1 q n = fst1 q' n
  | 0, _ => rfl
  | n + 1, h => by
    unfold fst1
    rw [fst1_congr (fun j hj => h j (by omega)), h n (by omega)]
theorem nrst_spec {q : Nat → Bool} {f : Nat → Nat} : ∀ {n b : Nat}, nrst q f n = some b → b < n ∧ q b = true
  | 0, _, h => by simp [nrst] at h
  | n + 1, b, h => by
    unfold nrst at h
    split at h
    · rename_i b0 e
      have h0 := nrst_spec e
      split at h
      · rename_i hq
        cases h
        simp only [Bool.and_eq_true] at hq
        exact ⟨by omega, hq.1⟩
      · cases h
        exact ⟨by omega, h0.2⟩
    · split at h
      · cases h
        exact ⟨by omega, by assumption⟩
      · cases h
theorem nrst_no {q : Nat → Bool} {f : Nat → Nat} : ∀ {n : Nat}, nrst q f n = none → ∀ j, j < n → q j = false
  | 0, _, j, hj => by omega
  | n + 1, h, j, hj => by
    unfold nrst at h
    split at h
    · split at h <;> cases h
    · rename_i e
      split at h
      · cases h
      · rename_i hn
        by_cases ej : j = n
        · subst ej; simpa using hn
        · exact nrst_no e j (by omega)
theorem nrst_congr {q q' : Nat → Bool} {f f' : Nat → Nat} : ∀ {n : Nat}, (∀ j, j < n → q j = q' j) → (∀ j, j < n → f j = f' j) → nrst q f n = nrst q' f' n
  | 0, _, _ => rfl
  | n + 1, h, hf => by
    unfold nrst
    rw [nrst_congr (fun j hj => h j (by omega)) (fun j hj => hf j (by omega)), h n (by omega)]
    cases e : nrst q' f' n with
    | none => rfl
    | some b =>
      have := (nrst_spec e).1
      simp only
      rw [hf n (by omega), hf b (by omega)]
section Y3
variable {l : Launch} {d : Nat} {w : mW} {y : Nat} {D : Yd}
theorem ev_leastBeside (hY : YardAt w y D) (hI : YI D) (hd : 1 ≤ d) {i : Nat} (hi : i < dn D) (q : Nat → Bool) : Cl l d MX1_leastBeside [mR 1 y, mI (nI i), mI (nI (bts q 8))] w (fun r u => u = w ∧ r = some (mI (oM1 (fst1 (fun o => q o && decide (far (dc D i) (dc D o) ≤ 1)) (dn D))))) := by
  show Ev l d MX1_leastBeside 0 [some (mR 1 y), some (mI (nI i)), some (mI (nI (bts q 8))), none] [] w _
  refine Ev.blk kX1_leastBeside_0 rfl trivial ?_
  have hn := hY.n
  have h8 := hI.1
  have hi8 : i < 8 := by omega
  have hci := (hI.2.1 i hi).2.1
  refine Ev.for (fun j L u => u = w ∧ L = [some (mR 1 y), some (mI (nI i)), some (mI (nI (bts q 8))), some (mI (nI j))] ∧ fst1 (fun o => q o && decide (far (dc D i) (dc D o) ≤ 1)) j = none) (dn D) ?_ ?_ 0 (Nat.zero_le _) ⟨rfl, rfl, rfl⟩
  · rintro L u ⟨rfl, rfl, h0⟩
    refine Ev.blk kX1_leastBeside_2 rfl trivial ?_
    simp only [hn]
    refine Ev.br tX1_leastBeside_7 rfl (fun c7 => ?_) (fun c7 => ?_)
    · refine Ev.blk kX1_leastBeside_46 rfl trivial ?_
      refine Ev.iret tX1_leastBeside_47 rfl rfl ?_
      exact ⟨rfl, by rw [h0]; rfl⟩
    · exact absurd (nI_le (Nat.le_refl _) (by omega)) c7
  · rintro j L u hj ⟨rfl, rfl, h0⟩ k
    have hj8 : j < 8 := by omega
    have hcj := (hI.2.1 j hj).2.1
    have hfr := far_le (dc D i) hci (dc D j) hcj
    refine Ev.blk kX1_leastBeside_2 rfl trivial ?_
    simp only [hn]
    refine Ev.br tX1_leastBeside_7 rfl (fun c7 => ?_) (fun c7 => ?_)
    · exact absurd c7 (nI_ge hj (by omega))
    · try simp (disch := omega) only [nI_eq, nI_leI, nI_ltI] at c7
      refine Ev.blk kX1_leastBeside_10 rfl trivial ?_
      simp only [b_at hj8]
      refine Ev.br tX1_leastBeside_16 rfl (fun c16 => ?_) (fun c16 => ?_)
      · try simp (disch := omega) only [nI_eq, nI_leI, nI_ltI] at c16
        refine Ev.blk kX1_leastBeside_40 rfl trivial ?_
        refine Ev.jmp tX1_leastBeside_43 ?_
        refine k _ _ ⟨rfl, by rw [nI_add], ?_⟩
        unfold fst1
        rw [h0]
        cases hq : q j
        · simp
        · rw [hq] at c16
          first
            | exact absurd c16 (by decide)
            | (simp; omega)
      · try simp (disch := omega) only [nI_eq, nI_leI, nI_ltI] at c16
        refine Ev.blk kX1_leastBeside_19 rfl ⟨⟨trivial, vinN hi8 (by decide)⟩, vinN hj8 (by decide)⟩ ?_
        simp only [ix8 hi8, ix8 hj8, hY.c hi8, hY.c hj8]
        refine Ev.cS (d1 := d - 1) (ev_apart hci hcj) tX1_leastBeside_31 qX1_100 rfl ⟨rfl, rfl, rfl⟩ (by omega) ?_
        rintro _ _ ⟨rfl, rfl⟩
        refine Ev.blk kX1_leastBeside_34 rfl trivial ?_
        refine Ev.br tX1_leastBeside_35 rfl (fun c35 => ?_) (fun c35 => ?_)
        · try simp (disch := omega) only [nI_eq, nI_leI, nI_ltI] at c35
          refine Ev.blk kX1_leastBeside_40 rfl trivial ?_
          refine Ev.jmp tX1_leastBeside_43 ?_
          refine k _ _ ⟨rfl, by rw [nI_add], ?_⟩
          unfold fst1
          rw [h0]
          cases hq : q j
          · simp
          · rw [hq] at c16
            first
              | exact absurd c16 (by decide)
              | (simp; omega)
        · try simp (disch := omega) only [nI_eq, nI_leI, nI_ltI] at c35
          refine Ev.blk kX1_leastBeside_38 rfl trivial ?_
          refine Ev.iret tX1_leastBeside_39 rfl rfl ?_
          refine ⟨rfl, ?_⟩
          have hq : q j = true := by
            cases hq : q j
            · rw [hq] at c16; exact absurd c16 (by decide)
            · rfl
          rw [fst1_some h0 (by simp [hq]; omega) hj]
          rfl
theorem ev_nearest (hY : YardAt w y D) (hI : YI D) (hd : 1 ≤ d) {i : Nat} (hi : i < dn D) (q : Nat → Bool) : Cl l d MX1_nearest [mR 1 y, mI (nI i), mI (nI (bts q 8))] w (fun r u => u = w ∧ r = some (mI (oM1 (nrst q (fun o => far (dc D i) (dc D o)) (dn D))))) := by
  show Ev l d MX1_nearest 0 [some (mR 1 y), some (mI (nI i)), some (mI (nI (bts q 8))), none, none, none, none] [] w _
  refine Ev.blk kX1_nearest_0 rfl trivial ?_
  have hn := hY.n
  have h8 := hI.1
  have hi8 : i < 8 := by omega
  have hci := (hI.2.1 i hi).2.1
  refine Ev.for (fun j L u => u = w ∧ ∃ x, L = [some (mR 1 y), some (mI (nI i)), some (mI (nI (bts q 8))), some (mI (oM1 (nrst q (fun o => far (dc D i) (dc D o)) j))), some (mI (nI (match nrst q (fun o => far (dc D i) (dc D o)) j with | some b => far (dc D i) (dc D b) | none => 99))), some (mI (nI j)), x]) (dn D) ?_ ?_ 0 (Nat.zero_le _) ⟨rfl, none, rfl⟩
  · rintro L u ⟨rfl, x, rfl⟩
    refine Ev.blk kX1_nearest_9 rfl trivial ?_
    simp only [hn]
    refine Ev.br tX1_nearest_15 rfl (fun c15 => ?_) (fun c15 => ?_)
    · refine Ev.blk kX1_nearest_66 rfl trivial ?_
      refine Ev.iret tX1_nearest_67 rfl rfl ?_
      exact ⟨rfl, rfl⟩
    · exact absurd (nI_le (Nat.le_refl _) (by omega)) c15
  · rintro j L u hj ⟨rfl, x, rfl⟩ k
    have hj8 : j < 8 := by omega
    have hcj := (hI.2.1 j hj).2.1
    have hfr := far_le (dc D i) hci (dc D j) hcj
    have hq1 : ∀ {P : Prop}, ¬ nI (if q j = true then 1 else 0) = nI 1 → (q j = false → P) → P := fun h k => by
      cases hq : q j
      · exact k hq
      · rw [hq] at h; exact absurd rfl h
    have hq2 : ∀ {P : Prop}, ¬ ¬ nI (if q j = true then 1 else 0) = nI 1 → (q j = true → P) → P := fun h k => by
      cases hq : q j
      · rw [hq] at h; exact absurd (by decide) h
      · exact k hq
    have e : nrst q (fun o => far (dc D i) (dc D o)) (j + 1) = (match nrst q (fun o => far (dc D i) (dc D o)) j with
      | some b => if q j && decide (far (dc D i) (dc D j) < far (dc D i) (dc D b)) then some j else some b
      | none => if q j then some j else none) := rfl
    rw [e] at k
    cases hb : nrst q (fun o => far (dc D i) (dc D o)) j with
    | none =>
      rw [hb] at k
      dsimp only at k ⊢
      refine Ev.blk kX1_nearest_9 rfl trivial ?_
      simp only [hn]
      refine Ev.br tX1_nearest_15 rfl (fun c15 => ?_) (fun c15 => ?_)
      · exact absurd c15 (nI_ge hj (by omega))
      · try simp (disch := omega) only [nI_eq, nI_leI, nI_ltI] at c15
        refine Ev.blk kX1_nearest_18 rfl ⟨⟨trivial, vinN hi8 (by decide)⟩, vinN hj8 (by decide)⟩ ?_
        simp only [ix8 hi8, ix8 hj8, hY.c hi8, hY.c hj8]
        refine Ev.cS (d1 := d - 1) (ev_apart hci hcj) tX1_nearest_31 qX1_100 rfl ⟨rfl, rfl, rfl⟩ (by omega) ?_
        rintro _ _ ⟨rfl, rfl⟩
        refine Ev.blk kX1_nearest_34 rfl trivial ?_
        simp only [b_at hj8]
        refine Ev.br tX1_nearest_43 rfl (fun c43 => ?_) (fun c43 => ?_)
        · try simp (disch := omega) only [nI_eq, nI_leI, nI_ltI] at c43
          refine Ev.blk kX1_nearest_60 rfl trivial ?_
          refine Ev.jmp tX1_nearest_63 ?_
          refine k _ _ ⟨rfl, some (mI (nI (far (dc D i) (dc D j)))), ?_⟩
          rw [nI_add]
          first
            | exact hq1 c43 (fun hq => by rw [if_neg (by rw [hq]; simp)] <;> rfl)
            | exact hq2 c43 (fun hq => by rw [if_pos hq] <;> rfl)
        · try simp (disch := omega) only [nI_eq, nI_leI, nI_ltI] at c43
          refine Ev.blk kX1_nearest_46 rfl trivial ?_
          refine Ev.br tX1_nearest_50 rfl (fun c50 => ?_) (fun c50 => ?_)
          · exact absurd c50 (nI_ge (by omega) (by omega))
          · try simp (disch := omega) only [nI_eq, nI_leI, nI_ltI] at c50
            refine Ev.blk kX1_nearest_53 rfl trivial ?_
            refine Ev.blk kX1_nearest_60 rfl trivial ?_
            refine Ev.jmp tX1_nearest_63 ?_
            refine k _ _ ⟨rfl, some (mI (nI (far (dc D i) (dc D j)))), ?_⟩
            rw [nI_add]
            first
              | exact hq1 c43 (fun hq => by rw [if_neg (by rw [hq]; simp)] <;> rfl)
              | exact hq2 c43 (fun hq => by rw [if_pos hq] <;> rfl)
    | some b =>
      rw [hb] at k
      dsimp only at k ⊢
      have hfb := far_le (dc D i) hci (dc D b) (hI.2.1 b (by have := (nrst_spec hb).1; omega)).2.1
      refine Ev.blk kX1_nearest_9 rfl trivial ?_
      simp only [hn]
      refine Ev.br tX1_nearest_15 rfl (fun c15 => ?_) (fun c15 => ?_)
      · exact absurd c15 (nI_ge hj (by omega))
      · try simp (disch := omega) only [nI_eq, nI_leI, nI_ltI] at c15
        refine Ev.blk kX1_nearest_18 rfl ⟨⟨trivial, vinN hi8 (by decide)⟩, vinN hj8 (by decide)⟩ ?_
        simp only [ix8 hi8, ix8 hj8, hY.c hi8, hY.c hj8]
        refine Ev.cS (d1 := d - 1) (ev_apart hci hcj) tX1_nearest_31 qX1_100 rfl ⟨rfl, rfl, rfl⟩ (by omega) ?_
        rintro _ _ ⟨rfl, rfl⟩
        refine Ev.blk kX1_nearest_34 rfl trivial ?_
        simp only [b_at hj8]
        refine Ev.br tX1_nearest_43 rfl (fun c43 => ?_) (fun c43 => ?_)
        · try simp (disch := omega) only [nI_eq, nI_leI, nI_ltI] at c43
          refine Ev.blk kX1_nearest_60 rfl trivial ?_
          refine Ev.jmp tX1_nearest_63 ?_
          refine k _ _ ⟨rfl, some (mI (nI (far (dc D i) (dc D j)))), ?_⟩
          rw [nI_add]
          first
            | exact hq1 c43 (fun hq => by rw [if_neg (by rw [hq]; simp)] <;> rfl)
            | exact hq2 c43 (fun hq => by rw [if_neg (by rw [hq]; simp; omega)] <;> rfl)
            | exact hq2 c43 (fun hq => by rw [if_pos (by rw [hq]; simp; omega)] <;> rfl)
        · try simp (disch := omega) only [nI_eq, nI_leI, nI_ltI] at c43
          refine Ev.blk kX1_nearest_46 rfl trivial ?_
          refine Ev.br tX1_nearest_50 rfl (fun c50 => ?_) (fun c50 => ?_)
          · try simp (disch := omega) only [nI_eq, nI_leI, nI_ltI] at c50
            refine Ev.blk kX1_nearest_60 rfl trivial ?_
            refine Ev.jmp tX1_nearest_63 ?_
            refine k _ _ ⟨rfl, some (mI (nI (far (dc D i) (dc D j)))), ?_⟩
            rw [nI_add]
            first
              | exact hq1 c43 (fun hq => by rw [if_neg (by rw [hq]; simp)] <;> rfl)
              | exact hq2 c43 (fun hq => by rw [if_neg (by rw [hq]; simp; omega)] <;> rfl)
              | exact hq2 c43 (fun hq => by rw [if_pos (by rw [hq]; simp; omega)] <;> rfl)
          · try simp (disch := omega) only [nI_eq, nI_leI, nI_ltI] at c50
            refine Ev.blk kX1_nearest_53 rfl trivial ?_
            refine Ev.blk kX1_nearest_60 rfl trivial ?_
            refine Ev.jmp tX1_nearest_63 ?_
            refine k _ _ ⟨rfl, some (mI (nI (far (dc D i) (dc D j)))), ?_⟩
            rw [nI_add]
            first
              | exact hq1 c43 (fun hq => by rw [if_neg (by rw [hq]; simp)] <;> rfl)
              | exact hq2 c43 (fun hq => by rw [if_neg (by rw [hq]; simp; omega)] <;> rfl)
              | exact hq2 c43 (fun hq => by rw [if_pos (by rw [hq]; simp; omega)] <;> rfl)
end Y3
end
section
/-! ===== the class's yard: sets of children as bits; steps ===== -/
theorem YI.n8 {D : Yd} (h : YI D) : dn D ≤ 8 := h.1
theorem YI.cl {D : Yd} (h : YI D) {j : Nat} (hj : j < dn D) : dc D j < 24 := (h.2.1 j hj).2.1
theorem YI.kd {D : Yd} (h : YI D) {j : Nat} (hj : j < dn D) : dk D j < 8 := (h.2.1 j hj).1
theorem YI.fr {D : Yd} (h : YI D) {j : Nat} (hj : j < dn D) : df D j < 8 := (h.2.1 j hj).2.2
theorem YI.td {D : Yd} (h : YI D) (j : Nat) : dt D j ≤ 9 := h.2.2.1 j
theorem YI.st {D : Yd} (h : YI D) {j : Nat} (hj : ds D j = true) : j < dn D ∧ dk D j < 4 := h.2.2.2.1 j hj
theorem YI.rd {D : Yd} (h : YI D) (x : Nat) : dr D x ≤ 99 := h.2.2.2.2.2.1 x
theorem YI.lw {D : Yd} (h : YI D) : dl D < 4 := h.2.2.2.2.2.2.2.1
theorem YI.se {D : Yd} (h : YI D) : de D < 100000 := h.2.2.2.2.2.2.2.2
theorem YI.uc {D : Yd} (h : YI D) {i v : Nat} (hv : v < 24) : YI (uc D (va_up (dc D) i v)) := by
  obtain ⟨h1, h2, h3⟩ := h
  refine ⟨h1, fun j hj => ⟨(h2 j hj).1, ?_, (h2 j hj).2.2⟩, h3⟩
  show va_up (dc D) i v j < 24
  unfold va_up
  split
  · exact hv
  · exact (h2 j hj).2.1
theorem YI.ut {D : Yd} (h : YI D) {i v : Nat} (hi : i < dn D) (hv : v ≤ 9) : YI (ut D (va_up (dt D) i v)) := by
  obtain ⟨h1, h2, h3, h4, h5, h6⟩ := h
  refine ⟨h1, h2, fun j => ?_, h4, fun j hj => ?_, h6⟩
  · show va_up (dt D) i v j ≤ 9
    unfold va_up
    split
    · exact hv
    · exact h3 j
  · show va_up (dt D) i v j = 0
    unfold va_up
    have hj : dn D ≤ j := hj
    rw [if_neg (by omega)]
    exact h5 j hj
theorem YI.us {D : Yd} (h : YI D) {q : Nat → Bool} (hq : ∀ j, q j = true → j < dn D ∧ dk D j < 4) : YI (us D q) := ⟨h.1, h.2.1, h.2.2.1, hq, h.2.2.2.2⟩
theorem YI.ug {D : Yd} (h : YI D) {g : Nat} : YI (ug D g) := h
theorem YI.ua {D : Yd} (h : YI D) {g : Nat} : YI (ua D g) := h
theorem YI.ue {D : Yd} (h : YI D) {g : Nat} (hg : g < 100000) : YI (ue D g) := ⟨h.1, h.2.1, h.2.2.1, h.2.2.2.1, h.2.2.2.2.1, h.2.2.2.2.2.1, h.2.2.2.2.2.2.1, h.2.2.2.2.2.2.2.1, hg⟩
theorem YI.frd {D : Yd} (h : YI D) {i : Nat} {q : Nat → Bool} (hi : i < dn D) (hq : ∀ j, q j = true → ds D j = true) : YI (frd D i q) := by
  obtain ⟨h1, h2, h3, h4, h5, h6, h7, h8⟩ := h
  refine ⟨h1, h2, h3, fun j hj => ?_, h5, fun x => ?_, fun x hx => ?_, h8⟩
  · have hj : (ds D j && !q j) = true := hj
    simp only [Bool.and_eq_true] at hj
    exact h4 j hj.1
  · show (if x / 8 = i ∧ q (x % 8) = true then (if dr D x < 99 then dr D x + 1 else 99) else dr D x) ≤ 99
    have := h6 x
    split
    · split <;> omega
    · exact this
  · show (if x / 8 = i ∧ q (x % 8) = true then (if dr D x < 99 then dr D x + 1 else 99) else dr D x) = 0
    have hx : dn D ≤ x / 8 ∨ dn D ≤ x % 8 := hx
    rw [if_neg]
    · exact h7 x hx
    · rintro ⟨e1, e2⟩
      have := (h4 _ (hq _ e2)).1
      omega
theorem capL_le (D : Yd) (c : Nat) : ∀ i, capL D c i ≤ 99
  | 0 => Nat.le_refl _
  | i + 1 => by
    have := capL_le D c i
    unfold capL
    repeat' split
    all_goals omega
theorem cap_le (D : Yd) (c : Nat) : cap D c ≤ 99 := capL_le D c _
theorem stp_in {c way t : Nat} (hc : c < 24) (hw : way < 5) (h : stp c way = some t) : t < 24 := by
  have := stp_lt c hc way hw
  rw [h] at this
  simpa using this
theorem awS_lt {D : Yd} {c b way : Nat} (hc : c < 24) (hb : b < 24) (hw : way < 5) : awS D c b way < 24 := by
  unfold awS
  split
  · rename_i t ht
    have := stp_in hc hw ht
    split <;> omega
  · exact hb
theorem awy_lt {D : Yd} {c : Nat} (hc : c < 24) : awy D c < 24 := awS_lt hc (awS_lt hc (awS_lt hc (awS_lt hc hc (by decide)) (by decide)) (by decide)) (by decide)
theorem twS_lt {c a b way : Nat} (hc : c < 24) (hb : b < 24) (hw : way < 5) : twS c a b way < 24 := by
  unfold twS
  split
  · rename_i t ht
    have := stp_in hc hw ht
    split <;> omega
  · exact hb
theorem twd_lt {c a : Nat} (hc : c < 24) : twd c a < 24 := twS_lt hc (twS_lt hc (twS_lt hc (twS_lt hc hc (by decide)) (by decide)) (by decide)) (by decide)
def aws (D : Yd) (c : Nat) : Nat → Nat
  | 0 => c
  | s + 1 => if s = 0 then c else awS D c (aws D c s) s
theorem aws_lt {D : Yd} {c : Nat} (hc : c < 24) : ∀ s, s ≤ 5 → aws D c s < 24
  | 0, _ => hc
  | s + 1, h => by
    unfold aws
    split
    · exact hc
    · exact awS_lt hc (aws_lt hc s (by omega)) (by omega)
theorem aws_5 (D : Yd) (c : Nat) : aws D c 5 = awy D c := rfl
def tws (c a : Nat) : Nat → Nat
  | 0 => c
  | s + 1 => if s = 0 then c else twS c a (tws c a s) s
theorem tws_lt {c a : Nat} (hc : c < 24) : ∀ s, s ≤ 5 → tws c a s < 24
  | 0, _ => hc
  | s + 1, h => by
    unfold tws
    split
    · exact hc
    · exact twS_lt hc (tws_lt hc s (by omega)) (by omega)
theorem tws_5 (c a : Nat) : tws c a 5 = twd c a := rfl
theorem tb_tire : ∀ t, t < 10 → imx (nI 0) (imn (nI 9) (nI t + (-1))) = nI (tir t true) ∧ imx (nI 0) (imn (nI 9) (nI t + nI 1)) = nI (tir t false) := by decide +kernel
theorem tir_le {t : Nat} (h : t ≤ 9) (b : Bool) : tir t b ≤ 9 := by
  unfold tir
  split
  · omega
  · split <;> omega
section Y4
variable {l : Launch} {d : Nat} {w : mW} {y : Nat} {D : Yd}
theorem ev_playerBits (hY : YardAt w y D) (hI : YI D) : Cl l d MX1_playerBits [mR 1 y] w (fun r u => u = w ∧ r = some (mI (nI (bts (plq D) 8)))) := by
  show Ev l d MX1_playerBits 0 [some (mR 1 y), none, none] [] w _
  refine Ev.blk kX1_playerBits_0 rfl trivial ?_
  have hn := hY.n
  have h8 := hI.1
  refine Ev.for (fun j L u => u = w ∧ L = [some (mR 1 y), some (mI (nI (bts (fun o => decide (o < j) && !isC D o) 8))), some (mI (nI j))]) (dn D) ?_ ?_ 0 (Nat.zero_le _) ⟨rfl, by simp; exact b_zero⟩
  · rintro L u ⟨rfl, rfl⟩
    refine Ev.blk kX1_playerBits_4 rfl trivial ?_
    simp only [hn]
    refine Ev.br tX1_playerBits_9 rfl (fun c9 => ?_) (fun c9 => ?_)
    · refine Ev.blk kX1_playerBits_34 rfl trivial ?_
      refine Ev.iret tX1_playerBits_35 rfl rfl ?_
      exact ⟨rfl, rfl⟩
    · exact absurd (nI_le (Nat.le_refl _) (by omega)) c9
  · rintro j L u hj ⟨rfl, rfl⟩ k
    have hj8 : j < 8 := by omega
    have hkk := hI.kd hj
    refine Ev.blk kX1_playerBits_4 rfl trivial ?_
    simp only [hn]
    refine Ev.br tX1_playerBits_9 rfl (fun c9 => ?_) (fun c9 => ?_)
    · exact absurd c9 (nI_ge hj (by omega))
    · try simp (disch := omega) only [nI_eq, nI_leI, nI_ltI] at c9
      refine Ev.blk kX1_playerBits_12 rfl ⟨trivial, vinN hj8 (by decide)⟩ ?_
      simp only [ix8 hj8, hY.k hj8]
      refine Ev.br tX1_playerBits_19 rfl (fun c19 => ?_) (fun c19 => ?_)
      · try simp (disch := omega) only [nI_eq, nI_leI, nI_ltI] at c19
        refine Ev.blk kX1_playerBits_28 rfl trivial ?_
        refine Ev.jmp tX1_playerBits_31 ?_
        refine k _ _ ⟨rfl, ?_⟩
        rw [nI_add]
        have e : ∀ o, o < 8 → (decide (o < j + 1) && !isC D o) = (if o = j then !isC D j else (decide (o < j) && !isC D o)) := by
          intro o _
          by_cases h : o = j
          · subst h; simp
          · rw [if_neg h]
            have : decide (o < j + 1) = decide (o < j) := by simp; omega
            rw [this]
        rw [bts_congr e]
        first
          | (have hC : isC D j = true := by unfold isC; simp; omega
             congr 5
             refine bts_congr (fun o ho => ?_)
             by_cases h : o = j
             · subst h; simp [hC]
             · rw [if_neg h])
          | (have hC : isC D j = false := by unfold isC; simp; omega
             congr 5
             refine bts_congr (fun o ho => ?_)
             unfold va_up
             by_cases h : o = j
             · subst h; simp [hC]
             · rw [if_neg h, if_neg h])
      · try simp (disch := omega) only [nI_eq, nI_leI, nI_ltI] at c19
        refine Ev.blk kX1_playerBits_22 rfl trivial ?_
        rw [b_or hj8]
        refine Ev.blk kX1_playerBits_28 rfl trivial ?_
        refine Ev.jmp tX1_playerBits_31 ?_
        refine k _ _ ⟨rfl, ?_⟩
        rw [nI_add]
        have e : ∀ o, o < 8 → (decide (o < j + 1) && !isC D o) = (if o = j then !isC D j else (decide (o < j) && !isC D o)) := by
          intro o _
          by_cases h : o = j
          · subst h; simp
          · rw [if_neg h]
            have : decide (o < j + 1) = decide (o < j) := by simp; omega
            rw [this]
        rw [bts_congr e]
        first
          | (have hC : isC D j = true := by unfold isC; simp; omega
             congr 5
             refine bts_congr (fun o ho => ?_)
             by_cases h : o = j
             · subst h; simp [hC]
             · rw [if_neg h])
          | (have hC : isC D j = false := by unfold isC; simp; omega
             congr 5
             refine bts_congr (fun o ho => ?_)
             unfold va_up
             by_cases h : o = j
             · subst h; simp [hC]
             · rw [if_neg h, if_neg h])
theorem ev_runningBits (hY : YardAt w y D) (hI : YI D) (hd : 1 ≤ d) : Cl l d MX1_runningBits [mR 1 y] w (fun r u => u = w ∧ r = some (mI (nI (bts (fun j => plq D j && !ds D j) 8)))) := by
  show Ev l d MX1_runningBits 0 [some (mR 1 y)] [] w _
  refine Ev.blk kX1_runningBits_0 rfl trivial ?_
  refine Ev.cV (d1 := d - 1) (ev_playerBits hY hI) tX1_runningBits_1 qX1_62 rfl rfl (by decide) ⟨rfl, rfl, rfl⟩ (by omega) ?_
  rintro _ _ ⟨rfl, rfl⟩
  refine Ev.blk kX1_runningBits_4 rfl trivial ?_
  simp only [hY.s, b_andn]
  refine Ev.iret tX1_runningBits_11 rfl rfl ?_
  exact ⟨rfl, rfl⟩
theorem ev_safeBits (hY : YardAt w y D) (hI : YI D) (hd : 1 ≤ d) : Cl l d MX1_safeBits [mR 1 y] w (fun r u => u = w ∧ r = some (mI (nI (bts (sfq D) 8)))) := by
  show Ev l d MX1_safeBits 0 [some (mR 1 y), none, none] [] w _
  refine Ev.blk kX1_safeBits_0 rfl trivial ?_
  have hn := hY.n
  have h8 := hI.1
  have hl4 := hI.lw
  refine Ev.for (fun j L u => u = w ∧ L = [some (mR 1 y), some (mI (nI (bts (fun o => decide (o < j) && (o == da D || (dl D == 1 && edg (dc D o)))) 8))), some (mI (nI j))]) (dn D) ?_ ?_ 0 (Nat.zero_le _) ⟨rfl, by simp; exact b_zero⟩
  · rintro L u ⟨rfl, rfl⟩
    refine Ev.blk kX1_safeBits_4 rfl trivial ?_
    simp only [hn]
    refine Ev.br tX1_safeBits_9 rfl (fun c9 => ?_) (fun c9 => ?_)
    · refine Ev.blk kX1_safeBits_52 rfl trivial ?_
      refine Ev.iret tX1_safeBits_53 rfl rfl ?_
      exact ⟨rfl, rfl⟩
    · exact absurd (nI_le (Nat.le_refl _) (by omega)) c9
  · rintro j L u hj ⟨rfl, rfl⟩ k
    have hj8 : j < 8 := by omega
    have hcj := hI.cl hj
    have ha : (nI j = enA (da D)) = (j = da D) := by
      unfold enA
      split
      · rw [nI_eq (by omega) (by omega)]
      · rw [nI_m1 (by omega)]
        apply (eq_false _).symm
        omega
    have e : ∀ b : Bool, (j == da D || (dl D == 1 && edg (dc D j))) = b → bts (fun o => decide (o < j + 1) && (o == da D || (dl D == 1 && edg (dc D o)))) 8 = bts (va_up (fun o => decide (o < j) && (o == da D || (dl D == 1 && edg (dc D o)))) j b) 8 := by
      intro b hb
      refine bts_congr (fun o _ => ?_)
      unfold va_up
      by_cases h : o = j
      · subst h; simp only [if_true]; rw [hb]; simp
      · rw [if_neg h]
        have : decide (o < j + 1) = decide (o < j) := by simp; omega
        rw [this]
    have e0 : bts (va_up (fun o => decide (o < j) && (o == da D || (dl D == 1 && edg (dc D o)))) j false) 8 = bts (fun o => decide (o < j) && (o == da D || (dl D == 1 && edg (dc D o)))) 8 := by
      refine bts_congr (fun o _ => ?_)
      unfold va_up
      by_cases h : o = j
      · subst h; simp
      · rw [if_neg h]
    refine Ev.blk kX1_safeBits_4 rfl trivial ?_
    simp only [hn]
    refine Ev.br tX1_safeBits_9 rfl (fun c9 => ?_) (fun c9 => ?_)
    · exact absurd c9 (nI_ge hj (by omega))
    · try simp (disch := omega) only [nI_eq, nI_leI, nI_ltI] at c9
      refine Ev.blk kX1_safeBits_12 rfl trivial ?_
      simp only [hY.a]
      refine Ev.br tX1_safeBits_17 rfl (fun c17 => ?_) (fun c17 => ?_)
      · rw [ha] at c17
        refine Ev.blk kX1_safeBits_40 rfl trivial ?_
        rw [b_or hj8]
        refine Ev.blk kX1_safeBits_46 rfl trivial ?_
        refine Ev.jmp tX1_safeBits_49 ?_
        refine k _ _ ⟨rfl, ?_⟩
        rw [nI_add]
        cases hb : (j == da D || (dl D == 1 && edg (dc D j)))
        · rw [e false hb, e0] <;> first | rfl | (exfalso; simp_all; done)
        · rw [e true hb] <;> first | rfl | (exfalso; simp_all; done)
      · rw [ha] at c17
        refine Ev.blk kX1_safeBits_20 rfl trivial ?_
        simp only [hY.l]
        refine Ev.br tX1_safeBits_25 rfl (fun c25 => ?_) (fun c25 => ?_)
        · try simp (disch := omega) only [nI_eq, nI_leI, nI_ltI] at c25
          refine Ev.blk kX1_safeBits_46 rfl trivial ?_
          refine Ev.jmp tX1_safeBits_49 ?_
          refine k _ _ ⟨rfl, ?_⟩
          rw [nI_add]
          cases hb : (j == da D || (dl D == 1 && edg (dc D j)))
          · rw [e false hb, e0] <;> first | rfl | (exfalso; simp_all; done)
          · rw [e true hb] <;> first | rfl | (exfalso; simp_all; done)
        · try simp (disch := omega) only [nI_eq, nI_leI, nI_ltI] at c25
          refine Ev.blk kX1_safeBits_28 rfl ⟨trivial, vinN hj8 (by decide)⟩ ?_
          simp only [ix8 hj8, hY.c hj8]
          refine Ev.cS (d1 := d - 1) (ev_isEdge hcj) tX1_safeBits_34 qX1_124 rfl ⟨rfl, rfl, rfl⟩ (by omega) ?_
          rintro _ _ ⟨rfl, rfl⟩
          refine Ev.br tX1_safeBits_37 rfl (fun c37 => ?_) (fun c37 => ?_)
          · rw [bI_0] at c37
            refine Ev.blk kX1_safeBits_46 rfl trivial ?_
            refine Ev.jmp tX1_safeBits_49 ?_
            refine k _ _ ⟨rfl, ?_⟩
            rw [nI_add]
            cases hb : (j == da D || (dl D == 1 && edg (dc D j)))
            · rw [e false hb, e0] <;> first | rfl | (exfalso; simp_all; done)
            · rw [e true hb] <;> first | rfl | (exfalso; simp_all; done)
          · rw [bI_0] at c37
            refine Ev.blk kX1_safeBits_40 rfl trivial ?_
            rw [b_or hj8]
            refine Ev.blk kX1_safeBits_46 rfl trivial ?_
            refine Ev.jmp tX1_safeBits_49 ?_
            refine k _ _ ⟨rfl, ?_⟩
            rw [nI_add]
            cases hb : (j == da D || (dl D == 1 && edg (dc D j)))
            · rw [e false hb, e0] <;> first | rfl | (exfalso; simp_all; done)
            · rw [e true hb] <;> first | rfl | (exfalso; simp_all; done)
theorem ev_freeableBits (hY : YardAt w y D) (hI : YI D) {i : Nat} (hi : i < dn D) : Cl l d MX1_freeableBits [mR 1 y, mI (nI i)] w (fun r u => u = w ∧ r = some (mI (frb D i))) := by
  show Ev l d MX1_freeableBits 0 [some (mR 1 y), some (mI (nI i))] [] w _
  have h8 := hI.1
  have hi8 : i < 8 := by omega
  have hk8 := hI.kd hi
  refine Ev.blk kX1_freeableBits_0 rfl ⟨trivial, vinN hi8 (by decide)⟩ ?_
  simp only [ix8 hi8, hY.k hi8]
  refine Ev.br tX1_freeableBits_7 rfl (fun c7 => ?_) (fun c7 => ?_)
  · try simp (disch := omega) only [nI_eq, nI_leI, nI_ltI] at c7
    refine Ev.blk kX1_freeableBits_12 rfl ⟨trivial, vinN hi8 (by decide)⟩ ?_
    simp only [ix8 hi8, hY.k hi8]
    refine Ev.br tX1_freeableBits_19 rfl (fun c19 => ?_) (fun c19 => ?_)
    · try simp (disch := omega) only [nI_eq, nI_leI, nI_ltI] at c19
      refine Ev.blk kX1_freeableBits_33 rfl trivial ?_
      refine Ev.iret tX1_freeableBits_34 rfl rfl ?_
      refine ⟨rfl, ?_⟩
      unfold frb
      first
        | (rw [if_pos (by omega)])
        | (rw [if_neg (by omega), if_pos (by omega)])
        | (rw [if_neg (by omega), if_neg (by omega)])
    · try simp (disch := omega) only [nI_eq, nI_leI, nI_ltI] at c19
      refine Ev.blk kX1_freeableBits_22 rfl ⟨trivial, vinN hi8 (by decide)⟩ ?_
      simp only [ix8 hi8, hY.f hi8]
      refine Ev.jmp tX1_freeableBits_30 ?_
      refine Ev.iret tX1_freeableBits_34 rfl rfl ?_
      refine ⟨rfl, ?_⟩
      unfold frb
      first
        | (rw [if_pos (by omega)])
        | (rw [if_neg (by omega), if_pos (by omega)])
        | (rw [if_neg (by omega), if_neg (by omega)])
  · try simp (disch := omega) only [nI_eq, nI_leI, nI_ltI] at c7
    refine Ev.blk kX1_freeableBits_10 rfl trivial ?_
    refine Ev.iret tX1_freeableBits_11 rfl rfl ?_
    refine ⟨rfl, ?_⟩
    unfold frb
    first
      | (rw [if_pos (by omega)])
      | (rw [if_neg (by omega), if_pos (by omega)])
      | (rw [if_neg (by omega), if_neg (by omega)])
theorem ev_letRun (hY : YardAt w y D) {i : Nat} (hi : i < 8) : Cl l d MX1_letRun [mR 1 y, mI (nI i)] w (fun r u => r = none ∧ Off y w u ∧ YardAt u y (us D (va_up (ds D) i false))) := by
  show Ev l d MX1_letRun 0 [some (mR 1 y), some (mI (nI i))] [] w _
  refine Ev.blk kX1_letRun_0 rfl trivial ?_
  rw [hY.s, b_clr hi]
  refine Ev.vret tX1_letRun_14 rfl ?_
  exact ⟨rfl, Off.pf, hY.pS⟩
theorem ev_tire (hY : YardAt w y D) (hI : YI D) (hd : 1 ≤ d) {i : Nat} (hi : i < 8) {x : Int32} (b : Bool) (hx : x = if b then -1 else nI 1) : Cl l d MX1_tire [mR 1 y, mI (nI i), mI x] w (fun r u => r = none ∧ Off y w u ∧ YardAt u y (ut D (va_up (dt D) i (tir (dt D i) b)))) := by
  show Ev l d MX1_tire 0 [some (mR 1 y), some (mI (nI i)), some (mI x)] [] w _
  have ht := hI.td i
  have hv : imx (nI 0) (imn (nI 9) (nI (dt D i) + x)) = nI (tir (dt D i) b) := by
    cases b
    · rw [hx]; exact (tb_tire (dt D i) (by omega)).2
    · rw [hx]; exact (tb_tire (dt D i) (by omega)).1
  refine Ev.blk kX1_tire_0 rfl ⟨trivial, vinN hi (by decide)⟩ ?_
  simp only [ix8 hi, hY.t hi]
  refine Ev.mmin tX1_tire_16 qX1_103 (by omega) (Nat.le_of_ble_eq_true rfl) ?_
  refine Ev.mmax tX1_tire_19 qX1_133 (by omega) (Nat.le_of_ble_eq_true rfl) ?_
  rw [hv]
  refine Ev.blk kX1_tire_22 rfl ⟨trivial, vinN hi (by decide)⟩ ?_
  rw [ix8 hi]
  refine Ev.vret tX1_tire_23 rfl ?_
  exact ⟨rfl, Off.pA (by decide), hY.pt⟩
theorem ev_stepAway (hY : YardAt w y D) (hI : YI D) (hd : 2 ≤ d) {i : Nat} (hi : i < dn D) : Cl l d MX1_stepAway [mR 1 y, mI (nI i)] w (fun r u => r = none ∧ Off y w u ∧ YardAt u y (uc D (va_up (dc D) i (awy D (dc D i))))) := by
  show Ev l d MX1_stepAway 0 [some (mR 1 y), some (mI (nI i)), none, none, none, none] [] w _
  have h8 := hI.1
  have hi8 : i < 8 := by omega
  have hci := hI.cl hi
  refine Ev.blk kX1_stepAway_0 rfl ⟨trivial, vinN hi8 (by decide)⟩ ?_
  simp only [ix8 hi8, hY.c hi8]
  refine Ev.for (fun s L u => u = w ∧ ∃ x, L = [some (mR 1 y), some (mI (nI i)), some (mI (nI (aws D (dc D i) s))), some (mI (if s = 0 then -1 else nI (cap D (aws D (dc D i) s)))), some (mI (nI s)), x]) 5 ?_ ?_ 0 (by decide) ⟨rfl, none, rfl⟩
  · rintro L u ⟨rfl, x, rfl⟩
    refine Ev.blk kX1_stepAway_12 rfl trivial ?_
    refine Ev.br tX1_stepAway_15 rfl (fun c15 => ?_) (fun c15 => ?_)
    · refine Ev.blk kX1_stepAway_63 rfl ⟨trivial, vinN hi8 (by decide)⟩ ?_
      rw [ix8 hi8, aws_5]
      refine Ev.vret tX1_stepAway_70 rfl ?_
      exact ⟨rfl, Off.pA (by decide), hY.pc⟩
    · exact absurd (nI_le (Nat.le_refl _) (by omega)) c15
  · rintro s L u hs ⟨rfl, x, rfl⟩ k
    have hlt := aws_lt (D := D) hci s (by omega)
    have hcb := cap_le D (aws D (dc D i) s)
    have e : aws D (dc D i) (s + 1) = if s = 0 then dc D i else (match stp (dc D i) s with
        | some t => if cap D (aws D (dc D i) s) < cap D t then t else aws D (dc D i) s
        | none => aws D (dc D i) s) := rfl
    cases ht : stp (dc D i) s with
    | none =>
      have hs0 : ¬ s = 0 := by intro z; subst z; cases ht
      have e2 : aws D (dc D i) (s + 1) = aws D (dc D i) s := by rw [e, if_neg hs0, ht]
      refine Ev.blk kX1_stepAway_12 rfl trivial ?_
      refine Ev.br tX1_stepAway_15 rfl (fun c15 => ?_) (fun c15 => ?_)
      · exact absurd c15 (nI_ge hs (by omega))
      · refine Ev.blk kX1_stepAway_18 rfl ⟨trivial, vinN hi8 (by decide)⟩ ?_
        simp only [ix8 hi8, hY.c hi8]
        refine Ev.cS (d1 := d - 1) (ev_cellBehind hci hs) tX1_stepAway_26 qX1_154 rfl ⟨rfl, rfl, rfl⟩ (by omega) ?_
        rintro _ _ ⟨rfl, rfl⟩
        rw [ht]
        refine Ev.blk kX1_stepAway_29 rfl trivial ?_
        refine Ev.br tX1_stepAway_34 rfl (fun c34 => ?_) (fun c34 => ?_)
        · refine Ev.blk kX1_stepAway_57 rfl trivial ?_
          refine Ev.jmp tX1_stepAway_60 ?_
          refine k _ _ ⟨rfl, some (mI (-1)), ?_⟩
          rw [nI_add, e2, if_neg hs0, if_neg (by omega)]
          rfl
        · exact absurd rfl c34
    | some t =>
      have htl := stp_in hci hs ht
      have hct := cap_le D t
      refine Ev.blk kX1_stepAway_12 rfl trivial ?_
      refine Ev.br tX1_stepAway_15 rfl (fun c15 => ?_) (fun c15 => ?_)
      · exact absurd c15 (nI_ge hs (by omega))
      · refine Ev.blk kX1_stepAway_18 rfl ⟨trivial, vinN hi8 (by decide)⟩ ?_
        simp only [ix8 hi8, hY.c hi8]
        refine Ev.cS (d1 := d - 1) (ev_cellBehind hci hs) tX1_stepAway_26 qX1_154 rfl ⟨rfl, rfl, rfl⟩ (by omega) ?_
        rintro _ _ ⟨rfl, rfl⟩
        rw [ht]
        refine Ev.blk kX1_stepAway_29 rfl trivial ?_
        refine Ev.br tX1_stepAway_34 rfl (fun c34 => ?_) (fun c34 => ?_)
        · exact absurd c34 (by show ¬ (nI t = -1); rw [nI_m1 (by omega)]; exact id)
        · refine Ev.blk kX1_stepAway_37 rfl trivial ?_
          refine Ev.cV (d1 := d - 1) (ev_catcherApart hY hI (by omega) htl) tX1_stepAway_40 qX1_127 rfl rfl (by decide) ⟨rfl, rfl, rfl⟩ (by omega) ?_
          rintro _ _ ⟨rfl, rfl⟩
          refine Ev.blk kX1_stepAway_43 rfl trivial ?_
          refine Ev.br tX1_stepAway_44 rfl (fun c44 => ?_) (fun c44 => ?_)
          · refine Ev.blk kX1_stepAway_57 rfl trivial ?_
            refine Ev.jmp tX1_stepAway_60 ?_
            refine k _ _ ⟨rfl, some (mI (nI t)), ?_⟩
            rw [nI_add, if_neg (show ¬ s + 1 = 0 by omega)]
            by_cases hs0 : s = 0
            · subst hs0
              have htc : t = dc D i := by cases ht; rfl
              subst htc
              first
                | exact absurd c44 (by rw [if_pos rfl]; show ¬ (nI (cap D (dc D i)) ≤ -1); rw [Int32.le_iff_toInt_le, nI_toInt (by omega)]; have : (-1 : Int32).toInt = -1 := by decide
                                       omega)
                | rfl
            · rw [if_neg hs0, nI_leI (by omega) (by omega)] at c44
              have e2 : aws D (dc D i) (s + 1) = if cap D (aws D (dc D i) s) < cap D t then t else aws D (dc D i) s := by rw [e, if_neg hs0, ht]
              first
                | (have e3 : aws D (dc D i) (s + 1) = aws D (dc D i) s := by rw [e2]; exact if_neg (by omega)
                   rw [e3, if_neg hs0] <;> rfl)
                | (have e3 : aws D (dc D i) (s + 1) = t := by rw [e2]; exact if_pos (by omega)
                   rw [e3] <;> rfl)
          · refine Ev.blk kX1_stepAway_47 rfl trivial ?_
            refine Ev.cV (d1 := d - 1) (ev_catcherApart hY hI (by omega) htl) tX1_stepAway_50 qX1_127 rfl rfl (by decide) ⟨rfl, rfl, rfl⟩ (by omega) ?_
            rintro _ _ ⟨rfl, rfl⟩
            refine Ev.blk kX1_stepAway_53 rfl trivial ?_
            refine Ev.blk kX1_stepAway_57 rfl trivial ?_
            refine Ev.jmp tX1_stepAway_60 ?_
            refine k _ _ ⟨rfl, some (mI (nI t)), ?_⟩
            rw [nI_add, if_neg (show ¬ s + 1 = 0 by omega)]
            by_cases hs0 : s = 0
            · subst hs0
              have htc : t = dc D i := by cases ht; rfl
              subst htc
              first
                | exact absurd c44 (by rw [if_pos rfl]; show ¬ (nI (cap D (dc D i)) ≤ -1); rw [Int32.le_iff_toInt_le, nI_toInt (by omega)]; have : (-1 : Int32).toInt = -1 := by decide
                                       omega)
                | rfl
            · rw [if_neg hs0, nI_leI (by omega) (by omega)] at c44
              have e2 : aws D (dc D i) (s + 1) = if cap D (aws D (dc D i) s) < cap D t then t else aws D (dc D i) s := by rw [e, if_neg hs0, ht]
              first
                | (have e3 : aws D (dc D i) (s + 1) = aws D (dc D i) s := by rw [e2]; exact if_neg (by omega)
                   rw [e3, if_neg hs0] <;> rfl)
                | (have e3 : aws D (dc D i) (s + 1) = t := by rw [e2]; exact if_pos (by omega)
                   rw [e3] <;> rfl)
theorem ev_stepToward (hY : YardAt w y D) (hI : YI D) (hd : 1 ≤ d) {i g : Nat} (hi : i < dn D) (hg : g < 24) : Cl l d MX1_stepToward [mR 1 y, mI (nI i), mI (nI g)] w (fun r u => r = none ∧ Off y w u ∧ YardAt u y (uc D (va_up (dc D) i (twd (dc D i) g)))) := by
  show Ev l d MX1_stepToward 0 [some (mR 1 y), some (mI (nI i)), some (mI (nI g)), none, none, none, none] [] w _
  have h8 := hI.1
  have hi8 : i < 8 := by omega
  have hci := hI.cl hi
  refine Ev.blk kX1_stepToward_0 rfl ⟨trivial, vinN hi8 (by decide)⟩ ?_
  simp only [ix8 hi8, hY.c hi8]
  refine Ev.for (fun s L u => u = w ∧ ∃ x, L = [some (mR 1 y), some (mI (nI i)), some (mI (nI g)), some (mI (nI (tws (dc D i) g s))), some (mI (nI (if s = 0 then 99 else far (tws (dc D i) g s) g))), some (mI (nI s)), x]) 5 ?_ ?_ 0 (by decide) ⟨rfl, none, rfl⟩
  · rintro L u ⟨rfl, x, rfl⟩
    refine Ev.blk kX1_stepToward_14 rfl trivial ?_
    refine Ev.br tX1_stepToward_17 rfl (fun c17 => ?_) (fun c17 => ?_)
    · refine Ev.blk kX1_stepToward_67 rfl ⟨trivial, vinN hi8 (by decide)⟩ ?_
      rw [ix8 hi8, tws_5]
      refine Ev.vret tX1_stepToward_74 rfl ?_
      exact ⟨rfl, Off.pA (by decide), hY.pc⟩
    · exact absurd (nI_le (Nat.le_refl _) (by omega)) c17
  · rintro s L u hs ⟨rfl, x, rfl⟩ k
    have hlt := tws_lt (a := g) hci s (by omega)
    have hcb := far_le (tws (dc D i) g s) hlt g hg
    have e : tws (dc D i) g (s + 1) = if s = 0 then dc D i else (match stp (dc D i) s with
        | some t => if far t g < far (tws (dc D i) g s) g then t else tws (dc D i) g s
        | none => tws (dc D i) g s) := rfl
    cases ht : stp (dc D i) s with
    | none =>
      have hs0 : ¬ s = 0 := by intro z; subst z; cases ht
      have e2 : tws (dc D i) g (s + 1) = tws (dc D i) g s := by rw [e, if_neg hs0, ht]
      refine Ev.blk kX1_stepToward_14 rfl trivial ?_
      refine Ev.br tX1_stepToward_17 rfl (fun c17 => ?_) (fun c17 => ?_)
      · exact absurd c17 (nI_ge hs (by omega))
      · refine Ev.blk kX1_stepToward_20 rfl ⟨trivial, vinN hi8 (by decide)⟩ ?_
        simp only [ix8 hi8, hY.c hi8]
        refine Ev.cS (d1 := d - 1) (ev_cellBehind hci hs) tX1_stepToward_28 qX1_154 rfl ⟨rfl, rfl, rfl⟩ (by omega) ?_
        rintro _ _ ⟨rfl, rfl⟩
        rw [ht]
        refine Ev.blk kX1_stepToward_31 rfl trivial ?_
        refine Ev.br tX1_stepToward_36 rfl (fun c36 => ?_) (fun c36 => ?_)
        · refine Ev.blk kX1_stepToward_61 rfl trivial ?_
          refine Ev.jmp tX1_stepToward_64 ?_
          refine k _ _ ⟨rfl, some (mI (-1)), ?_⟩
          rw [nI_add, e2, if_neg hs0, if_neg (by omega)]
          rfl
        · exact absurd rfl c36
    | some t =>
      have htl := stp_in hci hs ht
      have hct := far_le t htl g hg
      have hmo : (if s = 0 then 99 else far (tws (dc D i) g s) g) ≤ 99 := by split <;> omega
      refine Ev.blk kX1_stepToward_14 rfl trivial ?_
      refine Ev.br tX1_stepToward_17 rfl (fun c17 => ?_) (fun c17 => ?_)
      · exact absurd c17 (nI_ge hs (by omega))
      · refine Ev.blk kX1_stepToward_20 rfl ⟨trivial, vinN hi8 (by decide)⟩ ?_
        simp only [ix8 hi8, hY.c hi8]
        refine Ev.cS (d1 := d - 1) (ev_cellBehind hci hs) tX1_stepToward_28 qX1_154 rfl ⟨rfl, rfl, rfl⟩ (by omega) ?_
        rintro _ _ ⟨rfl, rfl⟩
        rw [ht]
        refine Ev.blk kX1_stepToward_31 rfl trivial ?_
        refine Ev.br tX1_stepToward_36 rfl (fun c36 => ?_) (fun c36 => ?_)
        · exact absurd c36 (by show ¬ (nI t = -1); rw [nI_m1 (by omega)]; exact id)
        · refine Ev.blk kX1_stepToward_39 rfl trivial ?_
          refine Ev.cS (d1 := d - 1) (ev_apart htl hg) tX1_stepToward_42 qX1_100 rfl ⟨rfl, rfl, rfl⟩ (by omega) ?_
          rintro _ _ ⟨rfl, rfl⟩
          refine Ev.blk kX1_stepToward_45 rfl trivial ?_
          refine Ev.br tX1_stepToward_47 rfl (fun c47 => ?_) (fun c47 => ?_)
          · refine Ev.blk kX1_stepToward_61 rfl trivial ?_
            refine Ev.jmp tX1_stepToward_64 ?_
            refine k _ _ ⟨rfl, some (mI (nI t)), ?_⟩
            rw [nI_leI (by omega) (by omega)] at c47
            rw [nI_add, if_neg (show ¬ s + 1 = 0 by omega)]
            by_cases hs0 : s = 0
            · subst hs0
              have htc : t = dc D i := by cases ht; rfl
              subst htc
              rw [if_pos rfl] at c47
              first
                | omega
                | rfl
            · rw [if_neg hs0] at c47
              have e2 : tws (dc D i) g (s + 1) = if far t g < far (tws (dc D i) g s) g then t else tws (dc D i) g s := by rw [e, if_neg hs0, ht]
              first
                | (have e3 : tws (dc D i) g (s + 1) = tws (dc D i) g s := by rw [e2]; exact if_neg (by omega)
                   rw [e3, if_neg hs0] <;> rfl)
                | (have e3 : tws (dc D i) g (s + 1) = t := by rw [e2]; exact if_pos (by omega)
                   rw [e3] <;> rfl)
          · refine Ev.blk kX1_stepToward_50 rfl trivial ?_
            refine Ev.cS (d1 := d - 1) (ev_apart htl hg) tX1_stepToward_53 qX1_100 rfl ⟨rfl, rfl, rfl⟩ (by omega) ?_
            rintro _ _ ⟨rfl, rfl⟩
            refine Ev.blk kX1_stepToward_56 rfl trivial ?_
            refine Ev.blk kX1_stepToward_61 rfl trivial ?_
            refine Ev.jmp tX1_stepToward_64 ?_
            refine k _ _ ⟨rfl, some (mI (nI t)), ?_⟩
            rw [nI_leI (by omega) (by omega)] at c47
            rw [nI_add, if_neg (show ¬ s + 1 = 0 by omega)]
            by_cases hs0 : s = 0
            · subst hs0
              have htc : t = dc D i := by cases ht; rfl
              subst htc
              rw [if_pos rfl] at c47
              first
                | omega
                | rfl
            · rw [if_neg hs0] at c47
              have e2 : tws (dc D i) g (s + 1) = if far t g < far (tws (dc D i) g s) g then t else tws (dc D i) g s := by rw [e, if_neg hs0, ht]
              first
                | (have e3 : tws (dc D i) g (s + 1) = tws (dc D i) g s := by rw [e2]; exact if_neg (by omega)
                   rw [e3, if_neg hs0] <;> rfl)
                | (have e3 : tws (dc D i) g (s + 1) = t := by rw [e2]; exact if_pos (by omega)
                   rw [e3] <;> rfl)
end Y4
end
section
/-! ===== the class's yard: freeing, running ===== -/
theorem cnt_at {q q' : Nat → Bool} {i : Nat} (h0 : q i = false) (h1 : q' i = true) (h : ∀ j, j ≠ i → q' j = q j) : ∀ {n : Nat}, i < n → cnt q' n = cnt q n + 1
  | 0, hn => by omega
  | n + 1, hn => by
    show cnt q' n + (if q' n = true then 1 else 0) = cnt q n + (if q n = true then 1 else 0) + 1
    by_cases e : i = n
    · subst e
      rw [h0, h1, cnt_congr (q := q') (q' := q) (fun j hj => h j (by omega))]
      simp
    · rw [cnt_at h0 h1 h (show i < n by omega), h n (by omega)]
      omega
theorem va_up_id {α : Type} (f : Nat → α) (i : Nat) : va_up f i (f i) = f := by
  funext j
  unfold va_up
  split
  · rename_i h; rw [h]
  · rfl
theorem Yd_ext {D D' : Yd} (h1 : dk D = dk D') (h2 : dc D = dc D') (h3 : df D = df D') (h4 : dt D = dt D') (h5 : ds D = ds D') (h6 : dr D = dr D') (h7 : dn D = dn D') (h8 : dl D = dl D') (h9 : de D = de D') (h10 : dg D = dg D') (h11 : da D = da D') : D = D' := by
  obtain ⟨a1, a2, a3, a4, a5, a6, a7, a8, a9, a10, a11⟩ := D
  obtain ⟨b1, b2, b3, b4, b5, b6, b7, b8, b9, b10, b11⟩ := D'
  simp only [dk, dc, df, dt, ds, dr, dn, dl, de, dg, da] at *
  subst h1 h2 h3 h4 h5 h6 h7 h8 h9 h10 h11
  rfl
/-- one more of q is freed -/
theorem frd_one {D : Yd} {i j : Nat} {q q' : Nat → Bool} (hj : j < dn D) (hj8 : j < 8) (h0 : q j = false) (h1 : q' j = true) (h : ∀ o, o ≠ j → q' o = q o) (hd : ds D j = true) :
    ur (ug (us (frd D i q) (va_up (ds (frd D i q)) j false)) (dg (frd D i q) + 1)) (va_up (dr (frd D i q)) (8 * i + j) (if dr D (8 * i + j) + 1 < 99 then dr D (8 * i + j) + 1 else 99)) = frd D i q' := by
  refine Yd_ext rfl rfl rfl rfl ?_ ?_ rfl rfl rfl ?_ rfl
  · show va_up (fun o => ds D o && !q o) j false = fun o => ds D o && !q' o
    funext o
    unfold va_up
    by_cases e : o = j
    · subst e; simp [h1]
    · rw [if_neg e, h o e]
  · show va_up (fun x => if x / 8 = i ∧ q (x % 8) = true then (if dr D x < 99 then dr D x + 1 else 99) else dr D x) (8 * i + j) _ = fun x => if x / 8 = i ∧ q' (x % 8) = true then (if dr D x < 99 then dr D x + 1 else 99) else dr D x
    funext x
    unfold va_up
    by_cases e : x = 8 * i + j
    · subst e
      have e1 : (8 * i + j) / 8 = i := by omega
      have e2 : (8 * i + j) % 8 = j := by omega
      simp only [e1, e2, h1, if_true, and_self]
      split <;> split <;> omega
    · rw [if_neg e]
      show (if x / 8 = i ∧ q (x % 8) = true then (if dr D x < 99 then dr D x + 1 else 99) else dr D x) = _
      by_cases e1 : x / 8 = i
      · have : x % 8 ≠ j := by omega
        rw [h _ this]
      · have n1 : ∀ b : Bool, ¬ (x / 8 = i ∧ b = true) := fun b z => e1 z.1
        rw [if_neg (n1 _), if_neg (n1 _)]
  · show dg D + cnt q (dn D) + 1 = dg D + cnt q' (dn D)
    rw [cnt_at h0 h1 h hj]
    omega
theorem b_frb {D : Yd} (hI : YI D) {i : Nat} (hi : i < dn D) : nI (bts (ds D) 8) &&& frb D i = nI (bts (wnt D i) 8) := by
  unfold frb
  by_cases h1 : dk D i = 1
  · rw [if_pos h1, tb_m1 _ (b256 _)]
    congr 1
    refine bts_congr (fun j hj => ?_)
    unfold wnt mayK
    simp [h1]
  · rw [if_neg h1]
    by_cases h2 : dk D i = 2
    · rw [if_pos h2, b_pow (hI.fr hi), b_and]
      congr 1
      refine bts_congr (fun j hj => ?_)
      unfold wnt mayK
      have : (j == df D i) = (df D i == j) := by
        by_cases e : j = df D i
        · subst e; rfl
        · rw [beq_eq_false_iff_ne.mpr e, beq_eq_false_iff_ne.mpr (Ne.symm e)]
      simp [h2, this]
    · rw [if_neg h2, nI_and, Nat.and_zero]
      rw [b_zero]
      congr 1
      refine bts_congr (fun j hj => ?_)
      unfold wnt mayK
      simp [h1, h2]
section Y5
variable {l : Launch} {d : Nat} {w : mW} {y : Nat} {D : Yd}
theorem ev_setFree (hY : YardAt w y D) (hI : YI D) (hd : 2 ≤ d) {i b : Nat} (hi : i < dn D) (hb : b < dn D) : Cl l d MX1_setFree [mR 1 y, mI (nI i), mI (nI b)] w (fun r u => r = none ∧ Off y w u ∧ YardAt u y (frd D i (frS D i b))) := by
  show Ev l d MX1_setFree 0 [some (mR 1 y), some (mI (nI i)), some (mI (nI b)), none, none, none] [] w _
  have h8 := hI.1
  have hi8 : i < 8 := by omega
  have hci := hI.cl hi
  have hl4 := hI.lw
  refine Ev.blk kX1_setFree_0 rfl trivial ?_
  have hq0 : (fun o => frS D i b o && decide (o < 0)) = fun _ => false := by funext o; simp
  have hD0 : frd D i (fun o => frS D i b o && decide (o < 0)) = D := by
    rw [hq0]
    have hc0 : ∀ n, cnt (fun _ => false) n = 0 := fun n => by
      induction n with
      | zero => rfl
      | succ n ih => unfold cnt; rw [ih]; rfl
    refine Yd_ext rfl rfl rfl rfl ?_ ?_ rfl rfl rfl ?_ rfl
    · funext o; show (ds D o && !false) = ds D o; simp
    · funext x; show (if x / 8 = i ∧ false = true then _ else dr D x) = dr D x; simp
    · show dg D + cnt (fun _ => false) (dn D) = dg D; rw [hc0]; rfl
  refine Ev.for (fun j L u => Off y w u ∧ YardAt u y (frd D i (fun o => frS D i b o && decide (o < j))) ∧ ∃ x4 x5, L = [some (mR 1 y), some (mI (nI i)), some (mI (nI b)), some (mI (nI j)), x4, x5]) (dn D) ?_ ?_ 0 (Nat.zero_le _) ⟨Off.rf, by rw [hD0]; exact hY, none, none, rfl⟩
  · rintro L u ⟨ho, hE, x4, x5, rfl⟩
    have hn : mgf u 1 y 5 = nI (dn D) := hE.n
    have hqn : frd D i (fun o => frS D i b o && decide (o < dn D)) = frd D i (frS D i b) := by
      congr 1
      funext o
      cases hs : ds D o
      · simp [frS, hs]
      · have := (hI.st hs).1
        simp [this]
    rw [hqn] at hE
    refine Ev.blk kX1_setFree_2 rfl trivial ?_
    simp only [hn]
    refine Ev.br tX1_setFree_7 rfl (fun c7 => ?_) (fun c7 => ?_)
    · refine Ev.vret tX1_setFree_120 rfl ?_
      exact ⟨rfl, ho, hE⟩
    · exact absurd (nI_le (Nat.le_refl _) (by omega)) c7
  · rintro j L u hj ⟨ho, hE, x4, x5, rfl⟩ k
    have hj8 : j < 8 := by omega
    have hcj := hI.cl hj
    have hn : mgf u 1 y 5 = nI (dn D) := hE.n
    have hl : mgf u 1 y 7 = nI (dl D) := hE.l
    have hc1 : mga u 3 y i = nI (dc D i) := hE.c hi8
    have hc2 : mga u 3 y j = nI (dc D j) := hE.c hj8
    have hfl := far_le _ hci _ hcj
    have hEI : YI (frd D i (fun o => frS D i b o && decide (o < j))) := hI.frd hi (fun o h => by simp only [Bool.and_eq_true] at h; unfold frS at h; simp only [Bool.and_eq_true] at h; exact h.1.1)
    have hdj : ds (frd D i (fun o => frS D i b o && decide (o < j))) j = ds D j := by
      show (ds D j && !(frS D i b j && decide (j < j))) = ds D j
      simp
    have hst : Cl l (d - 1) MX1_isStanding [mR 1 y, mI (nI j)] u (fun r v => v = u ∧ r = some (mI (bI (ds D j)))) := by
      have := ev_isStanding (l := l) (d := d - 1) hE hEI (by omega) (i := j) hj
      rw [hdj] at this
      exact this
    have hno : frS D i b j = false → Ev l d MX1_setFree 2 [some (mR 1 y), some (mI (nI i)), some (mI (nI b)), some (mI (nI (j + 1))), x4, x5] [] u (fun r u => r = none ∧ Off y w u ∧ YardAt u y (frd D i (frS D i b))) ∧ ∀ x4 x5, Ev l d MX1_setFree 2 [some (mR 1 y), some (mI (nI i)), some (mI (nI b)), some (mI (nI (j + 1))), x4, x5] [] u (fun r u => r = none ∧ Off y w u ∧ YardAt u y (frd D i (frS D i b))) := by
      intro hf
      have e : (fun o => frS D i b o && decide (o < j + 1)) = fun o => frS D i b o && decide (o < j) := by
        funext o
        by_cases e : o = j
        · subst e; simp [hf]
        · have : decide (o < j + 1) = decide (o < j) := by simp; omega
          rw [this]
      exact ⟨k _ _ ⟨ho, by rw [e]; exact hE, _, _, rfl⟩, fun x4 x5 => k _ _ ⟨ho, by rw [e]; exact hE, _, _, rfl⟩⟩
    refine Ev.blk kX1_setFree_2 rfl trivial ?_
    simp only [hn]
    refine Ev.br tX1_setFree_7 rfl (fun c7 => ?_) (fun c7 => ?_)
    · exact absurd c7 (nI_ge hj (by omega))
    · try simp (disch := omega) only [nI_eq, nI_leI, nI_ltI] at c7
      refine Ev.blk kX1_setFree_10 rfl trivial ?_
      simp only [hl]
      refine Ev.br tX1_setFree_15 rfl (fun c15 => ?_) (fun c15 => ?_)
      · try simp (disch := omega) only [nI_eq, nI_leI, nI_ltI] at c15
        refine Ev.blk kX1_setFree_45 rfl trivial ?_
        refine Ev.br tX1_setFree_47 rfl (fun c47 => ?_) (fun c47 => ?_)
        · try simp (disch := omega) only [nI_eq, nI_leI, nI_ltI] at c47
          refine Ev.blk kX1_setFree_54 rfl trivial ?_
          refine Ev.blk kX1_setFree_55 rfl trivial ?_
          refine Ev.br tX1_setFree_59 rfl (fun c59 => ?_) (fun c59 => ?_)
          · first
              | exact absurd c59 (by decide)
              | (refine Ev.bj kX1_setFree_114 tX1_setFree_117 rfl trivial ?_
                 rw [nI_add]
                 exact (hno (by
                   unfold frS
                   first
                     | (rw [if_pos (by omega)]; simp; intro _; omega)
                     | (rw [if_neg (by omega)]; simp; intro _; omega))).2 _ _)
          · first
              | exact absurd rfl c59
              | (have hfs : frS D i b j = ds D j := by
                   unfold frS
                   first
                     | (rw [if_pos (by omega)]; simp; intro _; omega)
                     | (rw [if_neg (by omega)]; simp; intro _; omega)
                 refine Ev.blk kX1_setFree_62 rfl trivial ?_
                 refine Ev.cV (d1 := d - 1) hst tX1_setFree_64 qX1_90 rfl rfl (by decide) ⟨rfl, rfl, rfl⟩ (by omega) ?_
                 rintro _ _ ⟨rfl, rfl⟩
                 refine Ev.br tX1_setFree_67 rfl (fun c67 => ?_) (fun c67 => ?_)
                 · rw [bI_0] at c67
                   refine Ev.bj kX1_setFree_114 tX1_setFree_117 rfl trivial ?_
                   rw [nI_add]
                   exact (hno (by rw [hfs, c67])).2 _ _
                 · rw [bI_0] at c67
                   have hdt : ds D j = true := by cases hz : ds D j; exact absurd hz c67; rfl
                   refine Ev.blk kX1_setFree_70 rfl trivial ?_
                   refine Ev.cV (d1 := d - 1) (ev_letRun hE hj8) tX1_setFree_72 qX1_83 rfl rfl (by decide) ⟨rfl, rfl, rfl⟩ (by omega) ?_
                   rintro _ v ⟨rfl, ho2, hF⟩
                   have hg : mgf v 1 y 9 = nI (dg (frd D i (fun o => frS D i b o && decide (o < j)))) := hF.g
                   have hG := hF.pG (x := dg (frd D i (fun o => frS D i b o && decide (o < j))) + 1)
                   have e64 : 8 * i + j < 64 := by omega
                   have hr1 : mga v 6 y (8 * i + j) = nI (dr D (8 * i + j)) := by
                     have h9 : mga v 6 y (8 * i + j) = nI (if (8 * i + j) / 8 = i ∧ (frS D i b ((8 * i + j) % 8) && decide ((8 * i + j) % 8 < j)) = true then (if dr D (8 * i + j) < 99 then dr D (8 * i + j) + 1 else 99) else dr D (8 * i + j)) := hF.r e64
                     rw [h9, if_neg]
                     rintro ⟨_, z⟩
                     simp only [Bool.and_eq_true, decide_eq_true_eq] at z
                     omega
                   have hrb := hI.rd (8 * i + j)
                   refine Ev.blk kX1_setFree_75 rfl ⟨trivial, by rw [pk_mul, nI_add]; exact vinN e64 (by decide)⟩ ?_
                   rw [pk_mul, nI_add, ixN (by omega), hg, nI_add]
                   rw [show mga (mpf v 1 y 9 (nI (dg (frd D i fun o => frS D i b o && decide (o < j)) + 1))) 6 y (8 * i + j) = nI (dr D (8 * i + j)) from hr1, nI_add]
                   refine Ev.mmin tX1_setFree_110 qX1_103 (by omega) (Nat.le_of_ble_eq_true rfl) ?_
                   rw [imn_n (by omega) (by omega)]
                   refine Ev.blk kX1_setFree_113 rfl ⟨trivial, vinN e64 (by decide)⟩ ?_
                   rw [ixN (by omega)]
                   refine Ev.bj kX1_setFree_114 tX1_setFree_117 rfl trivial ?_
                   rw [nI_add]
                   have hR := hG.pr (i := 8 * i + j) (v := if dr D (8 * i + j) + 1 < 99 then dr D (8 * i + j) + 1 else 99)
                   refine k _ _ ⟨ho.tr (ho2.tr (Off.tr Off.pf (Off.pA (by decide)))), ?_, _, _, rfl⟩
                   have hone := frd_one (D := D) (i := i) (j := j) (q := fun o => frS D i b o && decide (o < j)) (q' := fun o => frS D i b o && decide (o < j + 1)) hj hj8 (by simp) (by simp [hfs, hdt]) (fun o ho => by
                     have : decide (o < j + 1) = decide (o < j) := by simp; omega
                     simp only [this]) hdt
                   rw [← hone]
                   exact hR)
        · try simp (disch := omega) only [nI_eq, nI_leI, nI_ltI] at c47
          refine Ev.blk kX1_setFree_50 rfl trivial ?_
          refine Ev.jmp tX1_setFree_51 ?_
          refine Ev.blk kX1_setFree_55 rfl trivial ?_
          refine Ev.br tX1_setFree_59 rfl (fun c59 => ?_) (fun c59 => ?_)
          · first
              | exact absurd c59 (by decide)
              | (refine Ev.bj kX1_setFree_114 tX1_setFree_117 rfl trivial ?_
                 rw [nI_add]
                 exact (hno (by
                   unfold frS
                   first
                     | (rw [if_pos (by omega)]; simp; intro _; omega)
                     | (rw [if_neg (by omega)]; simp; intro _; omega))).2 _ _)
          · first
              | exact absurd rfl c59
              | (have hfs : frS D i b j = ds D j := by
                   unfold frS
                   first
                     | (rw [if_pos (by omega)]; simp; intro _; omega)
                     | (rw [if_neg (by omega)]; simp; intro _; omega)
                 refine Ev.blk kX1_setFree_62 rfl trivial ?_
                 refine Ev.cV (d1 := d - 1) hst tX1_setFree_64 qX1_90 rfl rfl (by decide) ⟨rfl, rfl, rfl⟩ (by omega) ?_
                 rintro _ _ ⟨rfl, rfl⟩
                 refine Ev.br tX1_setFree_67 rfl (fun c67 => ?_) (fun c67 => ?_)
                 · rw [bI_0] at c67
                   refine Ev.bj kX1_setFree_114 tX1_setFree_117 rfl trivial ?_
                   rw [nI_add]
                   exact (hno (by rw [hfs, c67])).2 _ _
                 · rw [bI_0] at c67
                   have hdt : ds D j = true := by cases hz : ds D j; exact absurd hz c67; rfl
                   refine Ev.blk kX1_setFree_70 rfl trivial ?_
                   refine Ev.cV (d1 := d - 1) (ev_letRun hE hj8) tX1_setFree_72 qX1_83 rfl rfl (by decide) ⟨rfl, rfl, rfl⟩ (by omega) ?_
                   rintro _ v ⟨rfl, ho2, hF⟩
                   have hg : mgf v 1 y 9 = nI (dg (frd D i (fun o => frS D i b o && decide (o < j)))) := hF.g
                   have hG := hF.pG (x := dg (frd D i (fun o => frS D i b o && decide (o < j))) + 1)
                   have e64 : 8 * i + j < 64 := by omega
                   have hr1 : mga v 6 y (8 * i + j) = nI (dr D (8 * i + j)) := by
                     have h9 : mga v 6 y (8 * i + j) = nI (if (8 * i + j) / 8 = i ∧ (frS D i b ((8 * i + j) % 8) && decide ((8 * i + j) % 8 < j)) = true then (if dr D (8 * i + j) < 99 then dr D (8 * i + j) + 1 else 99) else dr D (8 * i + j)) := hF.r e64
                     rw [h9, if_neg]
                     rintro ⟨_, z⟩
                     simp only [Bool.and_eq_true, decide_eq_true_eq] at z
                     omega
                   have hrb := hI.rd (8 * i + j)
                   refine Ev.blk kX1_setFree_75 rfl ⟨trivial, by rw [pk_mul, nI_add]; exact vinN e64 (by decide)⟩ ?_
                   rw [pk_mul, nI_add, ixN (by omega), hg, nI_add]
                   rw [show mga (mpf v 1 y 9 (nI (dg (frd D i fun o => frS D i b o && decide (o < j)) + 1))) 6 y (8 * i + j) = nI (dr D (8 * i + j)) from hr1, nI_add]
                   refine Ev.mmin tX1_setFree_110 qX1_103 (by omega) (Nat.le_of_ble_eq_true rfl) ?_
                   rw [imn_n (by omega) (by omega)]
                   refine Ev.blk kX1_setFree_113 rfl ⟨trivial, vinN e64 (by decide)⟩ ?_
                   rw [ixN (by omega)]
                   refine Ev.bj kX1_setFree_114 tX1_setFree_117 rfl trivial ?_
                   rw [nI_add]
                   have hR := hG.pr (i := 8 * i + j) (v := if dr D (8 * i + j) + 1 < 99 then dr D (8 * i + j) + 1 else 99)
                   refine k _ _ ⟨ho.tr (ho2.tr (Off.tr Off.pf (Off.pA (by decide)))), ?_, _, _, rfl⟩
                   have hone := frd_one (D := D) (i := i) (j := j) (q := fun o => frS D i b o && decide (o < j)) (q' := fun o => frS D i b o && decide (o < j + 1)) hj hj8 (by simp) (by simp [hfs, hdt]) (fun o ho => by
                     have : decide (o < j + 1) = decide (o < j) := by simp; omega
                     simp only [this]) hdt
                   rw [← hone]
                   exact hR)
      · try simp (disch := omega) only [nI_eq, nI_leI, nI_ltI] at c15
        refine Ev.blk kX1_setFree_18 rfl ⟨⟨trivial, vinN hi8 (by decide)⟩, vinN hj8 (by decide)⟩ ?_
        simp only [ix8 hi8, ix8 hj8, hc1, hc2]
        refine Ev.cS (d1 := d - 1) (ev_apart hci hcj) tX1_setFree_30 qX1_100 rfl ⟨rfl, rfl, rfl⟩ (by omega) ?_
        rintro _ _ ⟨rfl, rfl⟩
        refine Ev.blk kX1_setFree_33 rfl trivial ?_
        refine Ev.br tX1_setFree_34 rfl (fun c34 => ?_) (fun c34 => ?_)
        · try simp (disch := omega) only [nI_eq, nI_leI, nI_ltI] at c34
          refine Ev.blk kX1_setFree_41 rfl trivial ?_
          refine Ev.jmp tX1_setFree_42 ?_
          refine Ev.blk kX1_setFree_55 rfl trivial ?_
          refine Ev.br tX1_setFree_59 rfl (fun c59 => ?_) (fun c59 => ?_)
          · first
              | exact absurd c59 (by decide)
              | (refine Ev.bj kX1_setFree_114 tX1_setFree_117 rfl trivial ?_
                 rw [nI_add]
                 exact (hno (by
                   unfold frS
                   first
                     | (rw [if_pos (by omega)]; simp; intro _; omega)
                     | (rw [if_neg (by omega)]; simp; intro _; omega))).2 _ _)
          · first
              | exact absurd rfl c59
              | (have hfs : frS D i b j = ds D j := by
                   unfold frS
                   first
                     | (rw [if_pos (by omega)]; simp; intro _; omega)
                     | (rw [if_neg (by omega)]; simp; intro _; omega)
                 refine Ev.blk kX1_setFree_62 rfl trivial ?_
                 refine Ev.cV (d1 := d - 1) hst tX1_setFree_64 qX1_90 rfl rfl (by decide) ⟨rfl, rfl, rfl⟩ (by omega) ?_
                 rintro _ _ ⟨rfl, rfl⟩
                 refine Ev.br tX1_setFree_67 rfl (fun c67 => ?_) (fun c67 => ?_)
                 · rw [bI_0] at c67
                   refine Ev.bj kX1_setFree_114 tX1_setFree_117 rfl trivial ?_
                   rw [nI_add]
                   exact (hno (by rw [hfs, c67])).2 _ _
                 · rw [bI_0] at c67
                   have hdt : ds D j = true := by cases hz : ds D j; exact absurd hz c67; rfl
                   refine Ev.blk kX1_setFree_70 rfl trivial ?_
                   refine Ev.cV (d1 := d - 1) (ev_letRun hE hj8) tX1_setFree_72 qX1_83 rfl rfl (by decide) ⟨rfl, rfl, rfl⟩ (by omega) ?_
                   rintro _ v ⟨rfl, ho2, hF⟩
                   have hg : mgf v 1 y 9 = nI (dg (frd D i (fun o => frS D i b o && decide (o < j)))) := hF.g
                   have hG := hF.pG (x := dg (frd D i (fun o => frS D i b o && decide (o < j))) + 1)
                   have e64 : 8 * i + j < 64 := by omega
                   have hr1 : mga v 6 y (8 * i + j) = nI (dr D (8 * i + j)) := by
                     have h9 : mga v 6 y (8 * i + j) = nI (if (8 * i + j) / 8 = i ∧ (frS D i b ((8 * i + j) % 8) && decide ((8 * i + j) % 8 < j)) = true then (if dr D (8 * i + j) < 99 then dr D (8 * i + j) + 1 else 99) else dr D (8 * i + j)) := hF.r e64
                     rw [h9, if_neg]
                     rintro ⟨_, z⟩
                     simp only [Bool.and_eq_true, decide_eq_true_eq] at z
                     omega
                   have hrb := hI.rd (8 * i + j)
                   refine Ev.blk kX1_setFree_75 rfl ⟨trivial, by rw [pk_mul, nI_add]; exact vinN e64 (by decide)⟩ ?_
                   rw [pk_mul, nI_add, ixN (by omega), hg, nI_add]
                   rw [show mga (mpf v 1 y 9 (nI (dg (frd D i fun o => frS D i b o && decide (o < j)) + 1))) 6 y (8 * i + j) = nI (dr D (8 * i + j)) from hr1, nI_add]
                   refine Ev.mmin tX1_setFree_110 qX1_103 (by omega) (Nat.le_of_ble_eq_true rfl) ?_
                   rw [imn_n (by omega) (by omega)]
                   refine Ev.blk kX1_setFree_113 rfl ⟨trivial, vinN e64 (by decide)⟩ ?_
                   rw [ixN (by omega)]
                   refine Ev.bj kX1_setFree_114 tX1_setFree_117 rfl trivial ?_
                   rw [nI_add]
                   have hR := hG.pr (i := 8 * i + j) (v := if dr D (8 * i + j) + 1 < 99 then dr D (8 * i + j) + 1 else 99)
                   refine k _ _ ⟨ho.tr (ho2.tr (Off.tr Off.pf (Off.pA (by decide)))), ?_, _, _, rfl⟩
                   have hone := frd_one (D := D) (i := i) (j := j) (q := fun o => frS D i b o && decide (o < j)) (q' := fun o => frS D i b o && decide (o < j + 1)) hj hj8 (by simp) (by simp [hfs, hdt]) (fun o ho => by
                     have : decide (o < j + 1) = decide (o < j) := by simp; omega
                     simp only [this]) hdt
                   rw [← hone]
                   exact hR)
        · try simp (disch := omega) only [nI_eq, nI_leI, nI_ltI] at c34
          refine Ev.blk kX1_setFree_37 rfl trivial ?_
          refine Ev.jmp tX1_setFree_38 ?_
          refine Ev.blk kX1_setFree_55 rfl trivial ?_
          refine Ev.br tX1_setFree_59 rfl (fun c59 => ?_) (fun c59 => ?_)
          · first
              | exact absurd c59 (by decide)
              | (refine Ev.bj kX1_setFree_114 tX1_setFree_117 rfl trivial ?_
                 rw [nI_add]
                 exact (hno (by
                   unfold frS
                   first
                     | (rw [if_pos (by omega)]; simp; intro _; omega)
                     | (rw [if_neg (by omega)]; simp; intro _; omega))).2 _ _)
          · first
              | exact absurd rfl c59
              | (have hfs : frS D i b j = ds D j := by
                   unfold frS
                   first
                     | (rw [if_pos (by omega)]; simp; intro _; omega)
                     | (rw [if_neg (by omega)]; simp; intro _; omega)
                 refine Ev.blk kX1_setFree_62 rfl trivial ?_
                 refine Ev.cV (d1 := d - 1) hst tX1_setFree_64 qX1_90 rfl rfl (by decide) ⟨rfl, rfl, rfl⟩ (by omega) ?_
                 rintro _ _ ⟨rfl, rfl⟩
                 refine Ev.br tX1_setFree_67 rfl (fun c67 => ?_) (fun c67 => ?_)
                 · rw [bI_0] at c67
                   refine Ev.bj kX1_setFree_114 tX1_setFree_117 rfl trivial ?_
                   rw [nI_add]
                   exact (hno (by rw [hfs, c67])).2 _ _
                 · rw [bI_0] at c67
                   have hdt : ds D j = true := by cases hz : ds D j; exact absurd hz c67; rfl
                   refine Ev.blk kX1_setFree_70 rfl trivial ?_
                   refine Ev.cV (d1 := d - 1) (ev_letRun hE hj8) tX1_setFree_72 qX1_83 rfl rfl (by decide) ⟨rfl, rfl, rfl⟩ (by omega) ?_
                   rintro _ v ⟨rfl, ho2, hF⟩
                   have hg : mgf v 1 y 9 = nI (dg (frd D i (fun o => frS D i b o && decide (o < j)))) := hF.g
                   have hG := hF.pG (x := dg (frd D i (fun o => frS D i b o && decide (o < j))) + 1)
                   have e64 : 8 * i + j < 64 := by omega
                   have hr1 : mga v 6 y (8 * i + j) = nI (dr D (8 * i + j)) := by
                     have h9 : mga v 6 y (8 * i + j) = nI (if (8 * i + j) / 8 = i ∧ (frS D i b ((8 * i + j) % 8) && decide ((8 * i + j) % 8 < j)) = true then (if dr D (8 * i + j) < 99 then dr D (8 * i + j) + 1 else 99) else dr D (8 * i + j)) := hF.r e64
                     rw [h9, if_neg]
                     rintro ⟨_, z⟩
                     simp only [Bool.and_eq_true, decide_eq_true_eq] at z
                     omega
                   have hrb := hI.rd (8 * i + j)
                   refine Ev.blk kX1_setFree_75 rfl ⟨trivial, by rw [pk_mul, nI_add]; exact vinN e64 (by decide)⟩ ?_
                   rw [pk_mul, nI_add, ixN (by omega), hg, nI_add]
                   rw [show mga (mpf v 1 y 9 (nI (dg (frd D i fun o => frS D i b o && decide (o < j)) + 1))) 6 y (8 * i + j) = nI (dr D (8 * i + j)) from hr1, nI_add]
                   refine Ev.mmin tX1_setFree_110 qX1_103 (by omega) (Nat.le_of_ble_eq_true rfl) ?_
                   rw [imn_n (by omega) (by omega)]
                   refine Ev.blk kX1_setFree_113 rfl ⟨trivial, vinN e64 (by decide)⟩ ?_
                   rw [ixN (by omega)]
                   refine Ev.bj kX1_setFree_114 tX1_setFree_117 rfl trivial ?_
                   rw [nI_add]
                   have hR := hG.pr (i := 8 * i + j) (v := if dr D (8 * i + j) + 1 < 99 then dr D (8 * i + j) + 1 else 99)
                   refine k _ _ ⟨ho.tr (ho2.tr (Off.tr Off.pf (Off.pA (by decide)))), ?_, _, _, rfl⟩
                   have hone := frd_one (D := D) (i := i) (j := j) (q := fun o => frS D i b o && decide (o < j)) (q' := fun o => frS D i b o && decide (o < j + 1)) hj hj8 (by simp) (by simp [hfs, hdt]) (fun o ho => by
                     have : decide (o < j + 1) = decide (o < j) := by simp; omega
                     simp only [this]) hdt
                   rw [← hone]
                   exact hR)
end Y5
end
section
/-! ===== the class's yard: acting, a second ===== -/
/-- what acting never changes -/
def Kp (D D1 : Yd) : Prop := dk D1 = dk D ∧ df D1 = df D ∧ dn D1 = dn D ∧ dl D1 = dl D ∧ de D1 = de D ∧ da D1 = da D
theorem Kp.rf {D : Yd} : Kp D D := ⟨rfl, rfl, rfl, rfl, rfl, rfl⟩
theorem Kp.tr {D E F : Yd} (h : Kp D E) (k : Kp E F) : Kp D F := ⟨k.1.trans h.1, k.2.1.trans h.2.1, k.2.2.1.trans h.2.2.1, k.2.2.2.1.trans h.2.2.2.1, k.2.2.2.2.1.trans h.2.2.2.2.1, k.2.2.2.2.2.trans h.2.2.2.2.2⟩
theorem runs_dc {D : Yd} {i : Nat} : dc (runs D i).1 = dc D ∧ dt (runs D i).1 = dt D ∧ Kp D (runs D i).1 := by
  unfold runs
  split
  · exact ⟨rfl, rfl, Kp.rf⟩
  · split
    · exact ⟨rfl, rfl, rfl, rfl, rfl, rfl, rfl, rfl⟩
    · split
      · exact ⟨rfl, rfl, Kp.rf⟩
      · exact ⟨rfl, rfl, Kp.rf⟩
theorem frS_ds {D : Yd} {i b o : Nat} (h : frS D i b o = true) : ds D o = true := by
  unfold frS at h
  simp only [Bool.and_eq_true] at h
  exact h.1
theorem runs_YI {D : Yd} (hI : YI D) {i : Nat} (hi : i < dn D) : YI (runs D i).1 ∧ (runs D i).2 < 24 := by
  have hc := hI.cl hi
  unfold runs
  split
  · refine ⟨hI, ?_⟩
    show (if _ then _ else _) < 24
    split
    · exact hc
    · exact awy_lt hc
  · split
    · exact ⟨hI.frd hi (fun j h => frS_ds h), hc⟩
    · split
      · refine ⟨hI, ?_⟩
        show (if _ then _ else _) < 24
        split
        · exact twd_lt hc
        · exact awy_lt hc
      · exact ⟨hI, awy_lt hc⟩
theorem ply_Kp {D : Yd} {i : Nat} : Kp D (ply D i) := by
  unfold ply
  split
  · exact Kp.rf
  · split
    · exact Kp.rf
    · exact runs_dc.2.2
theorem ply_YI {D : Yd} (hI : YI D) {i : Nat} (hi : i < dn D) : YI (ply D i) := by
  have ht := hI.td i
  unfold ply
  split
  · exact hI.ut hi (by omega)
  · split
    · exact hI.ut hi (by omega)
    · obtain ⟨h1, h2⟩ := runs_YI hI hi
      obtain ⟨e1, e2, e3⟩ := runs_dc (D := D) (i := i)
      have hc := h1.uc (i := i) h2
      rw [e1] at hc
      have h4 := hc.ut (i := i) (v := tir (dt D i) ((runs D i).2 == dc D i)) (by show i < dn (runs D i).1; rw [e3.2.2.1]; exact hi) (tir_le ht _)
      have e5 : dt (uc (runs D i).1 (va_up (dc D) i (runs D i).2)) = dt D := e2
      rw [e5] at h4
      exact h4
theorem cat_Kp {D : Yd} {i : Nat} : Kp D (cat D i) := by
  unfold cat
  repeat' split
  all_goals exact Kp.rf
theorem cat_YI {D : Yd} (hI : YI D) {i : Nat} (hi : i < dn D) : YI (cat D i) := by
  have hc := hI.cl hi
  unfold cat
  split
  · exact hI
  · split
    · rename_i o ho
      obtain ⟨h1, h2⟩ := fst1_spec ho
      refine hI.us (fun j hj => ?_)
      unfold va_up at hj
      split at hj
      · rename_i e
        subst e
        refine ⟨h1, ?_⟩
        unfold tch rnr isC at h2
        simp at h2
        omega
      · exact hI.st hj
    · repeat' split
      all_goals first
        | exact hI
        | exact hI.uc (twd_lt hc)
theorem act_Kp {D : Yd} {i : Nat} : Kp D (act D i) := by
  unfold act
  split
  · exact cat_Kp
  · exact ply_Kp
theorem act_YI {D : Yd} (hI : YI D) {i : Nat} (hi : i < dn D) : YI (act D i) := by
  unfold act
  split
  · exact cat_YI hI hi
  · exact ply_YI hI hi
theorem actN_Kp {D : Yd} : ∀ i, Kp D (actN D i)
  | 0 => Kp.rf
  | i + 1 => (actN_Kp i).tr act_Kp
theorem actN_YI {D : Yd} (hI : YI D) : ∀ i, i ≤ dn D → YI (actN D i)
  | 0, _ => hI
  | i + 1, h => act_YI (actN_YI hI i (by omega)) (by rw [(actN_Kp (D := D) i).2.2.1]; omega)
theorem tnth_Kp {D : Yd} : Kp D (tnth D) := by
  unfold tnth
  split <;> exact Kp.rf
theorem tnth_YI {D : Yd} (hI : YI D) : YI (tnth D) := by
  unfold tnth
  split
  · exact hI.us (fun j h => by cases h)
  · exact hI
theorem pass_YI {D : Yd} (hI : YI D) (he : de D + 1 < 100000) : YI (pass D) := by
  unfold pass
  have h := actN_YI (tnth_YI hI) (dn D) (by rw [tnth_Kp.2.2.1]; exact Nat.le_refl _)
  exact h.ue he
theorem pass_dn {D : Yd} : dn (pass D) = dn D := ((tnth_Kp (D := D)).tr (actN_Kp (dn D))).2.2.1
theorem pass_dk {D : Yd} : dk (pass D) = dk D := ((tnth_Kp (D := D)).tr (actN_Kp (dn D))).1
theorem pass_dl {D : Yd} : dl (pass D) = dl D := ((tnth_Kp (D := D)).tr (actN_Kp (dn D))).2.2.2.1
theorem pass_df {D : Yd} : df (pass D) = df D := ((tnth_Kp (D := D)).tr (actN_Kp (dn D))).2.1
theorem pass_da {D : Yd} : da (pass D) = da D := ((tnth_Kp (D := D)).tr (actN_Kp (dn D))).2.2.2.2.2
theorem pass_de {D : Yd} : de (pass D) = de D + 1 := rfl
theorem passN_n {D : Yd} : ∀ k, dn (passN D k) = dn D ∧ dk (passN D k) = dk D ∧ dl (passN D k) = dl D ∧ df (passN D k) = df D ∧ da (passN D k) = da D ∧ de (passN D k) = de D + k
  | 0 => ⟨rfl, rfl, rfl, rfl, rfl, rfl⟩
  | k + 1 => by
    obtain ⟨h1, h2, h3, h4, h5, h6⟩ := passN_n (D := D) k
    exact ⟨pass_dn.trans h1, pass_dk.trans h2, pass_dl.trans h3, pass_df.trans h4, pass_da.trans h5, by show de (passN D k) + 1 = _; rw [h6]; rfl⟩
theorem passN_YI {D : Yd} (hI : YI D) : ∀ k, de D + k < 100000 → YI (passN D k)
  | 0, _ => hI
  | k + 1, h => pass_YI (passN_YI hI k (by omega)) (by rw [(passN_n (D := D) k).2.2.2.2.2]; omega)
theorem nearMay0 {D : Yd} {i : Nat} (h1 : dk D i ≠ 1) (h2 : dk D i ≠ 2) : nearMay D i = none ∧ aimMay D i = none := by
  have hw : ∀ o, wnt D i o = false := fun o => by unfold wnt mayK; simp [h1, h2]
  constructor
  · exact fst1_none (fun j _ => by simp [hw])
  · unfold aimMay
    cases h : nrst (wnt D i) (fun o => far (dc D i) (dc D o)) (dn D) with
    | none => rfl
    | some b => have := (nrst_spec h).2; rw [hw] at this; cases this
section Y6
variable {l : Launch} {d : Nat} {w : mW} {y : Nat} {D : Yd}
/-- freesOrFetches: what is so behind it, and whether he was busy -/
def ffD (D : Yd) (i : Nat) : Yd × Bool := match nearMay D i with
  | some o => (frd D i (frS D i o), true)
  | none => match aimMay D i with
    | some a => if 1 < cap D (dc D i) then (uc D (va_up (dc D) i (twd (dc D i) (dc D a))), true) else (D, false)
    | none => (D, false)
theorem nI_nm1 {a : Nat} (h : a < 2 ^ 31) : ¬ nI a = -1 := by rw [nI_m1 h]; exact id
theorem ev_freesOrFetches (hY : YardAt w y D) (hI : YI D) (hd : 3 ≤ d) {i : Nat} (hi : i < dn D) : Cl l d MX1_freesOrFetches [mR 1 y, mI (nI i)] w (fun r u => r = some (mI (bI (ffD D i).2)) ∧ Off y w u ∧ YardAt u y (ffD D i).1) := by
  show Ev l d MX1_freesOrFetches 0 [some (mR 1 y), some (mI (nI i)), none, none, none] [] w _
  have h8 := hI.1
  have hi8 : i < 8 := by omega
  have hci := hI.cl hi
  have hcap := cap_le D (dc D i)
  unfold ffD
  have hlb := ev_leastBeside (l := l) (d := d - 1) hY hI (by omega) hi (wnt D i)
  rw [show fst1 (fun o => wnt D i o && decide (far (dc D i) (dc D o) ≤ 1)) (dn D) = nearMay D i from rfl] at hlb
  have hnr := ev_nearest (l := l) (d := d - 1) hY hI (by omega) hi (wnt D i)
  rw [show nrst (wnt D i) (fun o => far (dc D i) (dc D o)) (dn D) = aimMay D i from rfl] at hnr
  cases hn : nearMay D i with
  | some o =>
    have hn2 : fst1 (fun o => wnt D i o && decide (far (dc D i) (dc D o) ≤ 1)) (dn D) = some o := hn
    have ho := (fst1_spec hn2).1
    rw [hn] at hlb
    refine Ev.blk kX1_freesOrFetches_0 rfl trivial ?_
    simp only [hY.s]
    refine Ev.cV (d1 := d - 1) (ev_freeableBits hY hI hi) tX1_freesOrFetches_6 qX1_93 rfl rfl (by decide) ⟨rfl, rfl, rfl⟩ (by omega) ?_
    rintro _ _ ⟨rfl, rfl⟩
    refine Ev.blk kX1_freesOrFetches_9 rfl trivial ?_
    rw [b_frb hI hi]
    refine Ev.cV (d1 := d - 1) (hlb) tX1_freesOrFetches_14 qX1_96 rfl rfl (by decide) ⟨rfl, rfl, rfl⟩ (by omega) ?_
    rintro _ _ ⟨rfl, rfl⟩
    refine Ev.blk kX1_freesOrFetches_17 rfl trivial ?_
    refine Ev.br tX1_freesOrFetches_20 rfl (fun c20 => ?_) (fun c20 => ?_)
    · exact absurd c20 (nI_nm1 (by omega))
    · refine Ev.blk kX1_freesOrFetches_23 rfl trivial ?_
      refine Ev.cV (d1 := d - 1) (ev_setFree hY hI (by omega) hi ho) tX1_freesOrFetches_26 qX1_136 rfl rfl (by decide) ⟨rfl, rfl, rfl⟩ (by omega) ?_
      rintro _ _ ⟨rfl, ho, hE⟩
      refine Ev.blk kX1_freesOrFetches_29 rfl trivial ?_
      refine Ev.iret tX1_freesOrFetches_30 rfl rfl ?_
      exact ⟨rfl, ho, hE⟩
  | none =>
    rw [hn] at hlb
    cases ha : aimMay D i with
    | none =>
      rw [ha] at hnr
      refine Ev.blk kX1_freesOrFetches_0 rfl trivial ?_
      simp only [hY.s]
      refine Ev.cV (d1 := d - 1) (ev_freeableBits hY hI hi) tX1_freesOrFetches_6 qX1_93 rfl rfl (by decide) ⟨rfl, rfl, rfl⟩ (by omega) ?_
      rintro _ _ ⟨rfl, rfl⟩
      refine Ev.blk kX1_freesOrFetches_9 rfl trivial ?_
      rw [b_frb hI hi]
      refine Ev.cV (d1 := d - 1) (hlb) tX1_freesOrFetches_14 qX1_96 rfl rfl (by decide) ⟨rfl, rfl, rfl⟩ (by omega) ?_
      rintro _ _ ⟨rfl, rfl⟩
      refine Ev.blk kX1_freesOrFetches_17 rfl trivial ?_
      refine Ev.br tX1_freesOrFetches_20 rfl (fun c20 => ?_) (fun c20 => ?_)
      · refine Ev.blk kX1_freesOrFetches_31 rfl trivial ?_
        refine Ev.cV (d1 := d - 1) (hnr) tX1_freesOrFetches_34 qX1_139 rfl rfl (by decide) ⟨rfl, rfl, rfl⟩ (by omega) ?_
        rintro _ _ ⟨rfl, rfl⟩
        refine Ev.blk kX1_freesOrFetches_37 rfl trivial ?_
        refine Ev.br tX1_freesOrFetches_42 rfl (fun c42 => ?_) (fun c42 => ?_)
        · refine Ev.blk kX1_freesOrFetches_59 rfl trivial ?_
          refine Ev.iret tX1_freesOrFetches_60 rfl rfl ?_
          exact ⟨rfl, Off.rf, hY⟩
        · exact absurd rfl c42
      · exact absurd rfl c20
    | some a =>
      have hal := (nrst_spec ha).1
      have ha8 : a < 8 := by omega
      rw [ha] at hnr
      refine Ev.blk kX1_freesOrFetches_0 rfl trivial ?_
      simp only [hY.s]
      refine Ev.cV (d1 := d - 1) (ev_freeableBits hY hI hi) tX1_freesOrFetches_6 qX1_93 rfl rfl (by decide) ⟨rfl, rfl, rfl⟩ (by omega) ?_
      rintro _ _ ⟨rfl, rfl⟩
      refine Ev.blk kX1_freesOrFetches_9 rfl trivial ?_
      rw [b_frb hI hi]
      refine Ev.cV (d1 := d - 1) (hlb) tX1_freesOrFetches_14 qX1_96 rfl rfl (by decide) ⟨rfl, rfl, rfl⟩ (by omega) ?_
      rintro _ _ ⟨rfl, rfl⟩
      refine Ev.blk kX1_freesOrFetches_17 rfl trivial ?_
      refine Ev.br tX1_freesOrFetches_20 rfl (fun c20 => ?_) (fun c20 => ?_)
      · try simp (disch := omega) only [nI_eq, nI_leI, nI_ltI, Classical.not_not] at c20
        refine Ev.blk kX1_freesOrFetches_31 rfl trivial ?_
        refine Ev.cV (d1 := d - 1) (hnr) tX1_freesOrFetches_34 qX1_139 rfl rfl (by decide) ⟨rfl, rfl, rfl⟩ (by omega) ?_
        rintro _ _ ⟨rfl, rfl⟩
        refine Ev.blk kX1_freesOrFetches_37 rfl trivial ?_
        refine Ev.br tX1_freesOrFetches_42 rfl (fun c42 => ?_) (fun c42 => ?_)
        · exact absurd c42 (nI_nm1 (by omega))
        · try simp (disch := omega) only [nI_eq, nI_leI, nI_ltI, Classical.not_not] at c42
          refine Ev.blk kX1_freesOrFetches_45 rfl ⟨trivial, vinN hi8 (by decide)⟩ ?_
          simp only [ix8 hi8, hY.c hi8]
          refine Ev.cV (d1 := d - 1) (ev_catcherApart hY hI (by omega) hci) tX1_freesOrFetches_52 qX1_127 rfl rfl (by decide) ⟨rfl, rfl, rfl⟩ (by omega) ?_
          rintro _ _ ⟨rfl, rfl⟩
          refine Ev.blk kX1_freesOrFetches_55 rfl trivial ?_
          refine Ev.br tX1_freesOrFetches_56 rfl (fun c56 => ?_) (fun c56 => ?_)
          · try simp (disch := omega) only [nI_eq, nI_leI, nI_ltI, Classical.not_not] at c56
            show Ev l d MX1_freesOrFetches 61 [_, _, _, _, some (mI (nI a))] [] _ _
            refine Ev.blk kX1_freesOrFetches_61 rfl ⟨trivial, vinN ha8 (by decide)⟩ ?_
            simp only [ix8 ha8, hY.c ha8]
            refine Ev.cV (d1 := d - 1) (ev_stepToward hY hI (by omega) hi (hI.cl hal)) tX1_freesOrFetches_70 qX1_142 rfl rfl (by decide) ⟨rfl, rfl, rfl⟩ (by omega) ?_
            rintro _ _ ⟨rfl, ho, hE⟩
            refine Ev.blk kX1_freesOrFetches_73 rfl trivial ?_
            refine Ev.iret tX1_freesOrFetches_74 rfl rfl ?_
            rw [if_pos (by omega)]
            exact ⟨rfl, ho, hE⟩
          · try simp (disch := omega) only [nI_eq, nI_leI, nI_ltI, Classical.not_not] at c56
            refine Ev.blk kX1_freesOrFetches_59 rfl trivial ?_
            refine Ev.iret tX1_freesOrFetches_60 rfl rfl ?_
            rw [if_neg (by omega)]
            exact ⟨rfl, Off.rf, hY⟩
      · exact absurd rfl c20
theorem runs_ff {D : Yd} {i : Nat} (h3 : ¬ dk D i = 3) : ((ffD D i).2 = true → uc (runs D i).1 (va_up (dc D) i (runs D i).2) = (ffD D i).1) ∧ ((ffD D i).2 = false → (ffD D i).1 = D ∧ runs D i = (D, awy D (dc D i))) := by
  unfold runs ffD
  rw [if_neg h3]
  cases nearMay D i with
  | some o =>
    refine ⟨fun _ => ?_, fun h => by cases h⟩
    show uc (frd D i (frS D i o)) (va_up (dc D) i (dc D i)) = _
    rw [va_up_id]
    rfl
  | none =>
    cases aimMay D i with
    | none => exact ⟨(fun h => by cases h), fun _ => ⟨rfl, rfl⟩⟩
    | some a =>
      dsimp only
      by_cases hc : 1 < cap D (dc D i)
      · rw [if_pos hc, if_pos hc]
        exact ⟨fun _ => rfl, (fun h => by cases h)⟩
      · rw [if_neg hc, if_neg hc]
        exact ⟨(fun h => by cases h), fun _ => ⟨rfl, rfl⟩⟩
theorem ply_at {D : Yd} {i : Nat} (h1 : ¬ (ds D i = true ∨ i = da D)) (h2 : ¬ dt D i = 9) : ply D i = ut (uc (runs D i).1 (va_up (dc D) i (runs D i).2)) (va_up (dt D) i (tir (dt D i) ((runs D i).2 == dc D i))) := by
  unfold ply
  rw [if_neg h1, if_neg h2]
theorem enA_i {i a : Nat} (hi : i < 8) : (nI i = enA a) = (i = a) := by
  unfold enA
  split
  · rw [nI_eq (by omega) (by omega)]
  · rw [nI_m1 (by omega)]
    apply (eq_false _).symm
    omega
theorem ev_pl121 {u : mW} {E : Yd} (hd : 4 ≤ d) (ho : Off y w u) (hY : YardAt u y E) (hI : YI E) {i c : Nat} {x : Option mV} (hi : i < dn E) (hc : c < 24) : Ev l d MX1_playerActs 121 [some (mR 1 y), some (mI (nI i)), some (mI (nI c)), x] [] u (fun r v => r = none ∧ Off y w v ∧ YardAt v y (ut E (va_up (dt E) i (tir (dt E i) (dc E i == c))))) := by
  have h8 := hI.1
  have hi8 : i < 8 := by omega
  have hci := hI.cl hi
  refine Ev.blk kX1_playerActs_121 rfl ⟨trivial, vinN hi8 (by decide)⟩ ?_
  simp only [ix8 hi8, hY.c hi8]
  refine Ev.br tX1_playerActs_130 rfl (fun c130 => ?_) (fun c130 => ?_)
  · try simp (disch := omega) only [nI_eq, nI_leI, nI_ltI, Classical.not_not] at c130
    refine Ev.blk kX1_playerActs_137 rfl trivial ?_
    refine Ev.cV (d1 := d - 1) (ev_tire hY hI (by omega) hi8 (dc E i == c) (by first | (rw [beq_false_of_ne (by omega)]; rfl) | (rw [show (dc E i == c) = true by simp; omega]; rfl))) tX1_playerActs_138 qX1_117 rfl rfl (by decide) ⟨rfl, rfl, rfl⟩ (by omega) ?_
    rintro _ _ ⟨rfl, ho2, hE⟩
    refine Ev.vret tX1_playerActs_141 rfl ?_
    exact ⟨rfl, ho.tr ho2, hE⟩
  · try simp (disch := omega) only [nI_eq, nI_leI, nI_ltI, Classical.not_not] at c130
    refine Ev.blk kX1_playerActs_133 rfl trivial ?_
    refine Ev.jmp tX1_playerActs_134 ?_
    refine Ev.cV (d1 := d - 1) (ev_tire hY hI (by omega) hi8 (dc E i == c) (by first | (rw [beq_false_of_ne (by omega)]; rfl) | (rw [show (dc E i == c) = true by simp; omega]; rfl))) tX1_playerActs_138 qX1_117 rfl rfl (by decide) ⟨rfl, rfl, rfl⟩ (by omega) ?_
    rintro _ _ ⟨rfl, ho2, hE⟩
    refine Ev.vret tX1_playerActs_141 rfl ?_
    exact ⟨rfl, ho.tr ho2, hE⟩
theorem ev_playerActs (hY : YardAt w y D) (hI : YI D) (hd : 4 ≤ d) {i : Nat} (hi : i < dn D) (hk : isC D i = false) : Cl l d MX1_playerActs [mR 1 y, mI (nI i)] w (fun r u => r = none ∧ Off y w u ∧ YardAt u y (ply D i)) := by
  show Ev l d MX1_playerActs 0 [some (mR 1 y), some (mI (nI i)), none, none] [] w _
  have h8 := hI.1
  have hi8 : i < 8 := by omega
  have hci := hI.cl hi
  have hk8 := hI.kd hi
  have ht9 := hI.td i
  have hcap := cap_le D (dc D i)
  have hk4 : dk D i < 4 := by unfold isC at hk; simp at hk; omega
  obtain ⟨e1, e2, e3⟩ := runs_dc (D := D) (i := i)
  obtain ⟨r1, r2⟩ := runs_YI hI hi
  have fin : ∀ (u : mW) (x : Option mV), ¬ (ds D i = true ∨ i = da D) → ¬ dt D i = 9 → Off y w u → YardAt u y (uc (runs D i).1 (va_up (dc D) i (runs D i).2)) → Ev l d MX1_playerActs 121 [some (mR 1 y), some (mI (nI i)), some (mI (nI (dc D i))), x] [] u (fun r u => r = none ∧ Off y w u ∧ YardAt u y (ply D i)) := by
    intro u x g1 g2 ho hE
    have hEI : YI (uc (runs D i).1 (va_up (dc D) i (runs D i).2)) := by
      have := r1.uc (i := i) r2
      rw [e1] at this
      exact this
    have h9 := ev_pl121 (l := l) (w := w) (x := x) hd ho hE hEI (i := i) (c := dc D i) (by show i < dn (runs D i).1; rw [e3.2.2.1]; exact hi) hci
    rw [ply_at g1 g2]
    rw [show dt (uc (runs D i).1 (va_up (dc D) i (runs D i).2)) = dt D from e2, show dc (uc (runs D i).1 (va_up (dc D) i (runs D i).2)) i = (runs D i).2 by show va_up (dc D) i _ i = _; unfold va_up; rw [if_pos rfl]] at h9
    exact h9
  have aw : ∀ (u : mW) (x : Option mV), ¬ (ds D i = true ∨ i = da D) → ¬ dt D i = 9 → Off y w u → YardAt u y D → runs D i = (D, awy D (dc D i)) → Ev l d MX1_playerActs 116 [some (mR 1 y), some (mI (nI i)), some (mI (nI (dc D i))), x] [] u (fun r u => r = none ∧ Off y w u ∧ YardAt u y (ply D i)) := by
    intro u x g1 g2 ho hE hr
    refine Ev.blk kX1_playerActs_116 rfl trivial ?_
    refine Ev.cV (d1 := d - 1) (ev_stepAway hE hI (by omega) hi) tX1_playerActs_118 qX1_130 rfl rfl (by decide) ⟨rfl, rfl, rfl⟩ (by omega) ?_
    rintro _ v ⟨rfl, ho2, hF⟩
    refine fin v x g1 g2 (ho.tr ho2) ?_
    rw [hr]
    exact hF
  refine Ev.blk kX1_playerActs_0 rfl trivial ?_
  refine Ev.cV (d1 := d - 1) (ev_isStanding hY hI (by omega) hi) tX1_playerActs_2 qX1_90 rfl rfl (by decide) ⟨rfl, rfl, rfl⟩ (by omega) ?_
  rintro _ _ ⟨rfl, rfl⟩
  refine Ev.br tX1_playerActs_5 rfl (fun c5 => ?_) (fun c5 => ?_)
  · rw [bI_0] at c5
    have hs : ds D i = true := by cases hz : ds D i; exact absurd hz c5; rfl
    refine Ev.blk kX1_playerActs_16 rfl trivial ?_
    refine Ev.cV (d1 := d - 1) (ev_tire hY hI (by omega) hi8 true rfl) tX1_playerActs_19 qX1_117 rfl rfl (by decide) ⟨rfl, rfl, rfl⟩ (by omega) ?_
    rintro _ _ ⟨rfl, ho, hE⟩
    refine Ev.vret tX1_playerActs_22 rfl ?_
    refine ⟨rfl, ho, ?_⟩
    have e : ply D i = ut D (va_up (dt D) i (dt D i - 1)) := by unfold ply; rw [if_pos (by first | exact Or.inl hs | exact Or.inr ha)]
    rw [e]
    exact hE
  · rw [bI_0] at c5
    have hs : ds D i = false := Decidable.not_not.mp c5
    refine Ev.blk kX1_playerActs_8 rfl trivial ?_
    simp only [hY.a]
    refine Ev.br tX1_playerActs_13 rfl (fun c13 => ?_) (fun c13 => ?_)
    · rw [enA_i hi8] at c13
      refine Ev.blk kX1_playerActs_23 rfl ⟨trivial, vinN hi8 (by decide)⟩ ?_
      simp only [ix8 hi8, hY.t hi8]
      refine Ev.br tX1_playerActs_31 rfl (fun c31 => ?_) (fun c31 => ?_)
      · rw [nI_eq (by omega) (by omega)] at c31
        have g1 : ¬ (ds D i = true ∨ i = da D) := by rw [hs]; simp; exact c13
        refine Ev.blk kX1_playerActs_42 rfl ⟨⟨trivial, vinN hi8 (by decide)⟩, vinN hi8 (by decide)⟩ ?_
        simp only [ix8 hi8, hY.c hi8, hY.k hi8]
        refine Ev.br tX1_playerActs_58 rfl (fun c58 => ?_) (fun c58 => ?_)
        · try simp (disch := omega) only [nI_eq, nI_leI, nI_ltI, Classical.not_not] at c58
          refine Ev.blk kX1_playerActs_71 rfl trivial ?_
          refine Ev.cV (d1 := d - 1) (ev_freesOrFetches hY hI (by omega) hi) tX1_playerActs_73 qX1_121 rfl rfl (by decide) ⟨rfl, rfl, rfl⟩ (by omega) ?_
          rintro _ _ ⟨rfl, ho, hE⟩
          obtain ⟨f1, f2⟩ := runs_ff (D := D) (i := i) (by omega)
          refine Ev.bj kX1_playerActs_76 tX1_playerActs_77 rfl trivial ?_
          refine Ev.bb kX1_playerActs_112 tX1_playerActs_113 rfl rfl trivial (fun c113 => ?_) (fun c113 => ?_)
          · rw [bI_0] at c113
            have hb : (ffD D i).2 = true := by cases hz : (ffD D i).2; exact absurd hz c113; rfl
            refine fin _ _ g1 c31 ho ?_
            rw [f1 hb]
            exact hE
          · rw [bI_0] at c113
            obtain ⟨f3, f4⟩ := f2 (Decidable.not_not.mp c113)
            rw [f3] at hE
            exact aw _ _ g1 c31 ho hE f4
        · try simp (disch := omega) only [nI_eq, nI_leI, nI_ltI, Classical.not_not] at c58
          refine Ev.blk kX1_playerActs_61 rfl ⟨trivial, vinN hi8 (by decide)⟩ ?_
          simp only [ix8 hi8, hY.k hi8]
          refine Ev.br tX1_playerActs_68 rfl (fun c68 => ?_) (fun c68 => ?_)
          · try simp (disch := omega) only [nI_eq, nI_leI, nI_ltI, Classical.not_not] at c68
            refine Ev.blk kX1_playerActs_80 rfl ⟨trivial, vinN hi8 (by decide)⟩ ?_
            simp only [ix8 hi8, hY.k hi8]
            refine Ev.br tX1_playerActs_87 rfl (fun c87 => ?_) (fun c87 => ?_)
            · try simp (disch := omega) only [nI_eq, nI_leI, nI_ltI, Classical.not_not] at c87
              refine Ev.bb kX1_playerActs_112 tX1_playerActs_113 rfl rfl trivial (fun c113 => ?_) (fun c113 => ?_)
              · exact absurd rfl c113
              · obtain ⟨n1, n2⟩ := nearMay0 (D := D) (i := i) (by omega) (by omega)
                exact aw _ _ g1 c31 Off.rf hY (by unfold runs; rw [if_neg (by omega), n1, n2])
            · try simp (disch := omega) only [nI_eq, nI_leI, nI_ltI, Classical.not_not] at c87
              refine Ev.blk kX1_playerActs_90 rfl trivial ?_
              refine Ev.cS (d1 := d - 1) (ev_isEdge hci) tX1_playerActs_91 qX1_124 rfl ⟨rfl, rfl, rfl⟩ (by omega) ?_
              rintro _ _ ⟨rfl, rfl⟩
              refine Ev.br tX1_playerActs_94 rfl (fun c94 => ?_) (fun c94 => ?_)
              · rw [bI_0] at c94
                have hbz : (edg (dc D i) && decide (1 < cap D (dc D i))) = false := by rw [c94]; rfl
                refine Ev.blk kX1_playerActs_110 rfl trivial ?_
                refine Ev.blk kX1_playerActs_111 rfl trivial ?_
                refine Ev.bb kX1_playerActs_112 tX1_playerActs_113 rfl rfl trivial (fun c113 => ?_) (fun c113 => ?_)
                · first
                    | exact absurd rfl c113
                    | (refine fin _ _ g1 c31 Off.rf ?_
                       have hr : runs D i = (D, dc D i) := by unfold runs; rw [if_pos (by omega), if_pos hbz]
                       rw [hr]
                       show YardAt _ y (uc D (va_up (dc D) i (dc D i)))
                       rw [va_up_id]
                       exact hY)
                · first
                    | exact absurd (by decide) c113
                    | (refine aw _ _ g1 c31 Off.rf hY ?_
                       unfold runs
                       rw [if_pos (by omega), if_neg (by rw [hbz]; decide)])
              · rw [bI_0] at c94
                have hed : edg (dc D i) = true := by cases hz : edg (dc D i); exact absurd hz c94; rfl
                refine Ev.blk kX1_playerActs_97 rfl trivial ?_
                refine Ev.cV (d1 := d - 1) (ev_catcherApart hY hI (by omega) hci) tX1_playerActs_99 qX1_127 rfl rfl (by decide) ⟨rfl, rfl, rfl⟩ (by omega) ?_
                rintro _ _ ⟨rfl, rfl⟩
                refine Ev.blk kX1_playerActs_102 rfl trivial ?_
                refine Ev.br tX1_playerActs_103 rfl (fun c103 => ?_) (fun c103 => ?_)
                · rw [nI_leI (by omega) (by omega)] at c103
                  have hbz : (edg (dc D i) && decide (1 < cap D (dc D i))) = false := by rw [hed]; simp; omega
                  refine Ev.blk kX1_playerActs_110 rfl trivial ?_
                  refine Ev.blk kX1_playerActs_111 rfl trivial ?_
                  refine Ev.bb kX1_playerActs_112 tX1_playerActs_113 rfl rfl trivial (fun c113 => ?_) (fun c113 => ?_)
                  · first
                      | exact absurd rfl c113
                      | (refine fin _ _ g1 c31 Off.rf ?_
                         have hr : runs D i = (D, dc D i) := by unfold runs; rw [if_pos (by omega), if_pos hbz]
                         rw [hr]
                         show YardAt _ y (uc D (va_up (dc D) i (dc D i)))
                         rw [va_up_id]
                         exact hY)
                  · first
                      | exact absurd (by decide) c113
                      | (refine aw _ _ g1 c31 Off.rf hY ?_
                         unfold runs
                         rw [if_pos (by omega), if_neg (by rw [hbz]; decide)])
                · rw [nI_leI (by omega) (by omega)] at c103
                  have hbz : (edg (dc D i) && decide (1 < cap D (dc D i))) = true := by rw [hed]; simp; omega
                  refine Ev.blk kX1_playerActs_106 rfl trivial ?_
                  refine Ev.jmp tX1_playerActs_107 ?_
                  refine Ev.blk kX1_playerActs_111 rfl trivial ?_
                  refine Ev.bb kX1_playerActs_112 tX1_playerActs_113 rfl rfl trivial (fun c113 => ?_) (fun c113 => ?_)
                  · first
                      | exact absurd rfl c113
                      | (refine fin _ _ g1 c31 Off.rf ?_
                         have hr : runs D i = (D, dc D i) := by unfold runs; rw [if_pos (by omega), if_pos hbz]
                         rw [hr]
                         show YardAt _ y (uc D (va_up (dc D) i (dc D i)))
                         rw [va_up_id]
                         exact hY)
                  · first
                      | exact absurd (by decide) c113
                      | (refine aw _ _ g1 c31 Off.rf hY ?_
                         unfold runs
                         rw [if_pos (by omega), if_neg (by rw [hbz]; decide)])
          · try simp (disch := omega) only [nI_eq, nI_leI, nI_ltI, Classical.not_not] at c68
            refine Ev.blk kX1_playerActs_71 rfl trivial ?_
            refine Ev.cV (d1 := d - 1) (ev_freesOrFetches hY hI (by omega) hi) tX1_playerActs_73 qX1_121 rfl rfl (by decide) ⟨rfl, rfl, rfl⟩ (by omega) ?_
            rintro _ _ ⟨rfl, ho, hE⟩
            obtain ⟨f1, f2⟩ := runs_ff (D := D) (i := i) (by omega)
            refine Ev.bj kX1_playerActs_76 tX1_playerActs_77 rfl trivial ?_
            refine Ev.bb kX1_playerActs_112 tX1_playerActs_113 rfl rfl trivial (fun c113 => ?_) (fun c113 => ?_)
            · rw [bI_0] at c113
              have hb : (ffD D i).2 = true := by cases hz : (ffD D i).2; exact absurd hz c113; rfl
              refine fin _ _ g1 c31 ho ?_
              rw [f1 hb]
              exact hE
            · rw [bI_0] at c113
              obtain ⟨f3, f4⟩ := f2 (Decidable.not_not.mp c113)
              rw [f3] at hE
              exact aw _ _ g1 c31 ho hE f4
      · rw [nI_eq (by omega) (by omega)] at c31
        have g1 : ¬ (ds D i = true ∨ i = da D) := by rw [hs]; simp; exact c13
        refine Ev.blk kX1_playerActs_34 rfl ⟨trivial, vinN hi8 (by decide)⟩ ?_
        simp only [ix8 hi8]
        refine Ev.vret tX1_playerActs_41 rfl ?_
        refine ⟨rfl, Off.pA (by decide), ?_⟩
        have e : ply D i = ut D (va_up (dt D) i 0) := by unfold ply; rw [if_neg g1, if_pos (Decidable.not_not.mp c31)]
        rw [e]
        exact hY.pt
    · rw [enA_i hi8] at c13
      have ha : i = da D := Decidable.not_not.mp c13
      refine Ev.blk kX1_playerActs_16 rfl trivial ?_
      refine Ev.cV (d1 := d - 1) (ev_tire hY hI (by omega) hi8 true rfl) tX1_playerActs_19 qX1_117 rfl rfl (by decide) ⟨rfl, rfl, rfl⟩ (by omega) ?_
      rintro _ _ ⟨rfl, ho, hE⟩
      refine Ev.vret tX1_playerActs_22 rfl ?_
      refine ⟨rfl, ho, ?_⟩
      have e : ply D i = ut D (va_up (dt D) i (dt D i - 1)) := by unfold ply; rw [if_pos (by first | exact Or.inl hs | exact Or.inr ha)]
      rw [e]
      exact hE
theorem ev_guards (hY : YardAt w y D) (hI : YI D) (hd : 2 ≤ d) {i : Nat} (hi : i < dn D) : Cl l d MX1_guards [mR 1 y, mI (nI i)] w (fun r u => r = none ∧ Off y w u ∧ YardAt u y (match nrst (ds D) (fun o => far (dc D i) (dc D o)) (dn D) with
    | some a => if 1 < far (dc D i) (dc D a) then uc D (va_up (dc D) i (twd (dc D i) (dc D a))) else D
    | none => D)) := by
  show Ev l d MX1_guards 0 [some (mR 1 y), some (mI (nI i)), none] [] w _
  have h8 := hI.1
  have hi8 : i < 8 := by omega
  have hci := hI.cl hi
  have hnr := ev_nearest (l := l) (d := d - 1) hY hI (by omega) hi (ds D)
  cases hn : nrst (ds D) (fun o => far (dc D i) (dc D o)) (dn D) with
  | none =>
    rw [hn] at hnr
    refine Ev.blk kX1_guards_0 rfl trivial ?_
    simp only [hY.s]
    refine Ev.cV (d1 := d - 1) (hnr) tX1_guards_6 qX1_139 rfl rfl (by decide) ⟨rfl, rfl, rfl⟩ (by omega) ?_
    rintro _ _ ⟨rfl, rfl⟩
    refine Ev.blk kX1_guards_9 rfl trivial ?_
    refine Ev.br tX1_guards_12 rfl (fun c12 => ?_) (fun c12 => ?_)
    · refine Ev.vret tX1_guards_45 rfl ?_
      exact ⟨rfl, Off.rf, hY⟩
    · exact absurd rfl c12
  | some a =>
    rw [hn] at hnr
    have hal := (nrst_spec hn).1
    have ha8 : a < 8 := by omega
    have hca := hI.cl hal
    have hfl := far_le _ hci _ hca
    dsimp only
    refine Ev.blk kX1_guards_0 rfl trivial ?_
    simp only [hY.s]
    refine Ev.cV (d1 := d - 1) (hnr) tX1_guards_6 qX1_139 rfl rfl (by decide) ⟨rfl, rfl, rfl⟩ (by omega) ?_
    rintro _ _ ⟨rfl, rfl⟩
    refine Ev.blk kX1_guards_9 rfl trivial ?_
    refine Ev.br tX1_guards_12 rfl (fun c12 => ?_) (fun c12 => ?_)
    · exact absurd c12 (nI_nm1 (by omega))
    · try simp (disch := omega) only [nI_eq, nI_leI, nI_ltI, Classical.not_not] at c12
      show Ev l d MX1_guards 15 [_, _, some (mI (nI a))] [] _ _
      refine Ev.blk kX1_guards_15 rfl ⟨⟨trivial, vinN hi8 (by decide)⟩, vinN ha8 (by decide)⟩ ?_
      simp only [ix8 hi8, ix8 ha8, hY.c hi8, hY.c ha8]
      refine Ev.cS (d1 := d - 1) (ev_apart hci hca) tX1_guards_27 qX1_100 rfl ⟨rfl, rfl, rfl⟩ (by omega) ?_
      rintro _ _ ⟨rfl, rfl⟩
      refine Ev.blk kX1_guards_30 rfl trivial ?_
      refine Ev.br tX1_guards_31 rfl (fun c31 => ?_) (fun c31 => ?_)
      · try simp (disch := omega) only [nI_eq, nI_leI, nI_ltI, Classical.not_not] at c31
        refine Ev.vret tX1_guards_45 rfl ?_
        first
        | (rw [if_neg (by omega)]; exact ⟨rfl, Off.rf, hY⟩)
        | (rw [if_pos (by omega)]; exact ⟨rfl, ho, hE⟩)
      · try simp (disch := omega) only [nI_eq, nI_leI, nI_ltI, Classical.not_not] at c31
        refine Ev.blk kX1_guards_34 rfl ⟨trivial, vinN ha8 (by decide)⟩ ?_
        simp only [ix8 ha8, hY.c ha8]
        refine Ev.cV (d1 := d - 1) (ev_stepToward hY hI (by omega) hi hca) tX1_guards_42 qX1_142 rfl rfl (by decide) ⟨rfl, rfl, rfl⟩ (by omega) ?_
        rintro _ _ ⟨rfl, ho, hE⟩
        refine Ev.vret tX1_guards_45 rfl ?_
        first
        | (rw [if_neg (by omega)]; exact ⟨rfl, Off.rf, hY⟩)
        | (rw [if_pos (by omega)]; exact ⟨rfl, ho, hE⟩)
theorem ev_catcherActs (hY : YardAt w y D) (hI : YI D) (hd : 3 ≤ d) {i : Nat} (hi : i < dn D) (hk : isC D i = true) : Cl l d MX1_catcherActs [mR 1 y, mI (nI i)] w (fun r u => r = none ∧ Off y w u ∧ YardAt u y (cat D i)) := by
  show Ev l d MX1_catcherActs 0 [some (mR 1 y), some (mI (nI i)), none, none, none] [] w _
  have h8 := hI.1
  have hi8 : i < 8 := by omega
  have hci := hI.cl hi
  have hk8 := hI.kd hi
  have hse := hI.se
  have e3 : mrem (nI (de D)) (nI 3) = nI (de D % 3) := mrem_n (by omega) (by omega) (by omega)
  have hlb := ev_leastBeside (l := l) (d := d - 1) hY hI (by omega) hi (fun j => (plq D j && !ds D j) && !sfq D j)
  rw [show fst1 (fun o => ((plq D o && !ds D o) && !sfq D o) && decide (far (dc D i) (dc D o) ≤ 1)) (dn D) = fst1 (tch D i) (dn D) from fst1_congr (fun j hj => by
    unfold plq sfq tch rnr
    have e : decide (j < dn D) = true := by simp [hj]
    rw [e]
    cases isC D j <;> cases ds D j <;> cases (j == da D) <;> cases (dl D == 1 && edg (dc D j)) <;> simp)] at hlb
  have hnr := ev_nearest (l := l) (d := d - 1) hY hI (by omega) hi (fun j => plq D j && !ds D j)
  rw [show nrst (fun j => plq D j && !ds D j) (fun o => far (dc D i) (dc D o)) (dn D) = nrst (rnr D) (fun o => far (dc D i) (dc D o)) (dn D) from nrst_congr (fun j hj => by
    unfold plq rnr
    have e : decide (j < dn D) = true := by simp [hj]
    rw [e]
    simp) (fun _ _ => rfl)] at hnr
  have hz : (nI (bts (ds D) 8) = nI 0) = (nrst (ds D) (fun o => far (dc D i) (dc D o)) (dn D) = none) := by
    apply propext
    rw [b_eq0]
    constructor
    · intro h
      cases hn : nrst (ds D) (fun o => far (dc D i) (dc D o)) (dn D) with
      | none => rfl
      | some b =>
        obtain ⟨g1, g2⟩ := nrst_spec hn
        rw [h b (by omega)] at g2
        cases g2
    · intro h j hj
      cases hd : ds D j with
      | false => rfl
      | true =>
        have := nrst_no h j (hI.st hd).1
        rw [hd] at this
        cases this
  by_cases hbusy : dk D i = 7 ∧ de D % 3 = 0
  · have ec : cat D i = D := by unfold cat; rw [if_pos hbusy]
    rw [ec]
    refine Ev.blk kX1_catcherActs_0 rfl ⟨trivial, vinN hi8 (by decide)⟩ ?_
    simp only [ix8 hi8, hY.k hi8]
    refine Ev.br tX1_catcherActs_10 rfl (fun c10 => ?_) (fun c10 => ?_)
    · rw [nI_eq (by omega) (by omega)] at c10
      omega
    · try simp (disch := omega) only [nI_eq, nI_leI, nI_ltI, Classical.not_not] at c10
      refine Ev.blk kX1_catcherActs_13 rfl ⟨trivial, by decide⟩ ?_
      simp only [hY.e, e3]
      refine Ev.br tX1_catcherActs_19 rfl (fun c19 => ?_) (fun c19 => ?_)
      · rw [nI_eq (by omega) (by omega)] at c19
        omega
      · try simp (disch := omega) only [nI_eq, nI_leI, nI_ltI, Classical.not_not] at c19
        refine Ev.vret tX1_catcherActs_22 rfl ?_
        exact ⟨rfl, Off.rf, hY⟩
  · have go : Ev l d MX1_catcherActs 23 [some (mR 1 y), some (mI (nI i)), some (mI (nI (dk D i))), none, none] [] w (fun r u => r = none ∧ Off y w u ∧ YardAt u y (cat D i)) := by
      unfold cat
      rw [if_neg hbusy]
      cases ht : fst1 (tch D i) (dn D) with
      | some o =>
        rw [ht] at hlb
        have hol := (fst1_spec ht).1
        have ho8 : o < 8 := by omega
        refine Ev.blk kX1_catcherActs_23 rfl trivial ?_
        refine Ev.cV (d1 := d - 1) (ev_runningBits hY hI (by omega)) tX1_catcherActs_26 qX1_145 rfl rfl (by decide) ⟨rfl, rfl, rfl⟩ (by omega) ?_
        rintro _ _ ⟨rfl, rfl⟩
        refine Ev.blk kX1_catcherActs_29 rfl trivial ?_
        refine Ev.cV (d1 := d - 1) (ev_safeBits hY hI (by omega)) tX1_catcherActs_30 qX1_148 rfl rfl (by decide) ⟨rfl, rfl, rfl⟩ (by omega) ?_
        rintro _ _ ⟨rfl, rfl⟩
        refine Ev.blk kX1_catcherActs_33 rfl trivial ?_
        rw [b_andn]
        refine Ev.cV (d1 := d - 1) (hlb) tX1_catcherActs_36 qX1_96 rfl rfl (by decide) ⟨rfl, rfl, rfl⟩ (by omega) ?_
        rintro _ _ ⟨rfl, rfl⟩
        refine Ev.blk kX1_catcherActs_39 rfl trivial ?_
        refine Ev.br tX1_catcherActs_42 rfl (fun c42 => ?_) (fun c42 => ?_)
        · exact absurd c42 (nI_nm1 (by omega))
        · show Ev l d MX1_catcherActs 45 [_, _, _, some (mI (nI o)), _] [] _ _
          refine Ev.blk kX1_catcherActs_45 rfl trivial ?_
          rw [hY.s, b_or ho8]
          refine Ev.jmp tX1_catcherActs_57 ?_
          refine Ev.vret tX1_catcherActs_123 rfl ?_
          exact ⟨rfl, Off.pf, hY.pS⟩
      | none =>
        rw [ht] at hlb
        have hun : Ev l d MX1_catcherActs 94 [some (mR 1 y), some (mI (nI i)), some (mI (nI (dk D i))), some (mI (oM1 none)), none] [] w (fun r u => r = none ∧ Off y w u ∧ YardAt u y (match nrst (rnr D) (fun o => far (dc D i) (dc D o)) (dn D) with
            | some b => uc D (va_up (dc D) i (twd (dc D i) (dc D b)))
            | none => D)) := by
          cases hn : nrst (rnr D) (fun o => far (dc D i) (dc D o)) (dn D) with
          | none =>
            rw [hn] at hnr
            refine Ev.blk kX1_catcherActs_94 rfl trivial ?_
            refine Ev.cV (d1 := d - 1) (ev_runningBits hY hI (by omega)) tX1_catcherActs_97 qX1_145 rfl rfl (by decide) ⟨rfl, rfl, rfl⟩ (by omega) ?_
            rintro _ _ ⟨rfl, rfl⟩
            refine Ev.cV (d1 := d - 1) (hnr) tX1_catcherActs_100 qX1_139 rfl rfl (by decide) ⟨rfl, rfl, rfl⟩ (by omega) ?_
            rintro _ _ ⟨rfl, rfl⟩
            refine Ev.blk kX1_catcherActs_103 rfl trivial ?_
            refine Ev.br tX1_catcherActs_108 rfl (fun c108 => ?_) (fun c108 => ?_)
            · refine Ev.vret tX1_catcherActs_123 rfl ?_
              exact ⟨rfl, Off.rf, hY⟩
            · exact absurd rfl c108
          | some b =>
            rw [hn] at hnr
            have hbl := (nrst_spec hn).1
            have hb8 : b < 8 := by omega
            refine Ev.blk kX1_catcherActs_94 rfl trivial ?_
            refine Ev.cV (d1 := d - 1) (ev_runningBits hY hI (by omega)) tX1_catcherActs_97 qX1_145 rfl rfl (by decide) ⟨rfl, rfl, rfl⟩ (by omega) ?_
            rintro _ _ ⟨rfl, rfl⟩
            refine Ev.cV (d1 := d - 1) (hnr) tX1_catcherActs_100 qX1_139 rfl rfl (by decide) ⟨rfl, rfl, rfl⟩ (by omega) ?_
            rintro _ _ ⟨rfl, rfl⟩
            refine Ev.blk kX1_catcherActs_103 rfl trivial ?_
            refine Ev.br tX1_catcherActs_108 rfl (fun c108 => ?_) (fun c108 => ?_)
            · exact absurd c108 (nI_nm1 (by omega))
            · show Ev l d MX1_catcherActs 111 [_, _, _, _, some (mI (nI b))] [] _ _
              refine Ev.blk kX1_catcherActs_111 rfl ⟨trivial, vinN hb8 (by decide)⟩ ?_
              simp only [ix8 hb8, hY.c hb8]
              refine Ev.cV (d1 := d - 1) (ev_stepToward hY hI (by omega) hi (hI.cl hbl)) tX1_catcherActs_120 qX1_142 rfl rfl (by decide) ⟨rfl, rfl, rfl⟩ (by omega) ?_
              rintro _ _ ⟨rfl, ho, hE⟩
              refine Ev.vret tX1_catcherActs_123 rfl ?_
              exact ⟨rfl, ho, hE⟩
        have hgd := ev_guards (l := l) (d := d - 1) hY hI (by omega) hi
        cases hs : nrst (ds D) (fun o => far (dc D i) (dc D o)) (dn D) with
        | none =>
          rw [hs] at hz
          refine Ev.blk kX1_catcherActs_23 rfl trivial ?_
          refine Ev.cV (d1 := d - 1) (ev_runningBits hY hI (by omega)) tX1_catcherActs_26 qX1_145 rfl rfl (by decide) ⟨rfl, rfl, rfl⟩ (by omega) ?_
          rintro _ _ ⟨rfl, rfl⟩
          refine Ev.blk kX1_catcherActs_29 rfl trivial ?_
          refine Ev.cV (d1 := d - 1) (ev_safeBits hY hI (by omega)) tX1_catcherActs_30 qX1_148 rfl rfl (by decide) ⟨rfl, rfl, rfl⟩ (by omega) ?_
          rintro _ _ ⟨rfl, rfl⟩
          refine Ev.blk kX1_catcherActs_33 rfl trivial ?_
          rw [b_andn]
          refine Ev.cV (d1 := d - 1) (hlb) tX1_catcherActs_36 qX1_96 rfl rfl (by decide) ⟨rfl, rfl, rfl⟩ (by omega) ?_
          rintro _ _ ⟨rfl, rfl⟩
          refine Ev.blk kX1_catcherActs_39 rfl trivial ?_
          refine Ev.br tX1_catcherActs_42 rfl (fun c42 => ?_) (fun c42 => ?_)
          · refine Ev.blk kX1_catcherActs_60 rfl trivial ?_
            refine Ev.br tX1_catcherActs_63 rfl (fun c63 => ?_) (fun c63 => ?_)
            · refine Ev.blk kX1_catcherActs_74 rfl trivial ?_
              refine Ev.br tX1_catcherActs_76 rfl (fun c76 => ?_) (fun c76 => ?_)
              · exact hun
              · refine Ev.blk kX1_catcherActs_79 rfl trivial ?_
                rw [hY.s]
                refine Ev.br tX1_catcherActs_83 rfl (fun c83 => ?_) (fun c83 => ?_)
                · exact hun
                · exact absurd (by rw [hz]) c83
            · refine Ev.blk kX1_catcherActs_66 rfl trivial ?_
              rw [hY.s]
              refine Ev.br tX1_catcherActs_70 rfl (fun c70 => ?_) (fun c70 => ?_)
              · refine Ev.blk kX1_catcherActs_74 rfl trivial ?_
                refine Ev.br tX1_catcherActs_76 rfl (fun c76 => ?_) (fun c76 => ?_)
                · exact hun
                · refine Ev.blk kX1_catcherActs_79 rfl trivial ?_
                  rw [hY.s]
                  refine Ev.br tX1_catcherActs_83 rfl (fun c83 => ?_) (fun c83 => ?_)
                  · exact hun
                  · exact absurd (by rw [hz]) c83
              · exact absurd (by rw [hz]) c70
          · exact absurd rfl c42
        | some a =>
          rw [hs] at hz hgd
          dsimp only at hgd ⊢
          refine Ev.blk kX1_catcherActs_23 rfl trivial ?_
          refine Ev.cV (d1 := d - 1) (ev_runningBits hY hI (by omega)) tX1_catcherActs_26 qX1_145 rfl rfl (by decide) ⟨rfl, rfl, rfl⟩ (by omega) ?_
          rintro _ _ ⟨rfl, rfl⟩
          refine Ev.blk kX1_catcherActs_29 rfl trivial ?_
          refine Ev.cV (d1 := d - 1) (ev_safeBits hY hI (by omega)) tX1_catcherActs_30 qX1_148 rfl rfl (by decide) ⟨rfl, rfl, rfl⟩ (by omega) ?_
          rintro _ _ ⟨rfl, rfl⟩
          refine Ev.blk kX1_catcherActs_33 rfl trivial ?_
          rw [b_andn]
          refine Ev.cV (d1 := d - 1) (hlb) tX1_catcherActs_36 qX1_96 rfl rfl (by decide) ⟨rfl, rfl, rfl⟩ (by omega) ?_
          rintro _ _ ⟨rfl, rfl⟩
          refine Ev.blk kX1_catcherActs_39 rfl trivial ?_
          refine Ev.br tX1_catcherActs_42 rfl (fun c42 => ?_) (fun c42 => ?_)
          · try simp (disch := omega) only [nI_eq, nI_leI, nI_ltI, Classical.not_not] at c42
            refine Ev.blk kX1_catcherActs_60 rfl trivial ?_
            refine Ev.br tX1_catcherActs_63 rfl (fun c63 => ?_) (fun c63 => ?_)
            · try simp (disch := omega) only [nI_eq, nI_leI, nI_ltI, Classical.not_not] at c63
              refine Ev.blk kX1_catcherActs_74 rfl trivial ?_
              refine Ev.br tX1_catcherActs_76 rfl (fun c76 => ?_) (fun c76 => ?_)
              · try simp (disch := omega) only [nI_eq, nI_leI, nI_ltI, Classical.not_not] at c76
                rw [if_neg (by omega), if_neg (by omega)]
                exact hun
              · try simp (disch := omega) only [nI_eq, nI_leI, nI_ltI, Classical.not_not] at c76
                refine Ev.blk kX1_catcherActs_79 rfl trivial ?_
                rw [hY.s]
                refine Ev.br tX1_catcherActs_83 rfl (fun c83 => ?_) (fun c83 => ?_)
                · exact absurd c83 (by rw [hz]; exact fun z => by cases z)
                · try simp (disch := omega) only [nI_eq, nI_leI, nI_ltI, Classical.not_not] at c83
                  refine Ev.blk kX1_catcherActs_86 rfl trivial ?_
                  refine Ev.cV (d1 := d - 1) (hgd) tX1_catcherActs_88 qX1_151 rfl rfl (by decide) ⟨rfl, rfl, rfl⟩ (by omega) ?_
                  rintro _ _ ⟨rfl, ho, hE⟩
                  refine Ev.jmp tX1_catcherActs_91 ?_
                  refine Ev.vret tX1_catcherActs_123 rfl ?_
                  rw [if_neg (by omega), if_pos (by omega)]
                  exact ⟨rfl, ho, hE⟩
            · try simp (disch := omega) only [nI_eq, nI_leI, nI_ltI, Classical.not_not] at c63
              refine Ev.blk kX1_catcherActs_66 rfl trivial ?_
              rw [hY.s]
              refine Ev.br tX1_catcherActs_70 rfl (fun c70 => ?_) (fun c70 => ?_)
              · exact absurd c70 (by rw [hz]; exact fun z => by cases z)
              · try simp (disch := omega) only [nI_eq, nI_leI, nI_ltI, Classical.not_not] at c70
                refine Ev.vret tX1_catcherActs_73 rfl ?_
                rw [if_pos (by omega)]
                exact ⟨rfl, Off.rf, hY⟩
          · exact absurd rfl c42
    refine Ev.blk kX1_catcherActs_0 rfl ⟨trivial, vinN hi8 (by decide)⟩ ?_
    simp only [ix8 hi8, hY.k hi8]
    refine Ev.br tX1_catcherActs_10 rfl (fun c10 => ?_) (fun c10 => ?_)
    · try simp (disch := omega) only [nI_eq, nI_leI, nI_ltI, Classical.not_not] at c10
      exact go
    · try simp (disch := omega) only [nI_eq, nI_leI, nI_ltI, Classical.not_not] at c10
      refine Ev.blk kX1_catcherActs_13 rfl ⟨trivial, by decide⟩ ?_
      simp only [hY.e, e3]
      refine Ev.br tX1_catcherActs_19 rfl (fun c19 => ?_) (fun c19 => ?_)
      · try simp (disch := omega) only [nI_eq, nI_leI, nI_ltI, Classical.not_not] at c19
        exact go
      · try simp (disch := omega) only [nI_eq, nI_leI, nI_ltI, Classical.not_not] at c19
        refine Ev.vret tX1_catcherActs_22 rfl ?_
        exact absurd ⟨by omega, by omega⟩ hbusy
theorem ev_pass (hY : YardAt w y D) (hI : YI D) (hd : 5 ≤ d) : Cl l d MX1_pass [mR 1 y] w (fun r u => r = none ∧ Off y w u ∧ YardAt u y (pass D)) := by
  show Ev l d MX1_pass 0 [some (mR 1 y), none] [] w _
  have h8 := hI.1
  have hse := hI.se
  have hlw := hI.lw
  have e3 : mrem (nI (de D)) (nI 10) = nI (de D % 10) := mrem_n (by omega) (by omega) (by omega)
  have kp := tnth_Kp (D := D)
  have go : ∀ u, Off y w u → YardAt u y (tnth D) → Ev l d MX1_pass 23 [some (mR 1 y), none] [] u (fun r u => r = none ∧ Off y w u ∧ YardAt u y (pass D)) := by
    intro u ho hE
    refine Ev.blk kX1_pass_23 rfl trivial ?_
    refine Ev.for (fun j L v => Off y w v ∧ YardAt v y (actN (tnth D) j) ∧ L = [some (mR 1 y), some (mI (nI j))]) (dn D) ?_ ?_ 0 (Nat.zero_le _) ⟨ho, hE, rfl⟩
    · rintro L v ⟨ho, hE, rfl⟩
      have kn := (kp.tr (actN_Kp (D := tnth D) (dn D)))
      have hn : mgf v 1 y 5 = nI (dn D) := by rw [← kn.2.2.1]; exact hE.n
      have he : mgf v 1 y 8 = nI (de D) := by rw [← kn.2.2.2.2.1]; exact hE.e
      refine Ev.blk kX1_pass_25 rfl trivial ?_
      simp only [hn]
      refine Ev.br tX1_pass_30 rfl (fun c30 => ?_) (fun c30 => ?_)
      · refine Ev.blk kX1_pass_60 rfl trivial ?_
        rw [he, nI_add]
        refine Ev.vret tX1_pass_70 rfl ?_
        exact ⟨rfl, ho.tr Off.pf, hE.pE⟩
      · exact absurd (nI_le (Nat.le_refl _) (by omega)) c30
    · rintro j L v hj ⟨ho, hE, rfl⟩ k
      have kn := (kp.tr (actN_Kp (D := tnth D) j))
      have hEI := actN_YI (tnth_YI hI) j (by rw [kp.2.2.1]; omega)
      have hn : mgf v 1 y 5 = nI (dn D) := by rw [← kn.2.2.1]; exact hE.n
      have hjn : j < dn (actN (tnth D) j) := by rw [kn.2.2.1]; exact hj
      refine Ev.blk kX1_pass_25 rfl trivial ?_
      simp only [hn]
      refine Ev.br tX1_pass_30 rfl (fun c30 => ?_) (fun c30 => ?_)
      · exact absurd c30 (nI_ge hj (by omega))
      · refine Ev.blk kX1_pass_33 rfl trivial ?_
        refine Ev.cV (d1 := d - 1) (ev_isCatcher hE hEI (by omega) hjn) tX1_pass_35 qX1_80 rfl rfl (by decide) ⟨rfl, rfl, rfl⟩ (by omega) ?_
        rintro _ _ ⟨rfl, rfl⟩
        refine Ev.br tX1_pass_38 rfl (fun c38 => ?_) (fun c38 => ?_)
        · rw [bI_0] at c38
          refine Ev.blk kX1_pass_49 rfl trivial ?_
          refine Ev.cV (d1 := d - 1) (ev_playerActs hE hEI (by omega) hjn c38) tX1_pass_51 qX1_114 rfl rfl (by decide) ⟨rfl, rfl, rfl⟩ (by omega) ?_
          rintro _ _ ⟨rfl, ho2, hF⟩
          refine Ev.blk kX1_pass_54 rfl trivial ?_
          refine Ev.jmp tX1_pass_57 ?_
          refine k _ _ ⟨ho.tr ho2, ?_, by rw [nI_add]⟩
          show YardAt _ y (act (actN (tnth D) j) j)
          unfold act
          first
            | (rw [if_pos hC]; exact hF)
            | (rw [if_neg (by rw [c38]; decide)]; exact hF)
        · rw [bI_0] at c38
          have hC : isC (actN (tnth D) j) j = true := by cases hz : isC (actN (tnth D) j) j; exact absurd hz c38; rfl
          refine Ev.blk kX1_pass_41 rfl trivial ?_
          refine Ev.cV (d1 := d - 1) (ev_catcherActs hE hEI (by omega) hjn hC) tX1_pass_43 qX1_111 rfl rfl (by decide) ⟨rfl, rfl, rfl⟩ (by omega) ?_
          rintro _ _ ⟨rfl, ho2, hF⟩
          refine Ev.jmp tX1_pass_46 ?_
          refine Ev.blk kX1_pass_54 rfl trivial ?_
          refine Ev.jmp tX1_pass_57 ?_
          refine k _ _ ⟨ho.tr ho2, ?_, by rw [nI_add]⟩
          show YardAt _ y (act (actN (tnth D) j) j)
          unfold act
          first
            | (rw [if_pos hC]; exact hF)
            | (rw [if_neg (by rw [c38]; decide)]; exact hF)
  refine Ev.blk kX1_pass_0 rfl trivial ?_
  simp only [hY.l]
  refine Ev.br tX1_pass_5 rfl (fun c5 => ?_) (fun c5 => ?_)
  · try simp (disch := omega) only [nI_eq, nI_leI, nI_ltI, Classical.not_not] at c5
    first
    | exact go _ Off.pf (by
        unfold tnth
        rw [if_pos ⟨by omega, by omega⟩]
        exact hY.pS)
    | exact go _ Off.rf (by
        unfold tnth
        rw [if_neg (by omega)]
        exact hY)
  · try simp (disch := omega) only [nI_eq, nI_leI, nI_ltI, Classical.not_not] at c5
    refine Ev.blk kX1_pass_8 rfl ⟨trivial, by decide⟩ ?_
    simp only [hY.e, e3]
    refine Ev.br tX1_pass_15 rfl (fun c15 => ?_) (fun c15 => ?_)
    · try simp (disch := omega) only [nI_eq, nI_leI, nI_ltI, Classical.not_not] at c15
      first
      | exact go _ Off.pf (by
          unfold tnth
          rw [if_pos ⟨by omega, by omega⟩]
          exact hY.pS)
      | exact go _ Off.rf (by
          unfold tnth
          rw [if_neg (by omega)]
          exact hY)
    · try simp (disch := omega) only [nI_eq, nI_leI, nI_ltI, Classical.not_not] at c15
      refine Ev.blk kX1_pass_18 rfl trivial ?_
      rw [b_zero]
      first
      | exact go _ Off.pf (by
          unfold tnth
          rw [if_pos ⟨by omega, by omega⟩]
          exact hY.pS)
      | exact go _ Off.rf (by
          unfold tnth
          rw [if_neg (by omega)]
          exact hY)
theorem ev_passMany (hY : YardAt w y D) (hI : YI D) (hd : 6 ≤ d) {n : Nat} (hn : n < 1000) (he : de D + n < 100000) : Cl l d MX1_passMany [mR 1 y, mI (nI n)] w (fun r u => r = none ∧ Off y w u ∧ YardAt u y (passN D n)) := by
  show Ev l d MX1_passMany 0 [some (mR 1 y), some (mI (nI n)), none] [] w _
  refine Ev.blk kX1_passMany_0 rfl trivial ?_
  refine Ev.for (fun j L v => Off y w v ∧ YardAt v y (passN D j) ∧ L = [some (mR 1 y), some (mI (nI n)), some (mI (nI j))]) n ?_ ?_ 0 (Nat.zero_le _) ⟨Off.rf, hY, rfl⟩
  · rintro L v ⟨ho, hE, rfl⟩
    refine Ev.blk kX1_passMany_2 rfl trivial ?_
    refine Ev.br tX1_passMany_4 rfl (fun c4 => ?_) (fun c4 => ?_)
    · refine Ev.vret tX1_passMany_17 rfl ?_
      exact ⟨rfl, ho, hE⟩
    · exact absurd (nI_le (Nat.le_refl _) (by omega)) c4
  · rintro j L v hj ⟨ho, hE, rfl⟩ k
    refine Ev.blk kX1_passMany_2 rfl trivial ?_
    refine Ev.br tX1_passMany_4 rfl (fun c4 => ?_) (fun c4 => ?_)
    · exact absurd c4 (nI_ge hj (by omega))
    · refine Ev.blk kX1_passMany_7 rfl trivial ?_
      refine Ev.cV (d1 := d - 1) (ev_pass hE (passN_YI hI j (by omega)) (by omega)) tX1_passMany_8 qX1_108 rfl rfl (by decide) ⟨rfl, rfl, rfl⟩ (by omega) ?_
      rintro _ _ ⟨rfl, ho2, hF⟩
      refine Ev.blk kX1_passMany_11 rfl trivial ?_
      refine Ev.jmp tX1_passMany_14 ?_
      exact k _ _ ⟨ho.tr ho2, hF, by rw [nI_add]⟩
end Y6
end
section
/-! ===== the class's yard: the rest ===== -/
/-- how many are no catchers -/
def plN (D : Yd) : Nat := cnt (fun j => !isC D j) (dn D)
def hasP (D : Yd) : Bool := !(plN D == 0)
def ovr (D : Yd) : Bool := hasP D && !(decide (cnt (ds D) 8 < plN D))
def addB (D : Yd) (k c f : Nat) : Bool := decide (k < 8) && (decide (c < 24) && (decide (f < 8) && decide (dn D < 8)))
def addY (D : Yd) (k c f : Nat) : Yd := un (uf (uc (uk D (va_up (dk D) (dn D) k)) (va_up (dc D) (dn D) c)) (va_up (df D) (dn D) f)) (dn D + 1)
def oM9 : Option Nat → Int32
  | some t => nI t
  | none => -9
def lz (z : Int32) : Int32 := z * nI 1664525 + nI 1013904223
def lcl (z : Int32) : Nat := (z &&& nI 2147483647).toNatClampNeg / 256 % 24
def sct (D : Yd) (z : Int32) : Nat → Int32 × (Nat → Nat)
  | 0 => (z, dc D)
  | j + 1 => (lz (sct D z j).1, va_up (sct D z j).2 j (lcl (lz (sct D z j).1)))
def hfr (D : Yd) (i : Nat) : Bool := (fst1 (fun o => !(o == i) && mayK D o i) (dn D)).isSome
theorem lcl_ok (z : Int32) : mrem ((z &&& nI 2147483647) / nI 256) (nI 24) = nI (lcl z) := by
  obtain ⟨j, hj, e⟩ := pk_andE z (m := nI 2147483647) 31 (by decide)
  unfold lcl
  rw [e, nI_clamp hj, pk_div hj (by omega) (by omega), mrem_n (by omega) (by omega) (by omega)]
theorem cnt_mono {p q : Nat → Bool} (h : ∀ j, p j = true → q j = true) : ∀ n, cnt p n ≤ cnt q n
  | 0 => Nat.le_refl _
  | n + 1 => by
    have := cnt_mono h n
    show cnt p n + (if p n = true then 1 else 0) ≤ cnt q n + (if q n = true then 1 else 0)
    by_cases hp : p n = true
    · rw [if_pos hp, if_pos (h n hp)]; omega
    · rw [if_neg hp]; split <;> omega
theorem cnt_eq_iff {p q : Nat → Bool} (h : ∀ j, p j = true → q j = true) : ∀ n, cnt q n ≤ cnt p n → ∀ j, j < n → p j = q j
  | 0, _, j, hj => by omega
  | n + 1, hc, j, hj => by
    have hm := cnt_mono h n
    have hc : cnt q n + (if q n = true then 1 else 0) ≤ cnt p n + (if p n = true then 1 else 0) := hc
    have hn : p n = q n := by
      cases hp : p n with
      | true => rw [h n hp]
      | false =>
        cases hq : q n with
        | false => rfl
        | true => rw [hp, hq] at hc; simp at hc; omega
    by_cases e : j = n
    · subst e; exact hn
    · rw [hn] at hc
      exact cnt_eq_iff h n (by omega) j (by omega)
theorem cnt_pl {D : Yd} (hI : YI D) : cnt (plq D) 8 = plN D := by
  unfold plN
  rw [cnt_cut (n := dn D) (fun j hj => by unfold plq at hj; simp at hj; exact hj.1) hI.1]
  exact cnt_congr (fun j hj => by unfold plq; simp [hj])
theorem pl_zero {D : Yd} (hI : YI D) : (nI (bts (plq D) 8) = nI 0) = (plN D = 0) := by
  apply propext
  rw [b_eq0, ← cnt_pl hI]
  constructor
  · intro h
    rw [cnt_congr (q' := fun _ => false) h]
    rfl
  · intro h j hj
    exact (cnt_eq_iff (p := fun _ => false) (q := plq D) (fun _ z => by cases z) 8 (by rw [h]; exact Nat.zero_le _) j hj).symm
theorem ds_pl {D : Yd} (hI : YI D) : ∀ j, ds D j = true → plq D j = true := fun j h => by
  obtain ⟨h1, h2⟩ := hI.st h
  unfold plq isC
  simp
  omega
theorem pl_all {D : Yd} (hI : YI D) : (nI (bts (ds D) 8) = nI (bts (plq D) 8)) = ¬ (cnt (ds D) 8 < plN D) := by
  apply propext
  rw [b_inj, ← cnt_pl hI]
  constructor
  · intro h
    rw [cnt_congr h]
    omega
  · intro h j hj
    exact cnt_eq_iff (ds_pl hI) 8 (by omega) j hj
theorem sumN_congr {f g : Nat → Nat} : ∀ {n : Nat}, (∀ j, j < n → f j = g j) → sumN f n = sumN g n
  | 0, _ => rfl
  | n + 1, h => by
    unfold sumN
    rw [sumN_congr (fun j hj => h j (by omega)), h n (by omega)]
theorem hasI_nat {D : Yd} {i : Nat} (hi : i < 1000) (h8 : dn D ≤ 8) : hasI D (nI i) = decide (i < dn D) := by
  unfold hasI
  apply decide_eq_decide.mpr
  rw [nI_leI (by omega) (by omega), nI_ltI (by omega) (by omega)]
  omega
theorem frb_at {D : Yd} (hI : YI D) {o i : Nat} (ho : o < dn D) (hi : i < 8) : mshr (frb D o) (nI i) &&& nI 1 = nI (if mayK D o i then 1 else 0) := by
  unfold frb mayK
  by_cases h1 : dk D o = 1
  · rw [if_pos h1, tb_m1b i hi]; simp [h1]
  · rw [if_neg h1]
    by_cases h2 : dk D o = 2
    · rw [if_pos h2, b_pow (hI.fr ho), b_at hi]
      have : (i == df D o) = (df D o == i) := by
        by_cases e : i = df D o
        · subst e; rfl
        · rw [beq_eq_false_iff_ne.mpr e, beq_eq_false_iff_ne.mpr (Ne.symm e)]
      simp [h2, this]
    · rw [if_neg h2, b_zero, b_at hi]
      simp [h1, h2]
theorem s_len : ∀ k, k < 6 → mshr (nI (sLen.getD k 0)) 0 = nI (sLen.getD k 0) := by decide
section Y7
variable {l : Launch} {d : Nat} {w : mW} {y : Nat} {D : Yd}
theorem ev_coder (k : Nat) : Cl l d MJ0_coder_7d493 [mR 30 k] w (fun r u => u = w ∧ r = some (mI 0)) := by
  show Ev l d MJ0_coder_7d493 0 [some (mR 30 k)] [] w _
  refine Ev.blk kJ0_coder_7d493_0 rfl trivial ?_
  refine Ev.br tJ0_coder_7d493_3 rfl (fun c3 => ?_) (fun c3 => ?_)
  · exact absurd c3 (by decide)
  · refine Ev.blk kJ0_coder_7d493_6 rfl trivial ?_
    refine Ev.jmp tJ0_coder_7d493_10 ?_
    refine Ev.iret tJ0_coder_7d493_14 rfl rfl ?_
    exact ⟨rfl, rfl⟩
theorem ev_strlen (hd : 1 ≤ d) {k : Nat} (hk : k < 6) : Cl l d MJ0_length_8abf5 [mR 30 k] w (fun r u => u = w ∧ r = some (mI (nI (sLen.getD k 0)))) := by
  show Ev l d MJ0_length_8abf5 0 [some (mR 30 k)] [] w _
  refine Ev.blk kJ0_length_8abf5_0 rfl trivial ?_
  refine Ev.cV (d1 := d - 1) (ev_coder k) tJ0_length_8abf5_6 qJ0_335 rfl rfl (by decide) ⟨rfl, rfl, rfl⟩ (by omega) ?_
  rintro _ _ ⟨rfl, rfl⟩
  refine Ev.blk kJ0_length_8abf5_9 rfl trivial ?_
  rw [s_len k hk]
  refine Ev.iret tJ0_length_8abf5_10 rfl rfl ?_
  exact ⟨rfl, rfl⟩
theorem ev_copyFrom {z : Nat} (hyz : y ≠ z) (hZ : YardAt w z D) (hd : 1 ≤ d) : Cl l d MX1_copyFrom [mR 1 y, mR 1 z] w (fun r u => r = none ∧ Off y w u ∧ YardAt u y (ua (ug D 0) 99)) := by
  show Ev l d MX1_copyFrom 0 [some (mR 1 y), some (mR 1 z)] [] w _
  have hzy : z ≠ y := Ne.symm hyz
  have c8 : (nI 8).toNatClampNeg = 8 := by decide
  have c64 : (nI 64).toNatClampNeg = 64 := by decide
  have c0 : (nI 0).toNatClampNeg = 0 := by decide
  have cp : ∀ (f g : Nat → Int32) (n j : Nat), j < n → va_cpy f g 0 0 n j = f j := fun f g n j hj => by
    rw [pk_cpy_in (Nat.zero_le _) (by omega)]
    simp
  refine Ev.blk kX1_copyFrom_0 rfl trivial ?_
  refine Ev.acp tX1_copyFrom_12 qX1_31 ⟨by decide, by decide, rfl, rfl⟩ ⟨by decide, by decide, by decide, by decide, by decide⟩ (by omega) (Nat.le_of_ble_eq_true rfl) ?_
  refine Ev.blk kX1_copyFrom_15 rfl trivial ?_
  refine Ev.acp tX1_copyFrom_27 qX1_31 ⟨by decide, by decide, rfl, rfl⟩ ⟨by decide, by decide, by decide, by decide, by decide⟩ (by omega) (Nat.le_of_ble_eq_true rfl) ?_
  refine Ev.blk kX1_copyFrom_30 rfl trivial ?_
  refine Ev.acp tX1_copyFrom_42 qX1_31 ⟨by decide, by decide, rfl, rfl⟩ ⟨by decide, by decide, by decide, by decide, by decide⟩ (by omega) (Nat.le_of_ble_eq_true rfl) ?_
  refine Ev.blk kX1_copyFrom_45 rfl trivial ?_
  refine Ev.acp tX1_copyFrom_57 qX1_31 ⟨by decide, by decide, rfl, rfl⟩ ⟨by decide, by decide, by decide, by decide, by decide⟩ (by omega) (Nat.le_of_ble_eq_true rfl) ?_
  refine Ev.blk kX1_copyFrom_60 rfl trivial ?_
  refine Ev.acp tX1_copyFrom_72 qX1_31 ⟨by decide, by decide, rfl, rfl⟩ ⟨by decide, by decide, by decide, by decide, by decide⟩ (by omega) (Nat.le_of_ble_eq_true rfl) ?_
  refine Ev.blk kX1_copyFrom_75 rfl trivial ?_
  refine Ev.vret tX1_copyFrom_117 rfl ?_
  refine ⟨rfl, ?_, ?_⟩
  · exact (Off.pA (by decide)).tr ((Off.pA (by decide)).tr ((Off.pA (by decide)).tr ((Off.pA (by decide)).tr ((Off.pA (by decide)).tr (Off.pf.tr (Off.pf.tr (Off.pf.tr (Off.pf.tr (Off.pf.tr Off.pf)))))))))
  · have n2 : ¬ (2 = 3 ∧ z = y) := by omega
    refine ⟨⟨fun j hj => ?_, fun j hj => ?_, fun j hj => ?_, fun j hj => ?_, fun j hj => ?_⟩, ?_, ?_, ?_, ?_, ?_, ?_⟩
    · simp only [mga_pf]
      simp (disch := omega) only [mga_pAn, mga_pA, c8, c0]
      rw [cp _ _ _ _ hj]
      exact hZ.k hj
    · simp only [mga_pf]
      simp (disch := omega) only [mga_pAn, mga_pA, c8, c0]
      rw [cp _ _ _ _ hj]
      exact hZ.c hj
    · simp only [mga_pf]
      simp (disch := omega) only [mga_pAn, mga_pA, c8, c0]
      rw [cp _ _ _ _ hj]
      exact hZ.f hj
    · simp only [mga_pf]
      simp (disch := omega) only [mga_pAn, mga_pA, c8, c0]
      rw [cp _ _ _ _ hj]
      exact hZ.t hj
    · simp only [mga_pf]
      simp (disch := omega) only [mga_pAn, mga_pA, c64, c0]
      rw [cp _ _ _ _ hj]
      exact hZ.r hj
    · simp (disch := omega) only [mgf_pfn, mgf_pf, mgf_pA]
      exact hZ.n
    · simp (disch := omega) only [mgf_pfn, mgf_pf, mgf_pA]
      exact hZ.s
    · simp (disch := omega) only [mgf_pfn, mgf_pf, mgf_pA]
      exact hZ.l
    · simp (disch := omega) only [mgf_pfn, mgf_pf, mgf_pA]
      exact hZ.e
    · simp (disch := omega) only [mgf_pfn, mgf_pf, mgf_pA]
      rfl
    · simp (disch := omega) only [mgf_pfn, mgf_pf, mgf_pA]
      rfl
theorem ev_tiredSum (hY : YardAt w y D) (hI : YI D) : Cl l d MX1_tiredSum [mR 1 y] w (fun r u => u = w ∧ r = some (mI (nI (sumN (dt D) (dn D))))) := by
  show Ev l d MX1_tiredSum 0 [some (mR 1 y), none, none] [] w _
  refine Ev.blk kX1_tiredSum_0 rfl trivial ?_
  have hn := hY.n
  have h8 := hI.1
  refine Ev.for (fun j L u => u = w ∧ L = [some (mR 1 y), some (mI (nI (sumN (dt D) j))), some (mI (nI j))]) (dn D) ?_ ?_ 0 (Nat.zero_le _) ⟨rfl, rfl⟩
  · rintro L u ⟨rfl, rfl⟩
    refine Ev.blk kX1_tiredSum_4 rfl trivial ?_
    simp only [hn]
    refine Ev.br tX1_tiredSum_9 rfl (fun c9 => ?_) (fun c9 => ?_)
    · refine Ev.blk kX1_tiredSum_27 rfl trivial ?_
      refine Ev.iret tX1_tiredSum_28 rfl rfl ?_
      exact ⟨rfl, rfl⟩
    · exact absurd (nI_le (Nat.le_refl _) (by omega)) c9
  · rintro j L u hj ⟨rfl, rfl⟩ k
    have hj8 : j < 8 := by omega
    refine Ev.blk kX1_tiredSum_4 rfl trivial ?_
    simp only [hn]
    refine Ev.br tX1_tiredSum_9 rfl (fun c9 => ?_) (fun c9 => ?_)
    · exact absurd c9 (nI_ge hj (by omega))
    · refine Ev.blk kX1_tiredSum_12 rfl ⟨trivial, vinN hj8 (by decide)⟩ ?_
      simp only [ix8 hj8, hY.t hj8, nI_add]
      refine Ev.jmp tX1_tiredSum_24 ?_
      exact k _ _ ⟨rfl, rfl⟩
theorem ev_freedSum (hY : YardAt w y D) : Cl l d MX1_freedSum [mR 1 y] w (fun r u => u = w ∧ r = some (mI (nI (sumN (dr D) 64)))) := by
  show Ev l d MX1_freedSum 0 [some (mR 1 y), none, none] [] w _
  refine Ev.blk kX1_freedSum_0 rfl trivial ?_
  refine Ev.for (fun j L u => u = w ∧ L = [some (mR 1 y), some (mI (nI (sumN (dr D) j))), some (mI (nI j))]) 64 ?_ ?_ 0 (Nat.zero_le _) ⟨rfl, rfl⟩
  · rintro L u ⟨rfl, rfl⟩
    refine Ev.blk kX1_freedSum_4 rfl trivial ?_
    refine Ev.br tX1_freedSum_10 rfl (fun c10 => ?_) (fun c10 => ?_)
    · refine Ev.blk kX1_freedSum_28 rfl trivial ?_
      refine Ev.iret tX1_freedSum_29 rfl rfl ?_
      exact ⟨rfl, rfl⟩
    · exact absurd (nI_le (Nat.le_refl _) (by decide)) c10
  · rintro j L u hj ⟨rfl, rfl⟩ k
    refine Ev.blk kX1_freedSum_4 rfl trivial ?_
    refine Ev.br tX1_freedSum_10 rfl (fun c10 => ?_) (fun c10 => ?_)
    · exact absurd c10 (nI_ge hj (by decide))
    · refine Ev.blk kX1_freedSum_13 rfl ⟨trivial, vinN hj (by decide)⟩ ?_
      simp only [ixN (show j < 1000 by omega), hY.r hj, nI_add]
      refine Ev.jmp tX1_freedSum_25 ?_
      exact k _ _ ⟨rfl, rfl⟩
theorem ev_hasPlayers (hY : YardAt w y D) (hI : YI D) (hd : 1 ≤ d) : Cl l d MX1_hasPlayers [mR 1 y] w (fun r u => u = w ∧ r = some (mI (bI (hasP D)))) := by
  show Ev l d MX1_hasPlayers 0 [some (mR 1 y)] [] w _
  refine Ev.blk kX1_hasPlayers_0 rfl trivial ?_
  refine Ev.cV (d1 := d - 1) (ev_playerBits hY hI) tX1_hasPlayers_1 qX1_62 rfl rfl (by decide) ⟨rfl, rfl, rfl⟩ (by omega) ?_
  rintro _ _ ⟨rfl, rfl⟩
  refine Ev.br tX1_hasPlayers_4 rfl (fun c4 => ?_) (fun c4 => ?_)
  · rw [pl_zero hI] at c4
    refine Ev.blk kX1_hasPlayers_11 rfl trivial ?_
    refine Ev.iret tX1_hasPlayers_12 rfl rfl ?_
    refine ⟨rfl, ?_⟩
    unfold hasP
    first
      | (rw [c4]; rfl)
      | (rw [beq_false_of_ne c4]; rfl)
  · rw [pl_zero hI] at c4
    refine Ev.blk kX1_hasPlayers_7 rfl trivial ?_
    refine Ev.jmp tX1_hasPlayers_8 ?_
    refine Ev.iret tX1_hasPlayers_12 rfl rfl ?_
    refine ⟨rfl, ?_⟩
    unfold hasP
    first
      | (rw [c4]; rfl)
      | (rw [beq_false_of_ne c4]; rfl)
theorem ev_isOver (hY : YardAt w y D) (hI : YI D) (hd : 2 ≤ d) : Cl l d MX1_isOver [mR 1 y] w (fun r u => u = w ∧ r = some (mI (bI (ovr D)))) := by
  show Ev l d MX1_isOver 0 [some (mR 1 y)] [] w _
  refine Ev.blk kX1_isOver_0 rfl trivial ?_
  refine Ev.cV (d1 := d - 1) (ev_hasPlayers hY hI (by omega)) tX1_isOver_1 qX1_66 rfl rfl (by decide) ⟨rfl, rfl, rfl⟩ (by omega) ?_
  rintro _ _ ⟨rfl, rfl⟩
  refine Ev.br tX1_isOver_4 rfl (fun c4 => ?_) (fun c4 => ?_)
  · rw [bI_0] at c4
    refine Ev.blk kX1_isOver_22 rfl trivial ?_
    refine Ev.iret tX1_isOver_23 rfl rfl ?_
    refine ⟨rfl, ?_⟩
    unfold ovr
    first
      | (rw [c4]; rfl)
      | (rw [hp, decide_eq_true (Decidable.not_not.mp c15)]; rfl)
      | (rw [hp, decide_eq_false (Decidable.not_not.mp c15)]; rfl)
  · rw [bI_0] at c4
    have hp : hasP D = true := by cases hz : hasP D; exact absurd hz c4; rfl
    refine Ev.blk kX1_isOver_7 rfl trivial ?_
    simp only [hY.s]
    refine Ev.cV (d1 := d - 1) (ev_playerBits hY hI) tX1_isOver_12 qX1_62 rfl rfl (by decide) ⟨rfl, rfl, rfl⟩ (by omega) ?_
    rintro _ _ ⟨rfl, rfl⟩
    refine Ev.br tX1_isOver_15 rfl (fun c15 => ?_) (fun c15 => ?_)
    · rw [pl_all hI] at c15
      refine Ev.blk kX1_isOver_22 rfl trivial ?_
      refine Ev.iret tX1_isOver_23 rfl rfl ?_
      refine ⟨rfl, ?_⟩
      unfold ovr
      first
        | (rw [c4]; rfl)
        | (rw [hp, decide_eq_true (Decidable.not_not.mp c15)]; rfl)
        | (rw [hp, decide_eq_false (Decidable.not_not.mp c15)]; rfl)
    · rw [pl_all hI] at c15
      refine Ev.blk kX1_isOver_18 rfl trivial ?_
      refine Ev.jmp tX1_isOver_19 ?_
      refine Ev.iret tX1_isOver_23 rfl rfl ?_
      refine ⟨rfl, ?_⟩
      unfold ovr
      first
        | (rw [c4]; rfl)
        | (rw [hp, decide_eq_true (Decidable.not_not.mp c15)]; rfl)
        | (rw [hp, decide_eq_false (Decidable.not_not.mp c15)]; rfl)
theorem ev_catcherCount (hY : YardAt w y D) (hI : YI D) (hd : 1 ≤ d) : Cl l d MX1_catcherCount [mR 1 y] w (fun r u => u = w ∧ r = some (mI (nI (dn D - plN D)))) := by
  show Ev l d MX1_catcherCount 0 [some (mR 1 y)] [] w _
  refine Ev.blk kX1_catcherCount_0 rfl trivial ?_
  simp only [hY.n]
  refine Ev.cV (d1 := d - 1) (ev_playerBits hY hI) tX1_catcherCount_5 qX1_62 rfl rfl (by decide) ⟨rfl, rfl, rfl⟩ (by omega) ?_
  rintro _ _ ⟨rfl, rfl⟩
  refine Ev.cS (d1 := d - 1) (ev_bitCount (plq D)) tX1_catcherCount_8 qX1_56 rfl ⟨rfl, rfl, rfl⟩ (by omega) ?_
  rintro _ _ ⟨rfl, rfl⟩
  refine Ev.blk kX1_catcherCount_11 rfl trivial ?_
  rw [cnt_pl hI, pk_sub (show plN D ≤ dn D from cnt_le _ _)]
  refine Ev.iret tX1_catcherCount_12 rfl rfl ?_
  exact ⟨rfl, rfl⟩
theorem ev_add (hY : YardAt w y D) (hI : YI D) (hd : 2 ≤ d) {k c f : Nat} (hk : k < 1000) (hc : c < 1000) (hf : f < 1000) : Cl l d MX1_add [mR 1 y, mI (nI k), mI (nI c), mI (nI f)] w (fun r u => r = some (mI (bI (addB D k c f))) ∧ Off y w u ∧ YardAt u y (if addB D k c f then addY D k c f else D)) := by
  show Ev l d MX1_add 0 [some (mR 1 y), some (mI (nI k)), some (mI (nI c)), some (mI (nI f)), none] [] w _
  have h8 := hI.1
  have no : addB D k c f = false → Ev l d MX1_add 51 [some (mR 1 y), some (mI (nI k)), some (mI (nI c)), some (mI (nI f)), some (mI (nI 0))] [] w (fun r u => r = some (mI (bI (addB D k c f))) ∧ Off y w u ∧ YardAt u y (if addB D k c f then addY D k c f else D)) ∧ Ev l d MX1_add 51 [some (mR 1 y), some (mI (nI k)), some (mI (nI c)), some (mI (nI f)), some (mI (nI 1))] [] w (fun r u => r = some (mI (bI (addB D k c f))) ∧ Off y w u ∧ YardAt u y (if addB D k c f then addY D k c f else D)) := by
    intro h
    rw [h]
    refine ⟨?_, ?_⟩
    · refine Ev.blk kX1_add_51 rfl trivial ?_
      exact Ev.iret tX1_add_52 rfl rfl ⟨rfl, Off.rf, hY⟩
    · refine Ev.blk kX1_add_51 rfl trivial ?_
      exact Ev.iret tX1_add_52 rfl rfl ⟨rfl, Off.rf, hY⟩
  have ok : k < 8 → c < 24 → f < 8 → Ev l d MX1_add 42 [some (mR 1 y), some (mI (nI k)), some (mI (nI c)), some (mI (nI f)), some (mI (nI 1))] [] w (fun r u => r = some (mI (bI (addB D k c f))) ∧ Off y w u ∧ YardAt u y (if addB D k c f then addY D k c f else D)) := by
    intro g1 g2 g3
    refine Ev.blk kX1_add_42 rfl trivial ?_
    simp only [hY.n]
    refine Ev.br tX1_add_48 rfl (fun c48 => ?_) (fun c48 => ?_)
    · rw [nI_ltI (by omega) (by omega)] at c48
      have hb : addB D k c f = true := by unfold addB; simp; omega
      have hn1 : ∀ (g : Nat → Int32) t, mgf (mpA w t y g) 1 y 5 = nI (dn D) := fun g t => hY.n
      rw [hb]
      refine Ev.blk kX1_add_53 rfl ⟨⟨⟨trivial, by rw [hY.n]; exact vinN c48 (by decide)⟩, by simp only [mgf_pA]; rw [hY.n]; exact vinN c48 (by decide)⟩, by simp only [mgf_pA]; rw [hY.n]; exact vinN c48 (by decide)⟩ ?_
      simp only [mgf_pA, hY.n, ix8 c48, nI_add]
      refine Ev.iret tX1_add_94 rfl rfl ⟨rfl, (Off.pA (by decide)).tr ((Off.pA (by decide)).tr ((Off.pA (by decide)).tr Off.pf)), ?_⟩
      have h1 := hY.pk (i := dn D) (v := k)
      have h2 := h1.pc (i := dn D) (v := c)
      have h3 := h2.pF (i := dn D) (v := f)
      exact h3.pN (x := dn D + 1)
    · rw [nI_ltI (by omega) (by omega)] at c48
      exact (no (by unfold addB; simp; omega)).2
  refine Ev.blk kX1_add_0 rfl trivial ?_
  refine Ev.br tX1_add_1 rfl (fun c1 => ?_) (fun c1 => ?_)
  · rw [nI_ltI (by omega) (by omega)] at c1
    omega
  · try simp (disch := omega) only [nI_eq, nI_leI, nI_ltI, Classical.not_not] at c1
    refine Ev.blk kX1_add_4 rfl trivial ?_
    refine Ev.cV (d1 := d - 1) (ev_strlen (k := 5) (by omega) (by decide)) tX1_add_7 qX1_72 rfl rfl (by decide) ⟨rfl, rfl, rfl⟩ (by omega) ?_
    rintro _ _ ⟨rfl, rfl⟩
    show Ev l d MX1_add 10 _ [mI (nI 8), mI (nI k)] _ _
    refine Ev.br tX1_add_10 rfl (fun c10 => ?_) (fun c10 => ?_)
    · try simp (disch := omega) only [nI_eq, nI_leI, nI_ltI, Classical.not_not] at c10
      refine Ev.blk kX1_add_34 rfl trivial ?_
      refine Ev.bb kX1_add_35 tX1_add_39 rfl rfl trivial (fun c39 => ?_) (fun c39 => ?_)
      · first
          | exact absurd c39 (by decide)
          | exact (no (by unfold addB; simp; omega)).1
      · first
          | exact absurd rfl c39
          | exact ok (by omega) (by omega) (by omega)
    · try simp (disch := omega) only [nI_eq, nI_leI, nI_ltI, Classical.not_not] at c10
      refine Ev.blk kX1_add_13 rfl trivial ?_
      refine Ev.cS (d1 := d - 1) (ev_isCell (nI c)) tX1_add_14 qX1_77 rfl ⟨rfl, rfl, rfl⟩ (by omega) ?_
      rintro _ _ ⟨rfl, rfl⟩
      refine Ev.br tX1_add_17 rfl (fun c17 => ?_) (fun c17 => ?_)
      · rw [bI_0] at c17
        simp (disch := omega) only [nI_leI, nI_ltI, decide_eq_false_iff_not] at c17
        refine Ev.blk kX1_add_34 rfl trivial ?_
        refine Ev.bb kX1_add_35 tX1_add_39 rfl rfl trivial (fun c39 => ?_) (fun c39 => ?_)
        · first
            | exact absurd c39 (by decide)
            | exact (no (by unfold addB; simp; omega)).1
        · first
            | exact absurd rfl c39
            | exact ok (by omega) (by omega) (by omega)
      · rw [bI_0] at c17
        simp (disch := omega) only [nI_leI, nI_ltI, decide_eq_false_iff_not, Classical.not_not] at c17
        refine Ev.blk kX1_add_20 rfl trivial ?_
        refine Ev.br tX1_add_21 rfl (fun c21 => ?_) (fun c21 => ?_)
        · rw [nI_ltI (by omega) (by omega)] at c21
          omega
        · try simp (disch := omega) only [nI_eq, nI_leI, nI_ltI, Classical.not_not] at c21
          refine Ev.blk kX1_add_24 rfl trivial ?_
          refine Ev.br tX1_add_27 rfl (fun c27 => ?_) (fun c27 => ?_)
          · try simp (disch := omega) only [nI_eq, nI_leI, nI_ltI, Classical.not_not] at c27
            refine Ev.blk kX1_add_34 rfl trivial ?_
            refine Ev.bb kX1_add_35 tX1_add_39 rfl rfl trivial (fun c39 => ?_) (fun c39 => ?_)
            · first
                | exact absurd c39 (by decide)
                | exact (no (by unfold addB; simp; omega)).1
            · first
                | exact absurd rfl c39
                | exact ok (by omega) (by omega) (by omega)
          · try simp (disch := omega) only [nI_eq, nI_leI, nI_ltI, Classical.not_not] at c27
            refine Ev.blk kX1_add_30 rfl trivial ?_
            refine Ev.jmp tX1_add_31 ?_
            refine Ev.bb kX1_add_35 tX1_add_39 rfl rfl trivial (fun c39 => ?_) (fun c39 => ?_)
            · first
                | exact absurd c39 (by decide)
                | exact (no (by unfold addB; simp; omega)).1
            · first
                | exact absurd rfl c39
                | exact ok (by omega) (by omega) (by omega)
theorem ev_turnOver (hY : YardAt w y D) (hI : YI D) (hd : 2 ≤ d) {i : Nat} (hi : i < 1000) : Cl l d MX1_turnOver [mR 1 y, mI (nI i)] w (fun r u => r = some (mI (bI (decide (i < dn D) && !isC D i))) ∧ Off y w u ∧ YardAt u y (if (decide (i < dn D) && !isC D i) = true then us D (va_up (ds D) i (!ds D i)) else D)) := by
  show Ev l d MX1_turnOver 0 [some (mR 1 y), some (mI (nI i))] [] w _
  have h8 := hI.1
  have hh : hasI D (nI i) = decide (i < dn D) := hasI_nat hi h8
  refine Ev.blk kX1_turnOver_0 rfl trivial ?_
  refine Ev.cV (d1 := d - 1) (ev_has hY (nI i)) tX1_turnOver_2 qX1_52 rfl rfl (by decide) ⟨rfl, rfl, rfl⟩ (by omega) ?_
  rintro _ _ ⟨rfl, rfl⟩
  refine Ev.br tX1_turnOver_5 rfl (fun c5 => ?_) (fun c5 => ?_)
  · rw [bI_0, hh] at c5
    have hb : (decide (i < dn D) && !isC D i) = false := by rw [c5]; rfl
    refine Ev.blk kX1_turnOver_16 rfl trivial ?_
    refine Ev.iret tX1_turnOver_17 rfl rfl ?_
    rw [hb]
    exact ⟨rfl, Off.rf, hY⟩
  · rw [bI_0, hh] at c5
    have hin : i < dn D := by simpa using c5
    refine Ev.blk kX1_turnOver_8 rfl trivial ?_
    refine Ev.cV (d1 := d - 1) (ev_isCatcher hY hI (by omega) hin) tX1_turnOver_10 qX1_80 rfl rfl (by decide) ⟨rfl, rfl, rfl⟩ (by omega) ?_
    rintro _ _ ⟨rfl, rfl⟩
    refine Ev.br tX1_turnOver_13 rfl (fun c13 => ?_) (fun c13 => ?_)
    · rw [bI_0] at c13
      have hb : (decide (i < dn D) && !isC D i) = true := by rw [c13]; simp [hin]
      refine Ev.blk kX1_turnOver_18 rfl trivial ?_
      rw [hY.s, b_xor (by omega)]
      refine Ev.iret tX1_turnOver_31 rfl rfl ?_
      rw [hb]
      exact ⟨rfl, Off.pf, hY.pS⟩
    · rw [bI_0] at c13
      have hb : (decide (i < dn D) && !isC D i) = false := by cases hz : isC D i; exact absurd hz c13; simp
      refine Ev.blk kX1_turnOver_16 rfl trivial ?_
      refine Ev.iret tX1_turnOver_17 rfl rfl ?_
      rw [hb]
      exact ⟨rfl, Off.rf, hY⟩
theorem ev_setLaw (hY : YardAt w y D) {v : Nat} (hv : v < 4) : Cl l d MX1_setLaw [mR 1 y, mI (nI v)] w (fun r u => r = some (mI (nI 1)) ∧ Off y w u ∧ YardAt u y (ul D v)) := by
  show Ev l d MX1_setLaw 0 [some (mR 1 y), some (mI (nI v))] [] w _
  refine Ev.blk kX1_setLaw_0 rfl trivial ?_
  refine Ev.br tX1_setLaw_1 rfl (fun c1 => ?_) (fun c1 => ?_)
  · rw [nI_ltI (by omega) (by omega)] at c1
    omega
  · refine Ev.blk kX1_setLaw_4 rfl trivial ?_
    refine Ev.br tX1_setLaw_6 rfl (fun c6 => ?_) (fun c6 => ?_)
    · refine Ev.blk kX1_setLaw_11 rfl trivial ?_
      refine Ev.iret tX1_setLaw_17 rfl rfl ?_
      exact ⟨rfl, Off.pf, hY.pL⟩
    · rw [nI_ltI (by omega) (by omega)] at c6
      omega
theorem ev_setLaw_no {v : Int32} (hv : v < nI 0 ∨ nI 4 ≤ v) : Cl l d MX1_setLaw [mR 1 y, mI v] w (fun r u => r = some (mI (nI 0)) ∧ u = w) := by
  show Ev l d MX1_setLaw 0 [some (mR 1 y), some (mI v)] [] w _
  refine Ev.blk kX1_setLaw_0 rfl trivial ?_
  refine Ev.br tX1_setLaw_1 rfl (fun c1 => ?_) (fun c1 => ?_)
  · refine Ev.blk kX1_setLaw_9 rfl trivial ?_
    refine Ev.iret tX1_setLaw_10 rfl rfl ?_
    exact ⟨rfl, rfl⟩
  · refine Ev.blk kX1_setLaw_4 rfl trivial ?_
    refine Ev.br tX1_setLaw_6 rfl (fun c6 => ?_) (fun c6 => ?_)
    · exact absurd hv (by intro z; rcases z with z | z; exact c1 z; exact (Int32.not_le.mpr c6) z)
    · refine Ev.blk kX1_setLaw_9 rfl trivial ?_
      refine Ev.iret tX1_setLaw_10 rfl rfl ?_
      exact ⟨rfl, rfl⟩
theorem ev_put (hY : YardAt w y D) (hI : YI D) (hd : 1 ≤ d) {i c : Nat} (hi : i < 1000) (hc : c < 1000) : Cl l d MX1_put [mR 1 y, mI (nI i), mI (nI c)] w (fun r u => r = some (mI (bI (decide (i < dn D) && decide (c < 24)))) ∧ Off y w u ∧ YardAt u y (if (decide (i < dn D) && decide (c < 24)) = true then uc D (va_up (dc D) i c) else D)) := by
  show Ev l d MX1_put 0 [some (mR 1 y), some (mI (nI i)), some (mI (nI c))] [] w _
  have h8 := hI.1
  have hh : hasI D (nI i) = decide (i < dn D) := hasI_nat hi h8
  refine Ev.blk kX1_put_0 rfl trivial ?_
  refine Ev.cV (d1 := d - 1) (ev_has hY (nI i)) tX1_put_2 qX1_52 rfl rfl (by decide) ⟨rfl, rfl, rfl⟩ (by omega) ?_
  rintro _ _ ⟨rfl, rfl⟩
  refine Ev.br tX1_put_5 rfl (fun c5 => ?_) (fun c5 => ?_)
  · rw [bI_0, hh] at c5
    have hb : (decide (i < dn D) && decide (c < 24)) = false := by rw [c5]; rfl
    refine Ev.blk kX1_put_15 rfl trivial ?_
    refine Ev.iret tX1_put_16 rfl rfl ?_
    rw [hb]
    exact ⟨rfl, Off.rf, hY⟩
  · rw [bI_0, hh] at c5
    have hin : i < dn D := by simpa using c5
    refine Ev.blk kX1_put_8 rfl trivial ?_
    refine Ev.cS (d1 := d - 1) (ev_isCell (nI c)) tX1_put_9 qX1_77 rfl ⟨rfl, rfl, rfl⟩ (by omega) ?_
    rintro _ _ ⟨rfl, rfl⟩
    refine Ev.br tX1_put_12 rfl (fun c12 => ?_) (fun c12 => ?_)
    · rw [bI_0] at c12
      simp (disch := omega) only [nI_leI, nI_ltI, decide_eq_false_iff_not, Classical.not_not] at c12
      have hb : (decide (i < dn D) && decide (c < 24)) = true := by simp; omega
      refine Ev.blk kX1_put_17 rfl ⟨trivial, vinN (show i < 8 by omega) (by decide)⟩ ?_
      simp only [ixN hi]
      refine Ev.iret tX1_put_25 rfl rfl ?_
      rw [hb]
      exact ⟨rfl, Off.pA (by decide), hY.pc⟩
    · rw [bI_0] at c12
      simp (disch := omega) only [nI_leI, nI_ltI, decide_eq_false_iff_not, Classical.not_not] at c12
      have hb : (decide (i < dn D) && decide (c < 24)) = false := by simp; omega
      refine Ev.blk kX1_put_15 rfl trivial ?_
      refine Ev.iret tX1_put_16 rfl rfl ?_
      rw [hb]
      exact ⟨rfl, Off.rf, hY⟩
theorem ev_setKind (hY : YardAt w y D) (hI : YI D) (hd : 1 ≤ d) {i k : Nat} (hi : i < dn D) : Cl l d MX1_setKind [mR 1 y, mI (nI i), mI (nI k)] w (fun r u => r = none ∧ Off y w u ∧ YardAt u y (uk D (va_up (dk D) i k))) := by
  show Ev l d MX1_setKind 0 [some (mR 1 y), some (mI (nI i)), some (mI (nI k))] [] w _
  have h8 := hI.1
  have hi8 : i < 8 := by omega
  refine Ev.blk kX1_setKind_0 rfl trivial ?_
  refine Ev.cV (d1 := d - 1) (ev_has_i hY h8 hi) tX1_setKind_2 qX1_52 rfl rfl (by decide) ⟨rfl, rfl, rfl⟩ (by omega) ?_
  rintro _ _ ⟨rfl, rfl⟩
  refine Ev.br tX1_setKind_5 rfl (fun c5 => ?_) (fun c5 => ?_)
  · exact absurd c5 (by decide)
  · refine Ev.blk kX1_setKind_8 rfl ⟨trivial, vinN hi8 (by decide)⟩ ?_
    simp only [ix8 hi8]
    refine Ev.vret tX1_setKind_15 rfl ?_
    exact ⟨rfl, Off.pA (by decide), hY.pk⟩
theorem ev_setAside (hY : YardAt w y D) {i : Nat} (hi : i < 8) : Cl l d MX1_setAside [mR 1 y, mI (nI i)] w (fun r u => r = none ∧ Off y w u ∧ YardAt u y (ua D i)) := by
  show Ev l d MX1_setAside 0 [some (mR 1 y), some (mI (nI i))] [] w _
  refine Ev.blk kX1_setAside_0 rfl trivial ?_
  refine Ev.vret tX1_setAside_5 rfl ?_
  exact ⟨rfl, Off.pf, hY.pa (by unfold enA; rw [if_pos hi])⟩
theorem ev_exchange (hY : YardAt w y D) (hI : YI D) (hd : 1 ≤ d) {i j : Nat} (hi : i < dn D) (hj : j < dn D) (hij : i ≠ j) : Cl l d MX1_exchange [mR 1 y, mI (nI i), mI (nI j)] w (fun r u => r = none ∧ Off y w u ∧ YardAt u y (us (uk D (va_up (va_up (dk D) i (dk D j)) j (dk D i))) (va_up (ds D) j false))) := by
  show Ev l d MX1_exchange 0 [some (mR 1 y), some (mI (nI i)), some (mI (nI j)), none] [] w _
  have h8 := hI.1
  have hi8 : i < 8 := by omega
  have hj8 : j < 8 := by omega
  have h1 := hY.pk (i := i) (v := dk D j)
  have h2 := h1.pk (i := j) (v := dk D i)
  refine Ev.blk kX1_exchange_0 rfl trivial ?_
  refine Ev.cV (d1 := d - 1) (ev_has_i hY h8 hi) tX1_exchange_2 qX1_52 rfl rfl (by decide) ⟨rfl, rfl, rfl⟩ (by omega) ?_
  rintro _ _ ⟨rfl, rfl⟩
  refine Ev.br tX1_exchange_5 rfl (fun c5 => ?_) (fun c5 => ?_)
  · exact absurd c5 (by decide)
  · refine Ev.blk kX1_exchange_8 rfl trivial ?_
    refine Ev.cV (d1 := d - 1) (ev_has_i hY h8 hj) tX1_exchange_10 qX1_52 rfl rfl (by decide) ⟨rfl, rfl, rfl⟩ (by omega) ?_
    rintro _ _ ⟨rfl, rfl⟩
    refine Ev.br tX1_exchange_13 rfl (fun c13 => ?_) (fun c13 => ?_)
    · exact absurd c13 (by decide)
    · refine Ev.blk kX1_exchange_16 rfl ⟨⟨⟨⟨trivial, vinN hi8 (by decide)⟩, vinN hj8 (by decide)⟩, vinN hi8 (by decide)⟩, vinN hj8 (by decide)⟩ ?_
      simp only [ix8 hi8, ix8 hj8, hY.k hi8, hY.k hj8]
      refine Ev.cV (d1 := d - 1) (ev_letRun h2 hj8) tX1_exchange_44 qX1_83 rfl rfl (by decide) ⟨rfl, rfl, rfl⟩ (by omega) ?_
      rintro _ _ ⟨rfl, ho, hE⟩
      refine Ev.vret tX1_exchange_47 rfl ?_
      exact ⟨rfl, (Off.pA (by decide)).tr ((Off.pA (by decide)).tr ho), hE⟩
theorem ev_scatter (hY : YardAt w y D) (hI : YI D) (z : Int32) : Cl l d MX1_scatter [mR 1 y, mI z] w (fun r u => r = some (mI (sct D z (dn D)).1) ∧ Off y w u ∧ YardAt u y (us (ut (uc D (sct D z (dn D)).2) (fun _ => 0)) (fun _ => false))) := by
  show Ev l d MX1_scatter 0 [some (mR 1 y), some (mI z), none, none] [] w _
  refine Ev.blk kX1_scatter_0 rfl trivial ?_
  have h8 := hI.1
  refine Ev.for (fun j L u => Off y w u ∧ YardAt u y (ut (uc D (sct D z j).2) (fun o => if o < j then 0 else dt D o)) ∧ L = [some (mR 1 y), some (mI z), some (mI (sct D z j).1), some (mI (nI j))]) (dn D) ?_ ?_ 0 (Nat.zero_le _) ⟨Off.rf, by
    have e : (fun o => if o < 0 then 0 else dt D o) = dt D := by funext o; simp
    rw [e]
    exact hY, rfl⟩
  · rintro L u ⟨ho, hE, rfl⟩
    have hn : mgf u 1 y 5 = nI (dn D) := hE.n
    have e : (fun o => if o < dn D then 0 else dt D o) = fun _ => 0 := by
      funext o
      split
      · rfl
      · exact hI.2.2.2.2.1 o (by omega)
    rw [e] at hE
    refine Ev.blk kX1_scatter_4 rfl trivial ?_
    simp only [hn]
    refine Ev.br tX1_scatter_9 rfl (fun c9 => ?_) (fun c9 => ?_)
    · refine Ev.blk kX1_scatter_50 rfl trivial ?_
      rw [b_zero]
      refine Ev.iret tX1_scatter_56 rfl rfl ?_
      exact ⟨rfl, ho.tr Off.pf, hE.pS⟩
    · exact absurd (nI_le (Nat.le_refl _) (by omega)) c9
  · rintro j L u hj ⟨ho, hE, rfl⟩ k
    have hj8 : j < 8 := by omega
    have hn : mgf u 1 y 5 = nI (dn D) := hE.n
    have h1 := hE.pc (i := j) (v := lcl (lz (sct D z j).1))
    have h2 := h1.pt (i := j) (v := 0)
    have hl := lcl_ok (lz (sct D z j).1)
    unfold lz at hl
    refine Ev.blk kX1_scatter_4 rfl trivial ?_
    simp only [hn]
    refine Ev.br tX1_scatter_9 rfl (fun c9 => ?_) (fun c9 => ?_)
    · exact absurd c9 (nI_ge hj (by omega))
    · refine Ev.blk kX1_scatter_12 rfl ⟨⟨⟨⟨trivial, by decide⟩, by decide⟩, vinN hj8 (by decide)⟩, vinN hj8 (by decide)⟩ ?_
      simp only [ix8 hj8, nI_add, hl]
      refine Ev.jmp tX1_scatter_47 ?_
      refine k _ _ ⟨ho.tr ((Off.pA (by decide)).tr (Off.pA (by decide))), ?_, rfl⟩
      have e : (fun o => if o < j + 1 then 0 else dt D o) = va_up (fun o => if o < j then 0 else dt D o) j 0 := by
        funext o
        unfold va_up
        by_cases h : o = j
        · subst h; simp
        · have : (o < j + 1) = (o < j) := by apply propext; omega
          rw [if_neg h]
          simp only [this]
      rw [e]
      exact h2
theorem ev_couldFree (hY : YardAt w y D) (hI : YI D) (hd : 2 ≤ d) {i : Nat} (hi : i < dn D) : Cl l d MX1_couldFree [mR 1 y, mI (nI i)] w (fun r u => u = w ∧ r = some (mI (oM9 (if ds D i then none else nearMay D i)))) := by
  show Ev l d MX1_couldFree 0 [some (mR 1 y), some (mI (nI i)), none] [] w _
  have h8 := hI.1
  have hlb := ev_leastBeside (l := l) (d := d - 1) hY hI (by omega) hi (wnt D i)
  rw [show fst1 (fun o => wnt D i o && decide (far (dc D i) (dc D o) ≤ 1)) (dn D) = nearMay D i from rfl] at hlb
  cases hn : nearMay D i with
  | none =>
    rw [hn] at hlb
    refine Ev.blk kX1_couldFree_0 rfl trivial ?_
    refine Ev.cV (d1 := d - 1) (ev_has_i hY h8 hi) tX1_couldFree_2 qX1_52 rfl rfl (by decide) ⟨rfl, rfl, rfl⟩ (by omega) ?_
    rintro _ _ ⟨rfl, rfl⟩
    refine Ev.br tX1_couldFree_5 rfl (fun c5 => ?_) (fun c5 => ?_)
    · exact absurd c5 (by decide)
    · refine Ev.blk kX1_couldFree_8 rfl trivial ?_
      refine Ev.cV (d1 := d - 1) (ev_isStanding hY hI (by omega) hi) tX1_couldFree_10 qX1_90 rfl rfl (by decide) ⟨rfl, rfl, rfl⟩ (by omega) ?_
      rintro _ _ ⟨rfl, rfl⟩
      refine Ev.br tX1_couldFree_13 rfl (fun c13 => ?_) (fun c13 => ?_)
      · refine Ev.blk kX1_couldFree_19 rfl trivial ?_
        simp only [hY.s]
        refine Ev.cV (d1 := d - 1) (ev_freeableBits hY hI hi) tX1_couldFree_27 qX1_93 rfl rfl (by decide) ⟨rfl, rfl, rfl⟩ (by omega) ?_
        rintro _ _ ⟨rfl, rfl⟩
        refine Ev.blk kX1_couldFree_30 rfl trivial ?_
        rw [b_frb hI hi]
        refine Ev.cV (d1 := d - 1) (hlb) tX1_couldFree_31 qX1_96 rfl rfl (by decide) ⟨rfl, rfl, rfl⟩ (by omega) ?_
        rintro _ _ ⟨rfl, rfl⟩
        refine Ev.blk kX1_couldFree_34 rfl trivial ?_
        refine Ev.br tX1_couldFree_37 rfl (fun c37 => ?_) (fun c37 => ?_)
        · exact absurd rfl c37
        · refine Ev.blk kX1_couldFree_40 rfl trivial ?_
          refine Ev.jmp tX1_couldFree_42 ?_
          refine Ev.iret tX1_couldFree_46 rfl rfl ?_
          exact ⟨rfl, by split <;> rfl⟩
      · refine Ev.blk kX1_couldFree_16 rfl trivial ?_
        refine Ev.iret tX1_couldFree_18 rfl rfl ?_
        exact ⟨rfl, by split <;> rfl⟩
  | some o =>
    rw [hn] at hlb
    have hol := (fst1_spec hn).1
    refine Ev.blk kX1_couldFree_0 rfl trivial ?_
    refine Ev.cV (d1 := d - 1) (ev_has_i hY h8 hi) tX1_couldFree_2 qX1_52 rfl rfl (by decide) ⟨rfl, rfl, rfl⟩ (by omega) ?_
    rintro _ _ ⟨rfl, rfl⟩
    refine Ev.br tX1_couldFree_5 rfl (fun c5 => ?_) (fun c5 => ?_)
    · exact absurd c5 (by decide)
    · refine Ev.blk kX1_couldFree_8 rfl trivial ?_
      refine Ev.cV (d1 := d - 1) (ev_isStanding hY hI (by omega) hi) tX1_couldFree_10 qX1_90 rfl rfl (by decide) ⟨rfl, rfl, rfl⟩ (by omega) ?_
      rintro _ _ ⟨rfl, rfl⟩
      refine Ev.br tX1_couldFree_13 rfl (fun c13 => ?_) (fun c13 => ?_)
      · rw [bI_0] at c13
        refine Ev.blk kX1_couldFree_19 rfl trivial ?_
        simp only [hY.s]
        refine Ev.cV (d1 := d - 1) (ev_freeableBits hY hI hi) tX1_couldFree_27 qX1_93 rfl rfl (by decide) ⟨rfl, rfl, rfl⟩ (by omega) ?_
        rintro _ _ ⟨rfl, rfl⟩
        refine Ev.blk kX1_couldFree_30 rfl trivial ?_
        rw [b_frb hI hi]
        refine Ev.cV (d1 := d - 1) (hlb) tX1_couldFree_31 qX1_96 rfl rfl (by decide) ⟨rfl, rfl, rfl⟩ (by omega) ?_
        rintro _ _ ⟨rfl, rfl⟩
        refine Ev.blk kX1_couldFree_34 rfl trivial ?_
        refine Ev.br tX1_couldFree_37 rfl (fun c37 => ?_) (fun c37 => ?_)
        · refine Ev.blk kX1_couldFree_45 rfl trivial ?_
          refine Ev.iret tX1_couldFree_46 rfl rfl ?_
          exact ⟨rfl, by rw [c13]; rfl⟩
        · exact absurd c37 (by intro z; exact z (nI_nm1 (by omega)))
      · rw [bI_0] at c13
        have hs : ds D i = true := by cases hz : ds D i; exact absurd hz c13; rfl
        refine Ev.blk kX1_couldFree_16 rfl trivial ?_
        refine Ev.iret tX1_couldFree_18 rfl rfl ?_
        exact ⟨rfl, by rw [hs]; rfl⟩
theorem ev_hasFreerFor (hY : YardAt w y D) (hI : YI D) (hd : 1 ≤ d) {i : Nat} (hi : i < dn D) : Cl l d MX1_hasFreerFor [mR 1 y, mI (nI i)] w (fun r u => u = w ∧ r = some (mI (bI (hfr D i)))) := by
  show Ev l d MX1_hasFreerFor 0 [some (mR 1 y), some (mI (nI i)), none] [] w _
  refine Ev.blk kX1_hasFreerFor_0 rfl trivial ?_
  have hn := hY.n
  have h8 := hI.1
  have hi8 : i < 8 := by omega
  refine Ev.for (fun j L u => u = w ∧ L = [some (mR 1 y), some (mI (nI i)), some (mI (nI j))] ∧ fst1 (fun o => !(o == i) && mayK D o i) j = none) (dn D) ?_ ?_ 0 (Nat.zero_le _) ⟨rfl, rfl, rfl⟩
  · rintro L u ⟨rfl, rfl, h0⟩
    refine Ev.blk kX1_hasFreerFor_2 rfl trivial ?_
    simp only [hn]
    refine Ev.br tX1_hasFreerFor_7 rfl (fun c7 => ?_) (fun c7 => ?_)
    · refine Ev.blk kX1_hasFreerFor_36 rfl trivial ?_
      refine Ev.iret tX1_hasFreerFor_37 rfl rfl ?_
      exact ⟨rfl, by unfold hfr; rw [h0]; rfl⟩
    · exact absurd (nI_le (Nat.le_refl _) (by omega)) c7
  · rintro j L u hj ⟨rfl, rfl, h0⟩ k
    have nx : (!(j == i) && mayK D j i) = false → fst1 (fun o => !(o == i) && mayK D o i) (j + 1) = none := by
      intro h
      unfold fst1
      rw [h0]
      simp only [h]
      rfl
    refine Ev.blk kX1_hasFreerFor_2 rfl trivial ?_
    simp only [hn]
    refine Ev.br tX1_hasFreerFor_7 rfl (fun c7 => ?_) (fun c7 => ?_)
    · exact absurd c7 (nI_ge hj (by omega))
    · try simp (disch := omega) only [nI_eq, nI_leI, nI_ltI, Classical.not_not] at c7
      refine Ev.blk kX1_hasFreerFor_10 rfl trivial ?_
      refine Ev.br tX1_hasFreerFor_12 rfl (fun c12 => ?_) (fun c12 => ?_)
      · try simp (disch := omega) only [nI_eq, nI_leI, nI_ltI, Classical.not_not] at c12
        refine Ev.blk kX1_hasFreerFor_30 rfl trivial ?_
        refine Ev.jmp tX1_hasFreerFor_33 ?_
        refine k _ _ ⟨rfl, by rw [nI_add], nx ?_⟩
        first
          | (rw [hm]; simp; done)
          | (rw [c12]; simp; done)
      · try simp (disch := omega) only [nI_eq, nI_leI, nI_ltI, Classical.not_not] at c12
        refine Ev.blk kX1_hasFreerFor_15 rfl trivial ?_
        refine Ev.cV (d1 := d - 1) (ev_freeableBits hY hI hj) tX1_hasFreerFor_17 qX1_93 rfl rfl (by decide) ⟨rfl, rfl, rfl⟩ (by omega) ?_
        rintro _ _ ⟨rfl, rfl⟩
        refine Ev.blk kX1_hasFreerFor_20 rfl trivial ?_
        rw [frb_at hI hj hi8]
        refine Ev.br tX1_hasFreerFor_25 rfl (fun c25 => ?_) (fun c25 => ?_)
        · have hm : mayK D j i = false := by cases hz : mayK D j i; rfl; rw [hz] at c25; exact absurd rfl c25
          refine Ev.blk kX1_hasFreerFor_30 rfl trivial ?_
          refine Ev.jmp tX1_hasFreerFor_33 ?_
          refine k _ _ ⟨rfl, by rw [nI_add], nx ?_⟩
          first
            | (rw [hm]; simp; done)
            | (rw [c12]; simp; done)
        · have hm : mayK D j i = true := by cases hz : mayK D j i; rw [hz] at c25; exact absurd (by decide) c25; rfl
          refine Ev.blk kX1_hasFreerFor_28 rfl trivial ?_
          refine Ev.iret tX1_hasFreerFor_29 rfl rfl ?_
          refine ⟨rfl, ?_⟩
          unfold hfr
          rw [fst1_some h0 (by rw [hm, beq_false_of_ne c12]; rfl) hj]
          rfl
end Y7
end
section
/-! ===== letters: what they tell, and the class's Letters ===== -/
/-- the letters of kinds, in their order -/
def ktab : List Nat := [114, 102, 112, 104, 99, 103, 119, 98]
def kix (c : Nat) : Option Nat := fst1 (fun j => ktab.getD j 0 == c) 8
/-- a letter's statement: what must stand at its places (75 a kind, 68 a digit) -/
def shp (c : Nat) : List Nat := if c = 107 then [107, 75, 68, 68, 68, 59] else if c = 116 then [116, 68, 59] else if c = 108 then [108, 68, 59] else if c = 103 then [103, 68, 68, 68, 59] else []
def fitC (cls c : Nat) : Bool := if cls = 75 then (kix c).isSome else if cls = 68 then decide (48 ≤ c ∧ c ≤ 57) else c == cls
def fbad (t : Nat → Nat) (n : Nat) : Nat → List Nat → Option Nat
  | _, [] => none
  | q, c :: cs => if q < n ∧ fitC c (t q) = true then fbad t n (q + 1) cs else some q
/-- the fault of the statement that begins at p -/
def stE (t : Nat → Nat) (n p : Nat) : Option Nat := if p < n then (match shp (t p) with
  | [] => some p
  | c :: cs => fbad t n p (c :: cs)) else some p
def sln (c : Nat) : Nat := (shp c).length
/-- the first fault of form from the statement at p on -/
def prs (t : Nat → Nat) (n : Nat) : Nat → Nat → Option Nat
  | 0, _ => none
  | f + 1, p => match stE t n p with
    | some q => some q
    | none => if p + sln (t p) < n then prs t n f (p + sln (t p)) else none
def dgt (t : Nat → Nat) (p : Nat) : Nat := t p - 48
def cel (t : Nat → Nat) (p : Nat) : Nat := 10 * dgt t p + dgt t (p + 1)
/-- the statement at p is told -/
def telS (t : Nat → Nat) (D : Yd) (p : Nat) : Option Yd :=
  if t p = 107 then (if addB D ((kix (t (p + 1))).getD 0) (cel t (p + 2)) (dgt t (p + 4)) then some (addY D ((kix (t (p + 1))).getD 0) (cel t (p + 2)) (dgt t (p + 4))) else none)
  else if t p = 116 then (if (decide (dgt t (p + 1) < dn D) && !isC D (dgt t (p + 1))) = true then some (us D (va_up (ds D) (dgt t (p + 1)) (!ds D (dgt t (p + 1))))) else none)
  else if t p = 108 then (if dgt t (p + 1) < 4 then some (ul D (dgt t (p + 1))) else none)
  else (if (decide (dgt t (p + 1) < dn D) && decide (cel t (p + 2) < 24)) = true then some (uc D (va_up (dc D) (dgt t (p + 1)) (cel t (p + 2)))) else none)
/-- the statements from p on, m being told already: the fault's place, or the yard and how many -/
def telN (t : Nat → Nat) (n : Nat) : Nat → Yd → Nat → Nat → Nat ⊕ (Yd × Nat)
  | 0, D, _, m => .inr (D, m)
  | f + 1, D, p, m => if p < n then (match telS t D p with
    | none => .inl p
    | some E => telN t n f E (p + sln (t p)) (m + 1)) else .inr (D, m)
def LetAt (w : mW) (t : Nat → Nat) (n : Nat) : Prop := mgf w 7 0 1 = nI n ∧ (∀ j, j < n → mga w 8 0 j = nI (t j)) ∧ n ≤ 96 ∧ ∀ j, j < n → t j < 256
/-- which constant a statement's form is -/
def shS (c : Nat) : Nat := if c = 107 then 1 else if c = 116 then 2 else if c = 108 then 3 else if c = 103 then 4 else 0
theorem shS_lt (c : Nat) : shS c < 6 := by unfold shS; repeat' split
                                           all_goals decide
/-- the letter of a form's place -/
def shc (k i : Nat) : Nat := ((sByt.getD k []).getD i 0).toNatClampNeg
theorem shc_ok : ∀ k, k < 6 → ∀ i, i < 8 → i < sLen.getD k 0 → mchr (((sByt.getD k []).getD i 0) &&& nI 255) = nI (shc k i) ∧ shc k i < 256 := by decide
theorem shp_S (c : Nat) : (shp c).length = sLen.getD (shS c) 0 ∧ ∀ i, i < (shp c).length → (shp c)[i]? = some (shc (shS c) i) := by
  unfold shp shS
  split
  · exact ⟨by decide, by decide⟩
  · split
    · exact ⟨by decide, by decide⟩
    · split
      · exact ⟨by decide, by decide⟩
      · split
        · exact ⟨by decide, by decide⟩
        · exact ⟨by decide, fun i hi => by simp at hi⟩
theorem kb_ok : ∀ c, c < 256 → ∀ j, j < 8 → ((sByt.getD 5 []).getD j 0 = mbyt (nI c)) = (ktab.getD j 0 = c) := by
  have h : ∀ c, c < 256 → ∀ j, j < 8 → (decide ((sByt.getD 5 []).getD j 0 = mbyt (nI c)) = decide (ktab.getD j 0 = c)) := by decide +kernel
  intro c hc j hj
  exact propext (decide_eq_decide.mp (h c hc j hj))
theorem mchr_n : ∀ c, c < 256 → mchr (nI c) = nI c := by decide +kernel
section LE
variable {l : Launch} {d : Nat} {w : mW} {t : Nat → Nat} {n : Nat}
theorem ev_isLatin1 (k : Nat) : Cl l d MJ0_isLatin1_aae02 [mR 30 k] w (fun r u => u = w ∧ r = some (mI (nI 1))) := by
  show Ev l d MJ0_isLatin1_aae02 0 [some (mR 30 k)] [] w _
  refine Ev.blk kJ0_isLatin1_aae02_0 rfl trivial ?_
  refine Ev.br tJ0_isLatin1_aae02_3 rfl (fun c3 => ?_) (fun c3 => ?_)
  · exact absurd c3 (by decide)
  · refine Ev.blk kJ0_isLatin1_aae02_6 rfl trivial ?_
    refine Ev.br tJ0_isLatin1_aae02_10 rfl (fun c10 => ?_) (fun c10 => ?_)
    · exact absurd rfl c10
    · refine Ev.blk kJ0_isLatin1_aae02_13 rfl trivial ?_
      refine Ev.jmp tJ0_isLatin1_aae02_14 ?_
      refine Ev.iret tJ0_isLatin1_aae02_18 rfl rfl ?_
      exact ⟨rfl, rfl⟩
theorem ev_checkIndex3 {i N : Nat} (hi : i < N) (hN : N < 1000) : Cl l d MJ3_checkIndex_8e157 [mI (nI i), mI (nI N), mR 32 0] w (fun r u => u = w ∧ ∃ x, r = some (mI x)) := by
  show Ev l d MJ3_checkIndex_8e157 0 [some (mI (nI i)), some (mI (nI N)), some (mR 32 0)] [] w _
  refine Ev.blk kJ3_checkIndex_8e157_0 rfl trivial ?_
  refine Ev.br tJ3_checkIndex_8e157_1 rfl (fun c1 => ?_) (fun c1 => ?_)
  · exact absurd c1 (nI_nlt (Nat.zero_le _) (by omega))
  · refine Ev.blk kJ3_checkIndex_8e157_4 rfl trivial ?_
    refine Ev.br tJ3_checkIndex_8e157_6 rfl (fun c6 => ?_) (fun c6 => ?_)
    · refine Ev.blk kJ3_checkIndex_8e157_16 rfl trivial ?_
      refine Ev.iret tJ3_checkIndex_8e157_17 rfl rfl ?_
      exact ⟨rfl, _, rfl⟩
    · exact absurd (nI_lt hi (by omega)) c6
theorem ev_checkIndex2 (hd : 1 ≤ d) {i N : Nat} (hi : i < N) (hN : N < 1000) : Cl l d MJ0_checkIndex_df160 [mI (nI i), mI (nI N)] w (fun r u => u = w ∧ r = none) := by
  show Ev l d MJ0_checkIndex_df160 0 [some (mI (nI i)), some (mI (nI N))] [] w _
  refine Ev.blk kJ0_checkIndex_df160_0 rfl trivial ?_
  refine Ev.cS (d1 := d - 1) (ev_checkIndex3 hi hN) tJ0_checkIndex_df160_5 qJ0_1059 rfl ⟨rfl, rfl, rfl⟩ (by omega) ?_
  rintro _ _ ⟨rfl, x, rfl⟩
  refine Ev.blk kJ0_checkIndex_df160_8 rfl trivial ?_
  refine Ev.vret tJ0_checkIndex_df160_9 rfl ?_
  exact ⟨rfl, rfl⟩
theorem ev_charAtL (hd : 2 ≤ d) {k i : Nat} (hk : k < 6) (hi : i < sLen.getD k 0) : Cl l d MJ1_charAt_3b067 [mR 31 k, mI (nI i)] w (fun r u => u = w ∧ r = some (mI (nI (shc k i)))) := by
  show Ev l d MJ1_charAt_3b067 0 [some (mR 31 k), some (mI (nI i))] [] w _
  have hl8 : ∀ k, k < 6 → sLen.getD k 0 ≤ 8 := by decide
  have h8 := hl8 k hk
  have hs := shc_ok k hk i (by omega) hi
  refine Ev.blk kJ1_charAt_3b067_0 rfl trivial ?_
  refine Ev.cS (d1 := d - 1) (ev_checkIndex2 (by omega) hi (by omega)) tJ1_charAt_3b067_3 qJ1_9 rfl ⟨rfl, rfl, rfl⟩ (by omega) ?_
  rintro _ _ ⟨rfl, rfl⟩
  refine Ev.blk kJ1_charAt_3b067_6 rfl ⟨trivial, vinN hi (by omega)⟩ ?_
  rw [ixN (by omega), hs.1]
  refine Ev.iret tJ1_charAt_3b067_14 rfl (pk_charN (by omega)).1 ?_
  exact ⟨rfl, rfl⟩
theorem ev_charAt (hd : 3 ≤ d) {k i : Nat} (hk : k < 6) (hi : i < sLen.getD k 0) : Cl l d MJ0_charAt_5068e [mR 30 k, mI (nI i)] w (fun r u => u = w ∧ r = some (mI (nI (shc k i)))) := by
  show Ev l d MJ0_charAt_5068e 0 [some (mR 30 k), some (mI (nI i))] [] w _
  have hl8 : ∀ k, k < 6 → sLen.getD k 0 ≤ 8 := by decide
  have h8 := hl8 k hk
  have hs := shc_ok k hk i (by omega) hi
  refine Ev.blk kJ0_charAt_5068e_0 rfl trivial ?_
  refine Ev.cV (d1 := d - 1) (ev_isLatin1 k) tJ0_charAt_5068e_1 qJ0_492 rfl rfl (by decide) ⟨rfl, rfl, rfl⟩ (by omega) ?_
  rintro _ _ ⟨rfl, rfl⟩
  refine Ev.br tJ0_charAt_5068e_4 rfl (fun c4 => ?_) (fun c4 => ?_)
  · exact absurd c4 (by decide)
  · refine Ev.blk kJ0_charAt_5068e_7 rfl trivial ?_
    refine Ev.cS (d1 := d - 1) (ev_charAtL (by omega) hk hi) tJ0_charAt_5068e_12 qJ0_495 rfl ⟨rfl, rfl, rfl⟩ (by omega) ?_
    rintro _ _ ⟨rfl, rfl⟩
    refine Ev.iret tJ0_charAt_5068e_15 rfl (pk_charN (by omega)).1 ?_
    exact ⟨rfl, rfl⟩
theorem ev_canEncode {c : Nat} (hc : c < 256) : Cl l d MJ1_canEncode_9a6ad [mI (nI c)] w (fun r u => u = w ∧ r = some (mI (nI 1))) := by
  show Ev l d MJ1_canEncode_9a6ad 0 [some (mI (nI c))] [] w _
  refine Ev.blk kJ1_canEncode_9a6ad_0 rfl trivial ?_
  refine Ev.br tJ1_canEncode_9a6ad_1 rfl (fun c1 => ?_) (fun c1 => ?_)
  · exact absurd c1 (nI_nlt (Nat.zero_le _) (by omega))
  · refine Ev.blk kJ1_canEncode_9a6ad_4 rfl trivial ?_
    refine Ev.br tJ1_canEncode_9a6ad_8 rfl (fun c8 => ?_) (fun c8 => ?_)
    · exact absurd c8 (nI_nlt (by omega) (by omega))
    · refine Ev.blk kJ1_canEncode_9a6ad_11 rfl trivial ?_
      refine Ev.jmp tJ1_canEncode_9a6ad_12 ?_
      refine Ev.iret tJ1_canEncode_9a6ad_16 rfl rfl ?_
      exact ⟨rfl, rfl⟩
theorem ev_indexOfChar {c : Nat} (hc : c < 256) : Cl l d MJ1_indexOfChar_4cfef [mR 31 5, mI (nI c), mI (nI 0), mI (nI 8)] w (fun r u => u = w ∧ r = some (mI (oM1 (kix c)))) := by
  show Ev l d MJ1_indexOfChar_4cfef 0 [some (mR 31 5), some (mI (nI c)), some (mI (nI 0)), some (mI (nI 8)), none, none] [] w _
  refine Ev.blk kJ1_indexOfChar_4cfef_0 rfl trivial ?_
  refine Ev.for (fun j L u => u = w ∧ L = [some (mR 31 5), some (mI (nI c)), some (mI (nI 0)), some (mI (nI 8)), some (mI (mbyt (nI c))), some (mI (nI j))] ∧ fst1 (fun j => ktab.getD j 0 == c) j = none) 8 ?_ ?_ 0 (by decide) ⟨rfl, rfl, rfl⟩
  · rintro L u ⟨rfl, rfl, h0⟩
    refine Ev.blk kJ1_indexOfChar_4cfef_7 rfl trivial ?_
    refine Ev.br tJ1_indexOfChar_4cfef_10 rfl (fun c10 => ?_) (fun c10 => ?_)
    · refine Ev.blk kJ1_indexOfChar_4cfef_31 rfl trivial ?_
      refine Ev.iret tJ1_indexOfChar_4cfef_32 rfl rfl ?_
      exact ⟨rfl, by unfold kix; rw [h0]; rfl⟩
    · exact absurd (nI_le (Nat.le_refl _) (by decide)) c10
  · rintro j L u hj ⟨rfl, rfl, h0⟩ k
    refine Ev.blk kJ1_indexOfChar_4cfef_7 rfl trivial ?_
    refine Ev.br tJ1_indexOfChar_4cfef_10 rfl (fun c10 => ?_) (fun c10 => ?_)
    · exact absurd c10 (nI_ge hj (by decide))
    · refine Ev.blk kJ1_indexOfChar_4cfef_13 rfl ⟨trivial, vinN hj (by decide)⟩ ?_
      rw [ix8 hj]
      refine Ev.br tJ1_indexOfChar_4cfef_19 rfl (fun c19 => ?_) (fun c19 => ?_)
      · rw [kb_ok c hc j hj] at c19
        refine Ev.blk kJ1_indexOfChar_4cfef_25 rfl trivial ?_
        refine Ev.jmp tJ1_indexOfChar_4cfef_28 ?_
        refine k _ _ ⟨rfl, by rw [nI_add], ?_⟩
        unfold fst1
        rw [h0]
        have : (ktab.getD j 0 == c) = false := beq_false_of_ne c19
        simp only [this]
        rfl
      · rw [kb_ok c hc j hj] at c19
        refine Ev.blk kJ1_indexOfChar_4cfef_22 rfl trivial ?_
        refine Ev.iret tJ1_indexOfChar_4cfef_24 rfl rfl ?_
        refine ⟨rfl, ?_⟩
        unfold kix
        rw [fst1_some h0 (by simpa using c19) hj]
        rfl
theorem ev_indexOfL (hd : 1 ≤ d) {c : Nat} (hc : c < 256) : Cl l d MJ1_indexOf_4cfef [mR 31 5, mI (nI c), mI (nI 0), mI (nI 8)] w (fun r u => u = w ∧ r = some (mI (oM1 (kix c)))) := by
  show Ev l d MJ1_indexOf_4cfef 0 [some (mR 31 5), some (mI (nI c)), some (mI (nI 0)), some (mI (nI 8))] [] w _
  refine Ev.blk kJ1_indexOf_4cfef_0 rfl trivial ?_
  refine Ev.cS (d1 := d - 1) (ev_canEncode hc) tJ1_indexOf_4cfef_1 qJ1_88 rfl ⟨rfl, rfl, rfl⟩ (by omega) ?_
  rintro _ _ ⟨rfl, rfl⟩
  refine Ev.br tJ1_indexOf_4cfef_4 rfl (fun c4 => ?_) (fun c4 => ?_)
  · refine Ev.blk kJ1_indexOf_4cfef_9 rfl trivial ?_
    refine Ev.mmax tJ1_indexOf_4cfef_11 qJ1_92 (by omega) (Nat.le_of_ble_eq_true rfl) ?_
    rw [show imx (nI 0) (nI 0) = nI 0 by decide]
    refine Ev.blk kJ1_indexOf_4cfef_14 rfl trivial ?_
    refine Ev.mmin tJ1_indexOf_4cfef_18 qJ1_38 (by omega) (Nat.le_of_ble_eq_true rfl) ?_
    rw [show imn (nI 8) (nI (sLen.getD 5 0)) = nI 8 by decide]
    refine Ev.blk kJ1_indexOf_4cfef_21 rfl trivial ?_
    refine Ev.br tJ1_indexOf_4cfef_24 rfl (fun c24 => ?_) (fun c24 => ?_)
    · refine Ev.blk kJ1_indexOf_4cfef_29 rfl trivial ?_
      refine Ev.cS (d1 := d - 1) (ev_indexOfChar hc) tJ1_indexOf_4cfef_33 qJ1_95 rfl ⟨rfl, rfl, rfl⟩ (by omega) ?_
      rintro _ _ ⟨rfl, rfl⟩
      refine Ev.iret tJ1_indexOf_4cfef_36 rfl rfl ?_
      exact ⟨rfl, rfl⟩
    · exact absurd (by decide) c24
  · exact absurd (by decide) c4
theorem ev_indexOf2 (hd : 2 ≤ d) {c : Nat} (hc : c < 256) : Cl l d MJ0_indexOf_7cf53 [mR 30 5, mI (nI c), mI (nI 0)] w (fun r u => u = w ∧ r = some (mI (oM1 (kix c)))) := by
  show Ev l d MJ0_indexOf_7cf53 0 [some (mR 30 5), some (mI (nI c)), some (mI (nI 0))] [] w _
  refine Ev.blk kJ0_indexOf_7cf53_0 rfl trivial ?_
  refine Ev.cV (d1 := d - 1) (ev_isLatin1 5) tJ0_indexOf_7cf53_1 qJ0_492 rfl rfl (by decide) ⟨rfl, rfl, rfl⟩ (by omega) ?_
  rintro _ _ ⟨rfl, rfl⟩
  refine Ev.br tJ0_indexOf_7cf53_4 rfl (fun c4 => ?_) (fun c4 => ?_)
  · exact absurd c4 (by decide)
  · refine Ev.blk kJ0_indexOf_7cf53_7 rfl trivial ?_
    refine Ev.cV (d1 := d - 1) (ev_strlen (k := 5) (by omega) (by decide)) tJ0_indexOf_7cf53_14 qJ0_505 rfl rfl (by decide) ⟨rfl, rfl, rfl⟩ (by omega) ?_
    rintro _ _ ⟨rfl, rfl⟩
    refine Ev.cS (d1 := d - 1) (ev_indexOfL (by omega) hc) tJ0_indexOf_7cf53_17 qJ0_637 rfl ⟨rfl, rfl, rfl⟩ (by omega) ?_
    rintro _ _ ⟨rfl, rfl⟩
    refine Ev.jmp tJ0_indexOf_7cf53_20 ?_
    refine Ev.iret tJ0_indexOf_7cf53_36 rfl rfl ?_
    exact ⟨rfl, rfl⟩
theorem ev_indexOf (hd : 3 ≤ d) {c : Nat} (hc : c < 256) : Cl l d MJ0_indexOf_0f7a4 [mR 30 5, mI (nI c)] w (fun r u => u = w ∧ r = some (mI (oM1 (kix c)))) := by
  show Ev l d MJ0_indexOf_0f7a4 0 [some (mR 30 5), some (mI (nI c))] [] w _
  refine Ev.blk kJ0_indexOf_0f7a4_0 rfl trivial ?_
  refine Ev.cV (d1 := d - 1) (ev_indexOf2 (by omega) hc) tJ0_indexOf_0f7a4_3 qJ0_633 rfl rfl (by decide) ⟨rfl, rfl, rfl⟩ (by omega) ?_
  rintro _ _ ⟨rfl, rfl⟩
  refine Ev.iret tJ0_indexOf_0f7a4_6 rfl rfl ?_
  exact ⟨rfl, rfl⟩
theorem ev_fitsShape (hd : 4 ≤ d) {c q : Nat} (hc : c < 256) (hq : q < 256) : Cl l d MX0_fitsShape [mI (nI c), mI (nI q)] w (fun r u => u = w ∧ r = some (mI (bI (fitC q c)))) := by
  show Ev l d MX0_fitsShape 0 [some (mI (nI c)), some (mI (nI q))] [] w _
  refine Ev.blk kX0_fitsShape_0 rfl trivial ?_
  refine Ev.br tX0_fitsShape_3 rfl (fun c3 => ?_) (fun c3 => ?_)
  · try simp (disch := omega) only [nI_eq, nI_leI, nI_ltI, Classical.not_not] at c3
    refine Ev.blk kX0_fitsShape_22 rfl trivial ?_
    refine Ev.br tX0_fitsShape_25 rfl (fun c25 => ?_) (fun c25 => ?_)
    · try simp (disch := omega) only [nI_eq, nI_leI, nI_ltI, Classical.not_not] at c25
      refine Ev.blk kX0_fitsShape_46 rfl trivial ?_
      refine Ev.br tX0_fitsShape_48 rfl (fun c48 => ?_) (fun c48 => ?_)
      · try simp (disch := omega) only [nI_eq, nI_leI, nI_ltI, Classical.not_not] at c48
        refine Ev.blk kX0_fitsShape_55 rfl trivial ?_
        refine Ev.iret tX0_fitsShape_56 rfl rfl ?_
        refine ⟨rfl, ?_⟩
        unfold fitC
        first
          | (rw [if_pos (by omega), hk]; rfl)
          | (rw [if_neg (by omega), if_pos (by omega)]
             first | exact bI_f (by omega) | exact bI_t (by omega))
          | (rw [if_neg (by omega), if_neg (by omega)]
             first
               | (rw [show (c == q) = true by simp; omega]; rfl)
               | (rw [show (c == q) = false by simp; omega]; rfl))
      · try simp (disch := omega) only [nI_eq, nI_leI, nI_ltI, Classical.not_not] at c48
        refine Ev.blk kX0_fitsShape_51 rfl trivial ?_
        refine Ev.jmp tX0_fitsShape_52 ?_
        refine Ev.iret tX0_fitsShape_56 rfl rfl ?_
        refine ⟨rfl, ?_⟩
        unfold fitC
        first
          | (rw [if_pos (by omega), hk]; rfl)
          | (rw [if_neg (by omega), if_pos (by omega)]
             first | exact bI_f (by omega) | exact bI_t (by omega))
          | (rw [if_neg (by omega), if_neg (by omega)]
             first
               | (rw [show (c == q) = true by simp; omega]; rfl)
               | (rw [show (c == q) = false by simp; omega]; rfl))
    · try simp (disch := omega) only [nI_eq, nI_leI, nI_ltI, Classical.not_not] at c25
      refine Ev.blk kX0_fitsShape_28 rfl trivial ?_
      refine Ev.br tX0_fitsShape_31 rfl (fun c31 => ?_) (fun c31 => ?_)
      · try simp (disch := omega) only [nI_eq, nI_leI, nI_ltI, Classical.not_not] at c31
        refine Ev.blk kX0_fitsShape_44 rfl trivial ?_
        refine Ev.iret tX0_fitsShape_45 rfl rfl ?_
        refine ⟨rfl, ?_⟩
        unfold fitC
        first
          | (rw [if_pos (by omega), hk]; rfl)
          | (rw [if_neg (by omega), if_pos (by omega)]
             first | exact bI_f (by omega) | exact bI_t (by omega))
          | (rw [if_neg (by omega), if_neg (by omega)]
             first
               | (rw [show (c == q) = true by simp; omega]; rfl)
               | (rw [show (c == q) = false by simp; omega]; rfl))
      · try simp (disch := omega) only [nI_eq, nI_leI, nI_ltI, Classical.not_not] at c31
        refine Ev.blk kX0_fitsShape_34 rfl trivial ?_
        refine Ev.br tX0_fitsShape_37 rfl (fun c37 => ?_) (fun c37 => ?_)
        · try simp (disch := omega) only [nI_eq, nI_leI, nI_ltI, Classical.not_not] at c37
          refine Ev.blk kX0_fitsShape_44 rfl trivial ?_
          refine Ev.iret tX0_fitsShape_45 rfl rfl ?_
          refine ⟨rfl, ?_⟩
          unfold fitC
          first
            | (rw [if_pos (by omega), hk]; rfl)
            | (rw [if_neg (by omega), if_pos (by omega)]
               first | exact bI_f (by omega) | exact bI_t (by omega))
            | (rw [if_neg (by omega), if_neg (by omega)]
               first
                 | (rw [show (c == q) = true by simp; omega]; rfl)
                 | (rw [show (c == q) = false by simp; omega]; rfl))
        · try simp (disch := omega) only [nI_eq, nI_leI, nI_ltI, Classical.not_not] at c37
          refine Ev.blk kX0_fitsShape_40 rfl trivial ?_
          refine Ev.jmp tX0_fitsShape_41 ?_
          refine Ev.iret tX0_fitsShape_45 rfl rfl ?_
          refine ⟨rfl, ?_⟩
          unfold fitC
          first
            | (rw [if_pos (by omega), hk]; rfl)
            | (rw [if_neg (by omega), if_pos (by omega)]
               first | exact bI_f (by omega) | exact bI_t (by omega))
            | (rw [if_neg (by omega), if_neg (by omega)]
               first
                 | (rw [show (c == q) = true by simp; omega]; rfl)
                 | (rw [show (c == q) = false by simp; omega]; rfl))
  · try simp (disch := omega) only [nI_eq, nI_leI, nI_ltI, Classical.not_not] at c3
    refine Ev.blk kX0_fitsShape_6 rfl trivial ?_
    rw [mchr_n c hc]
    refine Ev.cV (d1 := d - 1) (ev_indexOf (by omega) hc) tX0_fitsShape_10 qX0_96 rfl rfl (by decide) ⟨rfl, rfl, rfl⟩ (by omega) ?_
    rintro _ _ ⟨rfl, rfl⟩
    refine Ev.br tX0_fitsShape_13 rfl (fun c13 => ?_) (fun c13 => ?_)
    · have hk : (kix c).isSome = false := by
        cases hz : kix c with
        | none => rfl
        | some j => rw [hz] at c13; exact absurd c13 (nI_nlt (Nat.zero_le _) (by have := (fst1_spec hz).1; omega))
      refine Ev.blk kX0_fitsShape_20 rfl trivial ?_
      refine Ev.iret tX0_fitsShape_21 rfl rfl ?_
      refine ⟨rfl, ?_⟩
      unfold fitC
      first
        | (rw [if_pos (by omega), hk]; rfl)
        | (rw [if_neg (by omega), if_pos (by omega)]
           first | exact bI_f (by omega) | exact bI_t (by omega))
        | (rw [if_neg (by omega), if_neg (by omega)]
           first
             | (rw [show (c == q) = true by simp; omega]; rfl)
             | (rw [show (c == q) = false by simp; omega]; rfl))
    · have hk : (kix c).isSome = true := by
        cases hz : kix c with
        | none => rw [hz] at c13; exact absurd (by decide) c13
        | some j => rfl
      refine Ev.blk kX0_fitsShape_16 rfl trivial ?_
      refine Ev.jmp tX0_fitsShape_17 ?_
      refine Ev.iret tX0_fitsShape_21 rfl rfl ?_
      refine ⟨rfl, ?_⟩
      unfold fitC
      first
        | (rw [if_pos (by omega), hk]; rfl)
        | (rw [if_neg (by omega), if_pos (by omega)]
           first | exact bI_f (by omega) | exact bI_t (by omega))
        | (rw [if_neg (by omega), if_neg (by omega)]
           first
             | (rw [show (c == q) = true by simp; omega]; rfl)
             | (rw [show (c == q) = false by simp; omega]; rfl))
theorem ev_hasRoom (hL : LetAt w t n) : Cl l d MX0_hasRoom [mR 7 0] w (fun r u => u = w ∧ r = some (mI (bI (decide (n < 96))))) := by
  show Ev l d MX0_hasRoom 0 [some (mR 7 0)] [] w _
  have hn := hL.2.2.1
  refine Ev.blk kX0_hasRoom_0 rfl trivial ?_
  simp only [hL.1]
  refine Ev.br tX0_hasRoom_6 rfl (fun c6 => ?_) (fun c6 => ?_)
  · try simp (disch := omega) only [nI_eq, nI_leI, nI_ltI, Classical.not_not] at c6
    refine Ev.blk kX0_hasRoom_13 rfl trivial ?_
    refine Ev.iret tX0_hasRoom_14 rfl rfl ?_
    refine ⟨rfl, ?_⟩
    first | exact bI_f (by omega) | exact bI_t (by omega)
  · try simp (disch := omega) only [nI_eq, nI_leI, nI_ltI, Classical.not_not] at c6
    refine Ev.blk kX0_hasRoom_9 rfl trivial ?_
    refine Ev.jmp tX0_hasRoom_10 ?_
    refine Ev.iret tX0_hasRoom_14 rfl rfl ?_
    refine ⟨rfl, ?_⟩
    first | exact bI_f (by omega) | exact bI_t (by omega)
theorem ev_size (hL : LetAt w t n) : Cl l d MX0_size [mR 7 0] w (fun r u => u = w ∧ r = some (mI (nI n))) := by
  show Ev l d MX0_size 0 [some (mR 7 0)] [] w _
  refine Ev.blk kX0_size_0 rfl trivial ?_
  simp only [hL.1]
  refine Ev.iret tX0_size_4 rfl rfl ?_
  exact ⟨rfl, rfl⟩
theorem ev_statementCount : Cl l d MX0_statementCount [mR 7 0] w (fun r u => u = w ∧ r = some (mI (mgf w 7 0 2))) := by
  show Ev l d MX0_statementCount 0 [some (mR 7 0)] [] w _
  refine Ev.blk kX0_statementCount_0 rfl trivial ?_
  refine Ev.iret tX0_statementCount_4 rfl rfl ?_
  exact ⟨rfl, rfl⟩
/-- the letters alone are changed -/
def OffL (w w1 : mW) : Prop := (∀ t i k, t ≠ 7 → mgf w1 t i k = mgf w t i k) ∧ ∀ t i, t ≠ 8 → mga w1 t i = mga w t i
theorem OffL.rf : OffL w w := ⟨fun _ _ _ _ => rfl, fun _ _ _ => rfl⟩
theorem OffL.tr {w1 w2 : mW} (h : OffL w w1) (k : OffL w1 w2) : OffL w w2 := ⟨fun t i j hn => (k.1 t i j hn).trans (h.1 t i j hn), fun t i hn => (k.2 t i hn).trans (h.2 t i hn)⟩
theorem OffL.pf {k : Nat} {v : Int32} : OffL w (mpf w 7 0 k v) := ⟨fun t i k' hn => mgf_pfn (fun ⟨a, _⟩ => hn a), fun _ _ _ => rfl⟩
theorem OffL.pA {f : Nat → Int32} : OffL w (mpA w 8 0 f) := ⟨fun _ _ _ _ => rfl, fun t' i hn => mga_pAn (fun ⟨a, _⟩ => hn a)⟩
theorem ev_hear (hL : LetAt w t n) (hd : 1 ≤ d) (hn : n < 96) {c : Nat} (hc : c < 256) : Cl l d MX0_hear [mR 7 0, mI (nI c)] w (fun r u => r = some (mI (nI (n + 1))) ∧ OffL w u ∧ LetAt u (va_up t n c) (n + 1)) := by
  show Ev l d MX0_hear 0 [some (mR 7 0), some (mI (nI c))] [] w _
  refine Ev.blk kX0_hear_0 rfl trivial ?_
  refine Ev.cV (d1 := d - 1) (ev_hasRoom hL) tX0_hear_1 qX0_22 rfl rfl (by decide) ⟨rfl, rfl, rfl⟩ (by omega) ?_
  rintro _ _ ⟨rfl, rfl⟩
  refine Ev.br tX0_hear_4 rfl (fun c4 => ?_) (fun c4 => ?_)
  · rw [bI_0] at c4
    exact absurd c4 (by simp; omega)
  · refine Ev.blk kX0_hear_7 rfl ⟨trivial, by rw [hL.1]; exact vinN (show n < 96 from hn) (by decide)⟩ ?_
    simp only [mgf_pA, hL.1, nI_add, ixN (show n < 1000 by omega)]
    refine Ev.blk kX0_hear_27 rfl trivial ?_
    rw [mgf_pf]
    refine Ev.iret tX0_hear_31 rfl rfl ?_
    refine ⟨rfl, OffL.pA.tr OffL.pf, mgf_pf, fun j hj => ?_, by omega, fun j hj => ?_⟩
    · rw [mga_pf, mga_pA]
      unfold upd va_up
      by_cases e : j = n
      · rw [if_pos e, if_pos e]
      · rw [if_neg e, if_neg e]
        exact hL.2.1 j (by omega)
    · unfold va_up
      by_cases e : j = n
      · rw [if_pos e]; exact hc
      · rw [if_neg e]; exact hL.2.2.2 j (by omega)
theorem ev_forget : Cl l d MX0_forget [mR 7 0] w (fun r u => r = none ∧ OffL w u ∧ LetAt u t 0) := by
  show Ev l d MX0_forget 0 [some (mR 7 0)] [] w _
  refine Ev.blk kX0_forget_0 rfl trivial ?_
  refine Ev.vret tX0_forget_5 rfl ?_
  exact ⟨rfl, OffL.pf, mgf_pf, fun j hj => by omega, by omega, fun j hj => by omega⟩
theorem ev_signAt (hL : LetAt w t n) {p : Nat} (hp : p < 1000) : Cl l d MX0_signAt [mR 7 0, mI (nI p)] w (fun r u => u = w ∧ r = some (mI (if p < n then nI (t p) else -1))) := by
  show Ev l d MX0_signAt 0 [some (mR 7 0), some (mI (nI p))] [] w _
  have hn := hL.2.2.1
  refine Ev.blk kX0_signAt_0 rfl trivial ?_
  refine Ev.br tX0_signAt_1 rfl (fun c1 => ?_) (fun c1 => ?_)
  · exact absurd c1 (nI_nlt (Nat.zero_le _) (by omega))
  · try simp (disch := omega) only [nI_eq, nI_leI, nI_ltI, Classical.not_not] at c1
    refine Ev.blk kX0_signAt_4 rfl trivial ?_
    simp only [hL.1]
    refine Ev.br tX0_signAt_9 rfl (fun c9 => ?_) (fun c9 => ?_)
    · try simp (disch := omega) only [nI_eq, nI_leI, nI_ltI, Classical.not_not] at c9
      refine Ev.blk kX0_signAt_21 rfl trivial ?_
      refine Ev.iret tX0_signAt_22 rfl rfl ?_
      refine ⟨rfl, ?_⟩
      first
        | (rw [if_neg (by omega)])
        | (rw [if_pos (by omega)])
    · try simp (disch := omega) only [nI_eq, nI_leI, nI_ltI, Classical.not_not] at c9
      refine Ev.blk kX0_signAt_12 rfl ⟨trivial, vinN (show p < 96 by omega) (by decide)⟩ ?_
      rw [ixN hp, hL.2.1 p (by omega)]
      refine Ev.jmp tX0_signAt_18 ?_
      refine Ev.iret tX0_signAt_22 rfl rfl ?_
      refine ⟨rfl, ?_⟩
      first
        | (rw [if_neg (by omega)])
        | (rw [if_pos (by omega)])
theorem ev_digitAt (hL : LetAt w t n) (hd : 1 ≤ d) {p : Nat} (hp : p < n) (h48 : 48 ≤ t p) : Cl l d MX0_digitAt [mR 7 0, mI (nI p)] w (fun r u => u = w ∧ r = some (mI (nI (dgt t p)))) := by
  show Ev l d MX0_digitAt 0 [some (mR 7 0), some (mI (nI p))] [] w _
  have hn := hL.2.2.1
  refine Ev.blk kX0_digitAt_0 rfl trivial ?_
  refine Ev.cV (d1 := d - 1) (ev_signAt hL (by omega)) tX0_digitAt_2 qX0_56 rfl rfl (by decide) ⟨rfl, rfl, rfl⟩ (by omega) ?_
  rintro _ _ ⟨rfl, rfl⟩
  rw [if_pos hp]
  refine Ev.blk kX0_digitAt_5 rfl trivial ?_
  rw [pk_sub h48]
  refine Ev.iret tX0_digitAt_8 rfl rfl ?_
  exact ⟨rfl, rfl⟩
theorem ev_cellAt (hL : LetAt w t n) (hd : 2 ≤ d) {p : Nat} (hp : p + 1 < n) (h48 : 48 ≤ t p) (h49 : 48 ≤ t (p + 1)) : Cl l d MX0_cellAt [mR 7 0, mI (nI p)] w (fun r u => u = w ∧ r = some (mI (nI (cel t p)))) := by
  show Ev l d MX0_cellAt 0 [some (mR 7 0), some (mI (nI p))] [] w _
  refine Ev.blk kX0_cellAt_0 rfl trivial ?_
  refine Ev.cV (d1 := d - 1) (ev_digitAt hL (by omega) (by omega) h48) tX0_cellAt_4 qX0_66 rfl rfl (by decide) ⟨rfl, rfl, rfl⟩ (by omega) ?_
  rintro _ _ ⟨rfl, rfl⟩
  refine Ev.blk kX0_cellAt_7 rfl trivial ?_
  rw [pk_mul, nI_add]
  refine Ev.cV (d1 := d - 1) (ev_digitAt hL (by omega) hp h49) tX0_cellAt_12 qX0_66 rfl rfl (by decide) ⟨rfl, rfl, rfl⟩ (by omega) ?_
  rintro _ _ ⟨rfl, rfl⟩
  refine Ev.blk kX0_cellAt_15 rfl trivial ?_
  rw [nI_add]
  refine Ev.iret tX0_cellAt_16 rfl rfl ?_
  exact ⟨rfl, rfl⟩
theorem ev_kindAt (hL : LetAt w t n) (hd : 4 ≤ d) {p : Nat} (hp : p < n) : Cl l d MX0_kindAt [mR 7 0, mI (nI p)] w (fun r u => u = w ∧ r = some (mI (oM1 (kix (t p))))) := by
  show Ev l d MX0_kindAt 0 [some (mR 7 0), some (mI (nI p))] [] w _
  have hn := hL.2.2.1
  have h256 := hL.2.2.2 p hp
  refine Ev.blk kX0_kindAt_0 rfl trivial ?_
  refine Ev.cV (d1 := d - 1) (ev_signAt hL (by omega)) tX0_kindAt_4 qX0_56 rfl rfl (by decide) ⟨rfl, rfl, rfl⟩ (by omega) ?_
  rintro _ _ ⟨rfl, rfl⟩
  rw [if_pos hp]
  refine Ev.blk kX0_kindAt_7 rfl trivial ?_
  rw [mchr_n _ h256]
  refine Ev.cV (d1 := d - 1) (ev_indexOf (by omega) h256) tX0_kindAt_8 qX0_96 rfl rfl (by decide) ⟨rfl, rfl, rfl⟩ (by omega) ?_
  rintro _ _ ⟨rfl, rfl⟩
  refine Ev.iret tX0_kindAt_11 rfl rfl ?_
  exact ⟨rfl, rfl⟩
theorem ev_shapeAt (hL : LetAt w t n) (hd : 1 ≤ d) {p : Nat} (hp : p < n) : Cl l d MX0_shapeAt [mR 7 0, mI (nI p)] w (fun r u => u = w ∧ r = some (mR 30 (shS (t p)))) := by
  show Ev l d MX0_shapeAt 0 [some (mR 7 0), some (mI (nI p))] [] w _
  have hn := hL.2.2.1
  have h256 := hL.2.2.2 p hp
  refine Ev.blk kX0_shapeAt_0 rfl trivial ?_
  refine Ev.cV (d1 := d - 1) (ev_signAt hL (by omega)) tX0_shapeAt_2 qX0_56 rfl rfl (by decide) ⟨rfl, rfl, rfl⟩ (by omega) ?_
  rintro _ _ ⟨rfl, rfl⟩
  rw [if_pos hp]
  have sw : ∀ c, c < 256 → mswo sX0_shapeAt_5 (nI c) = if c = 107 then 43 else if c = 116 then 46 else if c = 108 then 49 else if c = 103 then 52 else 55 := by decide +kernel
  have hsw := sw _ h256
  unfold shS
  by_cases h1 : t p = 107
  · rw [if_pos h1] at hsw ⊢
    refine Ev.sw (tgt := 48) tX0_shapeAt_5 hsw (by decide) ?_
    refine Ev.blk kX0_shapeAt_48 rfl trivial ?_
    refine Ev.aret tX0_shapeAt_50 (by decide) rfl ?_
    exact ⟨rfl, rfl⟩
  · rw [if_neg h1] at hsw ⊢
    by_cases h2 : t p = 116
    · rw [if_pos h2] at hsw ⊢
      refine Ev.sw (tgt := 51) tX0_shapeAt_5 hsw (by decide) ?_
      refine Ev.blk kX0_shapeAt_51 rfl trivial ?_
      refine Ev.aret tX0_shapeAt_53 (by decide) rfl ?_
      exact ⟨rfl, rfl⟩
    · rw [if_neg h2] at hsw ⊢
      by_cases h3 : t p = 108
      · rw [if_pos h3] at hsw ⊢
        refine Ev.sw (tgt := 54) tX0_shapeAt_5 hsw (by decide) ?_
        refine Ev.blk kX0_shapeAt_54 rfl trivial ?_
        refine Ev.aret tX0_shapeAt_56 (by decide) rfl ?_
        exact ⟨rfl, rfl⟩
      · rw [if_neg h3] at hsw ⊢
        by_cases h4 : t p = 103
        · rw [if_pos h4] at hsw ⊢
          refine Ev.sw (tgt := 57) tX0_shapeAt_5 hsw (by decide) ?_
          refine Ev.blk kX0_shapeAt_57 rfl trivial ?_
          refine Ev.aret tX0_shapeAt_59 (by decide) rfl ?_
          exact ⟨rfl, rfl⟩
        · rw [if_neg h4] at hsw ⊢
          refine Ev.sw (tgt := 60) tX0_shapeAt_5 hsw (by decide) ?_
          refine Ev.blk kX0_shapeAt_60 rfl trivial ?_
          refine Ev.aret tX0_shapeAt_62 (by decide) rfl ?_
          exact ⟨rfl, rfl⟩
end LE
end
section
/-! ===== letters: the first misfit; telling ===== -/
theorem fbad_none {t : Nat → Nat} {n : Nat} : ∀ {cs : List Nat} {q : Nat}, fbad t n q cs = none → ∀ i, (h : i < cs.length) → q + i < n ∧ fitC cs[i] (t (q + i)) = true
  | [], _, _, i, h => by simp at h
  | c :: cs, q, hb, i, h => by
    unfold fbad at hb
    split at hb
    · rename_i hc
      cases i with
      | zero => exact hc
      | succ i =>
        have := fbad_none hb i (by simpa using h)
        rw [show q + (i + 1) = q + 1 + i by omega]
        simpa using this
    · cases hb
theorem stE_lt {t : Nat → Nat} {n p : Nat} (h : stE t n p = none) : p < n ∧ fbad t n p (shp (t p)) = none ∧ 3 ≤ sln (t p) := by
  unfold stE at h
  split at h
  · rename_i hp
    split at h
    · cases h
    · rename_i c cs e
      refine ⟨hp, by rw [e]; exact h, ?_⟩
      unfold sln
      unfold shp at e ⊢
      repeat' split at e
      all_goals first | (cases e; done) | skip
      all_goals (repeat' split) <;> first | decide | omega
  · cases h
theorem stE_fb {t : Nat → Nat} {n p : Nat} (hp : p < n) (h0 : sln (t p) ≠ 0) : stE t n p = fbad t n p (shp (t p)) := by
  unfold stE
  rw [if_pos hp]
  unfold sln at h0
  cases e : shp (t p) with
  | nil => rw [e] at h0; exact absurd rfl h0
  | cons c cs => rfl
theorem stE_0 {t : Nat → Nat} {n p : Nat} (hp : p < n) (h0 : sln (t p) = 0) : stE t n p = some p := by
  unfold stE
  rw [if_pos hp]
  unfold sln at h0
  cases e : shp (t p) with
  | nil => rfl
  | cons c cs => rw [e] at h0; cases h0
theorem sln_S (c : Nat) : sln c = sLen.getD (shS c) 0 := (shp_S c).1
theorem sln8 : ∀ k, k < 6 → sLen.getD k 0 ≤ 8 := by decide
theorem drop_S {c i : Nat} (h : i < sLen.getD (shS c) 0) : (shp c).drop i = shc (shS c) i :: (shp c).drop (i + 1) := by
  have h1 : i < (shp c).length := by rw [(shp_S c).1]; exact h
  have h2 := (shp_S c).2 i h1
  rw [List.drop_eq_getElem_cons h1]
  congr 1
  rw [List.getElem?_eq_getElem h1] at h2
  exact Option.some.inj h2
/-- at a place within a statement, or before one -/
def fmQ (t : Nat → Nat) (n : Nat) (i k part : Nat) : Prop := ∃ p F, p < n ∧ i = p + part ∧ k = shS (t p) ∧ prs t n (n + 1) 0 = prs t n (F + 1) p ∧ n ≤ F + p ∧ fbad t n p (shp (t p)) = fbad t n i ((shp (t p)).drop part)
def fmI (t : Nat → Nat) (n : Nat) (i k part : Nat) : Prop :=
  (part = sLen.getD k 0 ∧ (i < n → ∃ F, n ≤ F + i ∧ prs t n (n + 1) 0 = prs t n (F + 1) i) ∧ (n ≤ i → prs t n (n + 1) 0 = if n = 0 then some 0 else none)) ∨ (part < sLen.getD k 0 ∧ fmQ t n i k part)
section L2
variable {l : Launch} {d : Nat} {w : mW} {t : Nat → Nat} {n : Nat}
theorem ev_firstMisfit (hL : LetAt w t n) (hd : 5 ≤ d) : Cl l d MX0_firstMisfit [mR 7 0] w (fun r u => u = w ∧ r = some (mI (oM9 (prs t n (n + 1) 0)))) := by
  show Ev l d MX0_firstMisfit 0 [some (mR 7 0), none, none, none] [] w _
  have hn96 := hL.2.2.1
  refine Ev.blk kX0_firstMisfit_0 rfl trivial ?_
  refine Ev.for (fun i L u => u = w ∧ ∃ k part, k < 6 ∧ part ≤ 8 ∧ fmI t n i k part ∧ L = [some (mR 7 0), some (mR 30 k), some (mI (nI part)), some (mI (nI i))]) n ?_ ?_ 0 (Nat.zero_le _) ⟨rfl, 0, 0, by decide, by decide, Or.inl ⟨rfl, fun h => ⟨n, by omega, rfl⟩, fun h => by
      have h0 : n = 0 := by omega
      subst h0
      rfl⟩, rfl⟩
  · rintro L u ⟨rfl, k, part, hk, hp8, hI, rfl⟩
    have hk8 := sln8 k hk
    refine Ev.blk kX0_firstMisfit_7 rfl trivial ?_
    simp only [hL.1]
    refine Ev.br tX0_firstMisfit_12 rfl (fun c12 => ?_) (fun c12 => ?_)
    · try simp (disch := omega) only [nI_eq, nI_leI, nI_ltI, Classical.not_not] at c12
      refine Ev.blk kX0_firstMisfit_67 rfl trivial ?_
      simp only [hL.1]
      refine Ev.br tX0_firstMisfit_71 rfl (fun c71 => ?_) (fun c71 => ?_)
      · try simp (disch := omega) only [nI_eq, nI_leI, nI_ltI, Classical.not_not] at c71
        refine Ev.blk kX0_firstMisfit_87 rfl trivial ?_
        simp only [hL.1]
        refine Ev.iret tX0_firstMisfit_91 rfl rfl ?_
        refine ⟨rfl, ?_⟩
        rcases hI with ⟨h1, h2, h3⟩ | ⟨h1, p, F, q1, q2, q3, q4, q5, q6⟩
        · have h3 := h3 (Nat.le_refl _)
          rw [h3]
          first
            | (rw [if_pos (by omega)]; have e : n = 0 := by omega
               rw [e]; rfl)
            | (rw [if_neg (by omega)]; first | rfl | omega)
        · have hs : sln (t p) ≠ 0 := by rw [sln_S, ← q3]; omega
          have e1 : stE t n p = some n := by
            rw [stE_fb q1 hs, q6, drop_S (by rw [← q3]; exact h1)]
            unfold fbad
            rw [if_neg (by omega)]
          have e2 : prs t n (F + 1) p = some n := by unfold prs; rw [e1]
          rw [q4, e2]
          first | rfl | omega
      · try simp (disch := omega) only [nI_eq, nI_leI, nI_ltI, Classical.not_not] at c71
        refine Ev.blk kX0_firstMisfit_74 rfl trivial ?_
        refine Ev.cV (d1 := d - 1) (ev_strlen (by omega) hk) tX0_firstMisfit_76 qX0_28 rfl rfl (by decide) ⟨rfl, rfl, rfl⟩ (by omega) ?_
        rintro _ _ ⟨rfl, rfl⟩
        refine Ev.br tX0_firstMisfit_79 rfl (fun c79 => ?_) (fun c79 => ?_)
        · try simp (disch := omega) only [nI_eq, nI_leI, nI_ltI, Classical.not_not] at c79
          refine Ev.blk kX0_firstMisfit_87 rfl trivial ?_
          simp only [hL.1]
          refine Ev.iret tX0_firstMisfit_91 rfl rfl ?_
          refine ⟨rfl, ?_⟩
          rcases hI with ⟨h1, h2, h3⟩ | ⟨h1, p, F, q1, q2, q3, q4, q5, q6⟩
          · have h3 := h3 (Nat.le_refl _)
            rw [h3]
            first
              | (rw [if_pos (by omega)]; have e : n = 0 := by omega
                 rw [e]; rfl)
              | (rw [if_neg (by omega)]; first | rfl | omega)
          · have hs : sln (t p) ≠ 0 := by rw [sln_S, ← q3]; omega
            have e1 : stE t n p = some n := by
              rw [stE_fb q1 hs, q6, drop_S (by rw [← q3]; exact h1)]
              unfold fbad
              rw [if_neg (by omega)]
            have e2 : prs t n (F + 1) p = some n := by unfold prs; rw [e1]
            rw [q4, e2]
            first | rfl | omega
        · try simp (disch := omega) only [nI_eq, nI_leI, nI_ltI, Classical.not_not] at c79
          refine Ev.blk kX0_firstMisfit_82 rfl trivial ?_
          refine Ev.jmp tX0_firstMisfit_84 ?_
          refine Ev.iret tX0_firstMisfit_91 rfl rfl ?_
          refine ⟨rfl, ?_⟩
          rcases hI with ⟨h1, h2, h3⟩ | ⟨h1, p, F, q1, q2, q3, q4, q5, q6⟩
          · have h3 := h3 (Nat.le_refl _)
            rw [h3]
            first
              | (rw [if_pos (by omega)]; have e : n = 0 := by omega
                 rw [e]; rfl)
              | (rw [if_neg (by omega)]; first | rfl | omega)
          · have hs : sln (t p) ≠ 0 := by rw [sln_S, ← q3]; omega
            have e1 : stE t n p = some n := by
              rw [stE_fb q1 hs, q6, drop_S (by rw [← q3]; exact h1)]
              unfold fbad
              rw [if_neg (by omega)]
            have e2 : prs t n (F + 1) p = some n := by unfold prs; rw [e1]
            rw [q4, e2]
            first | rfl | omega
    · exact absurd (nI_le (Nat.le_refl _) (by omega)) c12
  · rintro i L u hi ⟨rfl, k, part, hk, hp8, hI, rfl⟩ kk
    have hk8 := sln8 k hk
    have hii := hL.2.1 i hi
    have h256 := hL.2.2.2 i hi
    have key : ∀ k part, k < 6 → part ≤ 8 → fmQ t n i k part → (part < sLen.getD k 0 ∨ (part = 0 ∧ sLen.getD k 0 = 0)) → Ev l d MX0_firstMisfit 31 [some (mR 7 0), some (mR 30 k), some (mI (nI part)), some (mI (nI i))] [] u (fun r v => v = u ∧ r = some (mI (oM9 (prs t n (n + 1) 0)))) := by
      intro k part hk hp8 hQ hlt
      have hk8 := sln8 k hk
      obtain ⟨p, F, q1, q2, q3, q4, q5, q6⟩ := hQ
      by_cases h0 : sLen.getD k 0 = 0
      · have hpt : part = 0 := by omega
        have hpi : p = i := by omega
        have e1 : stE t n i = some i := stE_0 hi (by rw [sln_S, ← hpi, ← q3]; exact h0)
        have e2 : prs t n (F + 1) p = some i := by rw [hpi]; unfold prs; rw [e1]
        rw [q4, e2]
        refine Ev.blk kX0_firstMisfit_31 rfl trivial ?_
        refine Ev.cV (d1 := d - 1) (ev_strlen (by omega) hk) tX0_firstMisfit_33 qX0_28 rfl rfl (by decide) ⟨rfl, rfl, rfl⟩ (by omega) ?_
        rintro _ _ ⟨rfl, rfl⟩
        refine Ev.br tX0_firstMisfit_36 rfl (fun c36 => ?_) (fun c36 => ?_)
        · refine Ev.blk kX0_firstMisfit_56 rfl trivial ?_
          refine Ev.iret tX0_firstMisfit_57 rfl rfl ?_
          exact ⟨rfl, rfl⟩
        · exact absurd (nI_le (by omega) (by omega)) c36
      · have hlt : part < sLen.getD k 0 := by omega
        have hs : sln (t p) ≠ 0 := by rw [sln_S, ← q3]; exact h0
        have hch := (shc_ok k hk part (by omega) hlt).2
        have e3 : stE t n p = (if i < n ∧ fitC (shc k part) (t i) = true then fbad t n (i + 1) ((shp (t p)).drop (part + 1)) else some i) := by
          rw [stE_fb q1 hs, q6, drop_S (by rw [← q3]; exact hlt), ← q3]
          rfl
        refine Ev.blk kX0_firstMisfit_31 rfl trivial ?_
        refine Ev.cV (d1 := d - 1) (ev_strlen (by omega) hk) tX0_firstMisfit_33 qX0_28 rfl rfl (by decide) ⟨rfl, rfl, rfl⟩ (by omega) ?_
        rintro _ _ ⟨rfl, rfl⟩
        refine Ev.br tX0_firstMisfit_36 rfl (fun c36 => ?_) (fun c36 => ?_)
        · exact absurd c36 (nI_ge (by omega) (by omega))
        · refine Ev.blk kX0_firstMisfit_39 rfl ⟨trivial, vinN (show i < 96 by omega) (by decide)⟩ ?_
          rw [ixN (by omega), hii]
          refine Ev.cV (d1 := d - 1) (ev_charAt (by omega) hk hlt) tX0_firstMisfit_47 qX0_38 rfl rfl (by decide) ⟨rfl, rfl, rfl⟩ (by omega) ?_
          rintro _ _ ⟨rfl, rfl⟩
          refine Ev.cS (d1 := d - 1) (ev_fitsShape (by omega) h256 hch) tX0_firstMisfit_50 qX0_42 rfl ⟨rfl, rfl, rfl⟩ (by omega) ?_
          rintro _ _ ⟨rfl, rfl⟩
          refine Ev.br tX0_firstMisfit_53 rfl (fun c53 => ?_) (fun c53 => ?_)
          · rw [bI_0] at c53
            have hf : fitC (shc k part) (t i) = true := by cases hz : fitC (shc k part) (t i); exact absurd hz c53; rfl
            refine Ev.blk kX0_firstMisfit_58 rfl trivial ?_
            refine Ev.jmp tX0_firstMisfit_64 ?_
            rw [nI_add, nI_add]
            refine kk _ _ ⟨rfl, k, part + 1, hk, by omega, ?_, rfl⟩
            rw [if_pos ⟨hi, hf⟩] at e3
            by_cases hl : part + 1 = sLen.getD k 0
            · left
              have hdr : (shp (t p)).drop (part + 1) = [] := List.drop_eq_nil_of_le (by rw [(shp_S (t p)).1, ← q3]; omega)
              rw [hdr] at e3
              have e4 : stE t n p = none := e3
              have hpl : p + sln (t p) = i + 1 := by rw [sln_S, ← q3]; omega
              have e5 : prs t n (F + 1) p = if i + 1 < n then prs t n F (i + 1) else none := by
                show (match stE t n p with | some q => some q | none => if p + sln (t p) < n then prs t n F (p + sln (t p)) else none) = _
                rw [e4, hpl]
              have h3 := (stE_lt e4).2.2
              refine ⟨hl, fun hlt2 => ?_, fun hge => ?_⟩
              · obtain ⟨G, rfl⟩ : ∃ G, F = G + 1 := ⟨F - 1, by omega⟩
                refine ⟨G, by omega, ?_⟩
                rw [q4, e5, if_pos hlt2]
              · rw [q4, e5, if_neg (by omega), if_neg (by omega)]
            · right
              refine ⟨by omega, p, F, q1, by omega, q3, q4, q5, ?_⟩
              rw [← stE_fb q1 hs]
              exact e3
          · rw [bI_0] at c53
            have hf : fitC (shc k part) (t i) = false := Decidable.not_not.mp c53
            refine Ev.blk kX0_firstMisfit_56 rfl trivial ?_
            refine Ev.iret tX0_firstMisfit_57 rfl rfl ?_
            refine ⟨rfl, ?_⟩
            have e4 : stE t n p = some i := by rw [e3, if_neg (by rw [hf]; simp)]
            have e5 : prs t n (F + 1) p = some i := by unfold prs; rw [e4]
            rw [q4, e5]
            rfl
    rcases hI with ⟨h1, h2, h3⟩ | ⟨h1, hQ⟩
    · obtain ⟨F, g1, g2⟩ := h2 hi
      refine Ev.blk kX0_firstMisfit_7 rfl trivial ?_
      simp only [hL.1]
      refine Ev.br tX0_firstMisfit_12 rfl (fun c12 => ?_) (fun c12 => ?_)
      · exact absurd c12 (nI_ge hi (by omega))
      · refine Ev.blk kX0_firstMisfit_15 rfl trivial ?_
        refine Ev.cV (d1 := d - 1) (ev_strlen (by omega) hk) tX0_firstMisfit_17 qX0_28 rfl rfl (by decide) ⟨rfl, rfl, rfl⟩ (by omega) ?_
        rintro _ _ ⟨rfl, rfl⟩
        refine Ev.br tX0_firstMisfit_20 rfl (fun c20 => ?_) (fun c20 => ?_)
        · exact absurd (by rw [h1]) c20
        · refine Ev.blk kX0_firstMisfit_23 rfl trivial ?_
          refine Ev.cV (d1 := d - 1) (ev_shapeAt hL (by omega) hi) tX0_firstMisfit_25 qX0_34 rfl rfl (by decide) ⟨rfl, rfl, rfl⟩ (by omega) ?_
          rintro _ _ ⟨rfl, rfl⟩
          refine Ev.blk kX0_firstMisfit_28 rfl trivial ?_
          refine key _ _ (shS_lt _) (Nat.zero_le _) ⟨i, F, hi, rfl, rfl, g2, g1, rfl⟩ ?_
          rcases Nat.eq_zero_or_pos (sLen.getD (shS (t i)) 0) with z | z
          · exact Or.inr ⟨rfl, z⟩
          · exact Or.inl z
    · skip
      refine Ev.blk kX0_firstMisfit_7 rfl trivial ?_
      simp only [hL.1]
      refine Ev.br tX0_firstMisfit_12 rfl (fun c12 => ?_) (fun c12 => ?_)
      · exact absurd c12 (nI_ge hi (by omega))
      · try simp (disch := omega) only [nI_eq, nI_leI, nI_ltI, Classical.not_not] at c12
        refine Ev.blk kX0_firstMisfit_15 rfl trivial ?_
        refine Ev.cV (d1 := d - 1) (ev_strlen (by omega) hk) tX0_firstMisfit_17 qX0_28 rfl rfl (by decide) ⟨rfl, rfl, rfl⟩ (by omega) ?_
        rintro _ _ ⟨rfl, rfl⟩
        refine Ev.br tX0_firstMisfit_20 rfl (fun c20 => ?_) (fun c20 => ?_)
        · try simp (disch := omega) only [nI_eq, nI_leI, nI_ltI, Classical.not_not] at c20
          exact key _ _ hk hp8 hQ (Or.inl h1)
        · rw [nI_eq (by omega) (by omega)] at c20
          omega
theorem stE_k {p : Nat} (h : stE t n p = none) (hc : t p = 107) : p + 5 < n ∧ (kix (t (p + 1))).isSome = true ∧ (48 ≤ t (p + 2) ∧ t (p + 2) ≤ 57) ∧ (48 ≤ t (p + 3) ∧ t (p + 3) ≤ 57) ∧ (48 ≤ t (p + 4) ∧ t (p + 4) ≤ 57) := by
  have h1 := fbad_none (stE_lt h).2.1
  rw [show shp (t p) = [107, 75, 68, 68, 68, 59] by rw [hc]; rfl] at h1
  have a1 := h1 1 (by decide)
  have a2 := h1 2 (by decide)
  have a3 := h1 3 (by decide)
  have a4 := h1 4 (by decide)
  have a5 := h1 5 (by decide)
  refine ⟨a5.1, a1.2, ?_, ?_, ?_⟩
  · have := a2.2; unfold fitC at this; simpa using this
  · have := a3.2; unfold fitC at this; simpa using this
  · have := a4.2; unfold fitC at this; simpa using this
theorem stE_tl {p : Nat} (h : stE t n p = none) (hc : t p = 116 ∨ t p = 108) : p + 2 < n ∧ 48 ≤ t (p + 1) ∧ t (p + 1) ≤ 57 := by
  have h1 := fbad_none (stE_lt h).2.1
  have key : ∀ c, (∀ i, (h : i < [c, 68, 59].length) → p + i < n ∧ fitC [c, 68, 59][i] (t (p + i)) = true) → p + 2 < n ∧ 48 ≤ t (p + 1) ∧ t (p + 1) ≤ 57 := by
    intro c h1
    have a1 := h1 1 (by simp)
    have a2 := h1 2 (by simp)
    have := a1.2
    unfold fitC at this
    exact ⟨a2.1, by simpa using this⟩
  rcases hc with hc | hc
  · rw [show shp (t p) = [116, 68, 59] by rw [hc]; rfl] at h1
    exact key 116 h1
  · rw [show shp (t p) = [108, 68, 59] by rw [hc]; rfl] at h1
    exact key 108 h1
theorem stE_g {p : Nat} (h : stE t n p = none) (hc : t p = 103) : p + 4 < n ∧ (48 ≤ t (p + 1) ∧ t (p + 1) ≤ 57) ∧ (48 ≤ t (p + 2) ∧ t (p + 2) ≤ 57) ∧ (48 ≤ t (p + 3) ∧ t (p + 3) ≤ 57) := by
  have h1 := fbad_none (stE_lt h).2.1
  rw [show shp (t p) = [103, 68, 68, 68, 59] by rw [hc]; rfl] at h1
  have a1 := h1 1 (by decide)
  have a2 := h1 2 (by decide)
  have a3 := h1 3 (by decide)
  have a4 := h1 4 (by decide)
  refine ⟨a4.1, ?_, ?_, ?_⟩
  · have := a1.2; unfold fitC at this; simpa using this
  · have := a2.2; unfold fitC at this; simpa using this
  · have := a3.2; unfold fitC at this; simpa using this
theorem stE_4 {p : Nat} (h : stE t n p = none) : t p = 107 ∨ t p = 116 ∨ t p = 108 ∨ t p = 103 := by
  have h3 := (stE_lt h).2.2
  unfold sln shp at h3
  by_cases h1 : t p = 107
  · exact Or.inl h1
  · by_cases h2 : t p = 116
    · exact Or.inr (Or.inl h2)
    · by_cases h4 : t p = 108
      · exact Or.inr (Or.inr (Or.inl h4))
      · by_cases h5 : t p = 103
        · exact Or.inr (Or.inr (Or.inr h5))
        · rw [if_neg h1, if_neg h2, if_neg h4, if_neg h5] at h3
          simp at h3
/-- what tellStatement leaves: the answer, and the yard -/
def telQ (y : Nat) (w : mW) (D : Yd) (o : Option Yd) (r : Option mV) (u : mW) : Prop := r = some (mI (bI o.isSome)) ∧ Off y w u ∧ YardAt u y (o.getD D)
theorem ev_tellStatement {y : Nat} {D : Yd} (hL : LetAt w t n) (hY : YardAt w y D) (hI : YI D) (hd : 5 ≤ d) {p : Nat} (hp : stE t n p = none) : Cl l d MX0_tellStatement [mR 7 0, mR 1 y, mI (nI p)] w (telQ y w D (telS t D p)) := by
  show Ev l d MX0_tellStatement 0 [some (mR 7 0), some (mR 1 y), some (mI (nI p))] [] w _
  have hn96 := hL.2.2.1
  have hpn := (stE_lt hp).1
  have h256 := hL.2.2.2 p hpn
  refine Ev.blk kX0_tellStatement_0 rfl trivial ?_
  refine Ev.cV (d1 := d - 1) (ev_signAt hL (by omega)) tX0_tellStatement_2 qX0_56 rfl rfl (by decide) ⟨rfl, rfl, rfl⟩ (by omega) ?_
  rintro _ _ ⟨rfl, rfl⟩
  rw [if_pos hpn]
  have sw : ∀ c, c < 256 → mswo sX0_tellStatement_5 (nI c) = if c = 107 then 43 else if c = 116 then 69 else if c = 108 then 81 else if c = 103 then 93 else 112 := by decide +kernel
  have hsw := sw _ h256
  unfold telS
  rcases stE_4 hp with h1 | h1 | h1 | h1
  · rw [if_pos h1] at hsw ⊢
    obtain ⟨g1, g2, g3, g4, g5⟩ := stE_k hp h1
    obtain ⟨kd, hk⟩ := Option.isSome_iff_exists.mp g2
    have hk8 := (fst1_spec hk).1
    rw [hk]
    have hc1 : cel t (p + 2) < 1000 := by show 10 * (t (p + 2) - 48) + (t (p + 3) - 48) < 1000; omega
    have hc2 : dgt t (p + 4) < 1000 := by unfold dgt; omega
    refine Ev.sw (tgt := 48) tX0_tellStatement_5 hsw (by decide) ?_
    refine Ev.blk kX0_tellStatement_48 rfl trivial ?_
    rw [nI_add]
    refine Ev.cV (d1 := d - 1) (ev_kindAt hL (by omega) (show p + 1 < n by omega)) tX0_tellStatement_53 qX0_60 rfl rfl (by decide) ⟨rfl, rfl, rfl⟩ (by omega) ?_
    rintro _ _ ⟨rfl, rfl⟩
    rw [hk]
    refine Ev.blk kX0_tellStatement_56 rfl trivial ?_
    rw [nI_add]
    refine Ev.cV (d1 := d - 1) (ev_cellAt hL (by omega) (show p + 2 + 1 < n by omega) g3.1 g4.1) tX0_tellStatement_60 qX0_63 rfl rfl (by decide) ⟨rfl, rfl, rfl⟩ (by omega) ?_
    rintro _ _ ⟨rfl, rfl⟩
    refine Ev.blk kX0_tellStatement_63 rfl trivial ?_
    rw [nI_add]
    refine Ev.cV (d1 := d - 1) (ev_digitAt hL (by omega) (show p + 4 < n by omega) g5.1) tX0_tellStatement_67 qX0_66 rfl rfl (by decide) ⟨rfl, rfl, rfl⟩ (by omega) ?_
    rintro _ _ ⟨rfl, rfl⟩
    refine Ev.cV (d1 := d - 1) (ev_add hY hI (by omega) (show kd < 1000 by omega) hc1 hc2) tX0_tellStatement_70 qX0_69 rfl rfl (by decide) ⟨rfl, rfl, rfl⟩ (by omega) ?_
    rintro _ _ ⟨rfl, ho, hE⟩
    refine Ev.iret tX0_tellStatement_73 rfl (bI_nar _) ?_
    show telQ _ _ _ (if addB D kd (cel t (p + 2)) (dgt t (p + 4)) = true then some (addY D kd (cel t (p + 2)) (dgt t (p + 4))) else none) _ _
    cases hb : addB D kd (cel t (p + 2)) (dgt t (p + 4))
    · rw [hb] at hE
      exact ⟨rfl, ho, hE⟩
    · rw [hb] at hE
      exact ⟨rfl, ho, hE⟩
  · rw [if_neg (by omega), if_pos h1] at hsw ⊢
    obtain ⟨g1, g2, g3⟩ := stE_tl hp (Or.inl h1)
    have hc2 : dgt t (p + 1) < 1000 := by unfold dgt; omega
    refine Ev.sw (tgt := 74) tX0_tellStatement_5 hsw (by decide) ?_
    refine Ev.blk kX0_tellStatement_74 rfl trivial ?_
    rw [nI_add]
    refine Ev.cV (d1 := d - 1) (ev_digitAt hL (by omega) (show p + 1 < n by omega) g2) tX0_tellStatement_79 qX0_66 rfl rfl (by decide) ⟨rfl, rfl, rfl⟩ (by omega) ?_
    rintro _ _ ⟨rfl, rfl⟩
    refine Ev.cV (d1 := d - 1) (ev_turnOver hY hI (by omega) hc2) tX0_tellStatement_82 qX0_75 rfl rfl (by decide) ⟨rfl, rfl, rfl⟩ (by omega) ?_
    rintro _ _ ⟨rfl, ho, hE⟩
    refine Ev.iret tX0_tellStatement_85 rfl (bI_nar _) ?_
    cases hb : (decide (dgt t (p + 1) < dn D) && !isC D (dgt t (p + 1)))
    · rw [hb] at hE
      exact ⟨rfl, ho, hE⟩
    · rw [hb] at hE
      exact ⟨rfl, ho, hE⟩
  · rw [if_neg (by omega), if_neg (by omega), if_pos h1] at hsw ⊢
    obtain ⟨g1, g2, g3⟩ := stE_tl hp (Or.inr h1)
    refine Ev.sw (tgt := 86) tX0_tellStatement_5 hsw (by decide) ?_
    by_cases h4 : dgt t (p + 1) < 4
    · rw [if_pos h4]
      refine Ev.blk kX0_tellStatement_86 rfl trivial ?_
      rw [nI_add]
      refine Ev.cV (d1 := d - 1) (ev_digitAt hL (by omega) (show p + 1 < n by omega) g2) tX0_tellStatement_91 qX0_66 rfl rfl (by decide) ⟨rfl, rfl, rfl⟩ (by omega) ?_
      rintro _ _ ⟨rfl, rfl⟩
      refine Ev.cV (d1 := d - 1) (ev_setLaw hY h4) tX0_tellStatement_94 qX0_79 rfl rfl (by decide) ⟨rfl, rfl, rfl⟩ (by omega) ?_
      rintro _ _ ⟨rfl, ho, hE⟩
      refine Ev.iret tX0_tellStatement_97 rfl rfl ?_
      exact ⟨rfl, ho, hE⟩
    · rw [if_neg h4]
      have hc2 : dgt t (p + 1) < 1000 := by unfold dgt; omega
      refine Ev.blk kX0_tellStatement_86 rfl trivial ?_
      rw [nI_add]
      refine Ev.cV (d1 := d - 1) (ev_digitAt hL (by omega) (show p + 1 < n by omega) g2) tX0_tellStatement_91 qX0_66 rfl rfl (by decide) ⟨rfl, rfl, rfl⟩ (by omega) ?_
      rintro _ _ ⟨rfl, rfl⟩
      refine Ev.cV (d1 := d - 1) (ev_setLaw_no (y := y) (Or.inr (nI_le (by omega) (by omega)))) tX0_tellStatement_94 qX0_79 rfl rfl (by decide) ⟨rfl, rfl, rfl⟩ (by omega) ?_
      rintro _ _ ⟨rfl, rfl⟩
      refine Ev.iret tX0_tellStatement_97 rfl rfl ?_
      exact ⟨rfl, Off.rf, hY⟩
  · rw [if_neg (by omega), if_neg (by omega), if_neg (by omega)] at hsw ⊢
    rw [if_pos h1] at hsw
    obtain ⟨g1, g2, g3, g4⟩ := stE_g hp h1
    have hc1 : cel t (p + 2) < 1000 := by show 10 * (t (p + 2) - 48) + (t (p + 3) - 48) < 1000; omega
    have hc2 : dgt t (p + 1) < 1000 := by unfold dgt; omega
    refine Ev.sw (tgt := 98) tX0_tellStatement_5 hsw (by decide) ?_
    refine Ev.blk kX0_tellStatement_98 rfl trivial ?_
    rw [nI_add]
    refine Ev.cV (d1 := d - 1) (ev_digitAt hL (by omega) (show p + 1 < n by omega) g2.1) tX0_tellStatement_103 qX0_66 rfl rfl (by decide) ⟨rfl, rfl, rfl⟩ (by omega) ?_
    rintro _ _ ⟨rfl, rfl⟩
    refine Ev.blk kX0_tellStatement_106 rfl trivial ?_
    rw [nI_add]
    refine Ev.cV (d1 := d - 1) (ev_cellAt hL (by omega) (show p + 2 + 1 < n by omega) g3.1 g4.1) tX0_tellStatement_110 qX0_63 rfl rfl (by decide) ⟨rfl, rfl, rfl⟩ (by omega) ?_
    rintro _ _ ⟨rfl, rfl⟩
    refine Ev.cV (d1 := d - 1) (ev_put hY hI (by omega) hc2 hc1) tX0_tellStatement_113 qX0_82 rfl rfl (by decide) ⟨rfl, rfl, rfl⟩ (by omega) ?_
    rintro _ _ ⟨rfl, ho, hE⟩
    refine Ev.iret tX0_tellStatement_116 rfl (bI_nar _) ?_
    cases hb : (decide (dgt t (p + 1) < dn D) && decide (cel t (p + 2) < 24))
    · rw [hb] at hE
      exact ⟨rfl, ho, hE⟩
    · rw [hb] at hE
      exact ⟨rfl, ho, hE⟩
theorem addY_YI {D : Yd} (hI : YI D) {k c f : Nat} (h : addB D k c f = true) : YI (addY D k c f) := by
  unfold addB at h
  simp at h
  obtain ⟨hk, hc, hf, hn⟩ := h
  obtain ⟨h1, h2, h3, h4, h5, h6, h7, h8⟩ := hI
  refine ⟨hn, fun j hj => ?_, h3, fun j hj => ?_, fun j hj => ?_, h6, fun x hx => ?_, h8⟩
  · show va_up (dk D) (dn D) k j < 8 ∧ va_up (dc D) (dn D) c j < 24 ∧ va_up (df D) (dn D) f j < 8
    have hj : j < dn D + 1 := hj
    unfold va_up
    by_cases e : j = dn D
    · rw [if_pos e, if_pos e, if_pos e]; exact ⟨hk, hc, hf⟩
    · rw [if_neg e, if_neg e, if_neg e]; exact h2 j (by omega)
  · show j < dn D + 1 ∧ va_up (dk D) (dn D) k j < 4
    obtain ⟨g1, g2⟩ := h4 j hj
    unfold va_up
    rw [if_neg (by omega)]
    exact ⟨by omega, g2⟩
  · have hj : dn D + 1 ≤ j := hj
    exact h5 j (by omega)
  · have hx : dn D + 1 ≤ x / 8 ∨ dn D + 1 ≤ x % 8 := hx
    exact h7 x (by omega)
theorem telS_YI {D E : Yd} (hI : YI D) {p : Nat} (h : telS t D p = some E) : YI E ∧ da E = da D ∧ dg E = dg D ∧ de E = de D := by
  unfold telS at h
  split at h
  · split at h
    · cases h
      exact ⟨addY_YI hI (by assumption), rfl, rfl, rfl⟩
    · cases h
  · split at h
    · split at h
      · rename_i hb
        cases h
        simp only [Bool.and_eq_true, decide_eq_true_eq, Bool.not_eq_true'] at hb
        refine ⟨hI.us (fun j hj => ?_), rfl, rfl, rfl⟩
        unfold va_up at hj
        split at hj
        · rename_i e
          subst e
          refine ⟨hb.1, ?_⟩
          have := hb.2
          unfold isC at this
          simp at this
          omega
        · exact hI.st hj
      · cases h
    · split at h
      · split at h
        · cases h
          rename_i hv
          exact ⟨⟨hI.1, hI.2.1, hI.2.2.1, hI.2.2.2.1, hI.2.2.2.2.1, hI.2.2.2.2.2.1, hI.2.2.2.2.2.2.1, hv, hI.2.2.2.2.2.2.2.2⟩, rfl, rfl, rfl⟩
        · cases h
      · split at h
        · rename_i hb
          cases h
          simp only [Bool.and_eq_true, decide_eq_true_eq] at hb
          exact ⟨hI.uc hb.2, rfl, rfl, rfl⟩
        · cases h
/-- where P holds, all is as it was -/
def Sm (P : Nat → Nat → Prop) (w u : mW) : Prop := (∀ t i k, P t i → mgf u t i k = mgf w t i k) ∧ ∀ t i, P t i → mga u t i = mga w t i
theorem Sm.rf {P : Nat → Nat → Prop} : Sm P w w := ⟨fun _ _ _ _ => rfl, fun _ _ _ => rfl⟩
theorem Sm.tr {P : Nat → Nat → Prop} {u v : mW} (h : Sm P w u) (k : Sm P u v) : Sm P w v := ⟨fun t i j hp => (k.1 t i j hp).trans (h.1 t i j hp), fun t i hp => (k.2 t i hp).trans (h.2 t i hp)⟩
theorem Sm.sub {P P' : Nat → Nat → Prop} {u : mW} (h : Sm P w u) (hs : ∀ t i, P' t i → P t i) : Sm P' w u := ⟨fun t i k hp => h.1 t i k (hs t i hp), fun t i hp => h.2 t i (hs t i hp)⟩
theorem Off.sm {y : Nat} {u : mW} (h : Off y w u) : Sm (fun t i => ¬ ((1 ≤ t ∧ t ≤ 6) ∧ i = y)) w u := ⟨fun t i k hp => h.1 t i k (fun ⟨a, b⟩ => hp ⟨by omega, b⟩), fun t i hp => h.2 t i (fun ⟨a, b⟩ => hp ⟨by omega, b⟩)⟩
theorem OffL.sm {u : mW} (h : OffL w u) : Sm (fun t _ => t ≠ 7 ∧ t ≠ 8) w u := ⟨fun t i k hp => h.1 t i k hp.1, fun t i hp => h.2 t i hp.2⟩
theorem LetAt.sm {P : Nat → Nat → Prop} {u : mW} (h : LetAt w t n) (hs : Sm P w u) (h7 : P 7 0) (h8 : P 8 0) : LetAt u t n := ⟨by rw [hs.1 7 0 1 h7]; exact h.1, by rw [hs.2 8 0 h8]; exact h.2.1, h.2.2⟩
theorem YardAt.sm {P : Nat → Nat → Prop} {u : mW} {y : Nat} {D : Yd} (h : YardAt w y D) (hs : Sm P w u) (hp : ∀ t, 1 ≤ t → t ≤ 6 → P t y) : YardAt u y D := by
  refine ⟨⟨?_, ?_, ?_, ?_, ?_⟩, ?_, ?_, ?_, ?_, ?_, ?_⟩
  · rw [hs.2 2 y (hp 2 (by decide) (by decide))]; exact h.1.1
  · rw [hs.2 3 y (hp 3 (by decide) (by decide))]; exact h.1.2.1
  · rw [hs.2 4 y (hp 4 (by decide) (by decide))]; exact h.1.2.2.1
  · rw [hs.2 5 y (hp 5 (by decide) (by decide))]; exact h.1.2.2.2.1
  · rw [hs.2 6 y (hp 6 (by decide) (by decide))]; exact h.1.2.2.2.2
  · rw [hs.1 1 y 5 (hp 1 (by decide) (by decide))]; exact h.n
  · rw [hs.1 1 y 6 (hp 1 (by decide) (by decide))]; exact h.s
  · rw [hs.1 1 y 7 (hp 1 (by decide) (by decide))]; exact h.l
  · rw [hs.1 1 y 8 (hp 1 (by decide) (by decide))]; exact h.e
  · rw [hs.1 1 y 9 (hp 1 (by decide) (by decide))]; exact h.g
  · rw [hs.1 1 y 10 (hp 1 (by decide) (by decide))]; exact h.a
def tellQ (y : Nat) (w : mW) (t : Nat → Nat) (n : Nat) (o : Nat ⊕ (Yd × Nat)) (r : Option mV) (u : mW) : Prop :=
  Sm (fun t i => ¬ ((1 ≤ t ∧ t ≤ 6) ∧ i = y) ∧ t ≠ 7) w u ∧ LetAt u t n ∧ (match o with
    | .inl p => r = some (mI (nI p))
    | .inr (E, m) => r = some (mI (-9)) ∧ YardAt u y E ∧ mgf u 7 0 2 = nI m)
theorem ev_tellTo {y : Nat} {D : Yd} (hL : LetAt w t n) (hY : YardAt w y D) (hI : YI D) (hd : 6 ≤ d) (hp : prs t n (n + 1) 0 = none) : Cl l d MX0_tellTo [mR 7 0, mR 1 y] w (tellQ y w t n (telN t n (n + 1) D 0 0)) := by
  show Ev l d MX0_tellTo 0 [some (mR 7 0), some (mR 1 y), none] [] w _
  have hn96 := hL.2.2.1
  refine Ev.blk kX0_tellTo_0 rfl trivial ?_
  have key : ∀ F p E m u, n ≤ F + p → p ≤ n + 8 → (p < n → prs t n F p = none) → Sm (fun t i => ¬ ((1 ≤ t ∧ t ≤ 6) ∧ i = y) ∧ t ≠ 7) w u → LetAt u t n → YardAt u y E → YI E → mgf u 7 0 2 = nI m → Ev l d MX0_tellTo 7 [some (mR 7 0), some (mR 1 y), some (mI (nI p))] [] u (tellQ y w t n (telN t n F E p m)) := by
    intro F
    induction F with
    | zero =>
      intro p E m u h1 h2 h3 hS hL hE hEI hm
      refine Ev.blk kX0_tellTo_7 rfl trivial ?_
      simp only [hL.1]
      refine Ev.br tX0_tellTo_12 rfl (fun c12 => ?_) (fun c12 => ?_)
      · refine Ev.blk kX0_tellTo_54 rfl trivial ?_
        refine Ev.iret tX0_tellTo_56 rfl rfl ?_
        exact ⟨hS, hL, rfl, hE, hm⟩
      · exact absurd (nI_le (by omega) (by omega)) c12
    | succ F ih =>
      intro p E m u h1 h2 h3 hS hL hE hEI hm
      by_cases hpn : p < n
      · have hpr := h3 hpn
        have hst : stE t n p = none := by
          cases hz : stE t n p with
          | none => rfl
          | some q => unfold prs at hpr; rw [hz] at hpr; cases hpr
        have hln := (stE_lt hst).2.2
        have hl8 := sln8 (shS (t p)) (shS_lt _)
        rw [← sln_S] at hl8
        have e0 : telN t n (F + 1) E p m = (match telS t E p with
            | none => .inl p
            | some E' => telN t n F E' (p + sln (t p)) (m + 1)) := by
          exact if_pos hpn
        rw [e0]
        have hts := ev_tellStatement (l := l) (d := d - 1) hL hE hEI (by omega) hst
        cases htl : telS t E p with
        | none =>
          rw [htl] at hts
          refine Ev.blk kX0_tellTo_7 rfl trivial ?_
          simp only [hL.1]
          refine Ev.br tX0_tellTo_12 rfl (fun c12 => ?_) (fun c12 => ?_)
          · exact absurd c12 (nI_ge hpn (by omega))
          · refine Ev.blk kX0_tellTo_15 rfl trivial ?_
            refine Ev.cV (d1 := d - 1) (hts) tX0_tellTo_18 qX0_46 rfl rfl (by decide) ⟨rfl, rfl, rfl⟩ (by omega) ?_
            rintro _ _ ⟨rfl, ho, hE2⟩
            refine Ev.br tX0_tellTo_21 rfl (fun c21 => ?_) (fun c21 => ?_)
            · exact absurd rfl c21
            · refine Ev.blk kX0_tellTo_24 rfl trivial ?_
              refine Ev.iret tX0_tellTo_25 rfl rfl ?_
              refine ⟨hS.tr (ho.sm.sub (fun t i h => h.1)), hL.sm ho.sm (by omega) (by omega), rfl⟩
        | some E' =>
          rw [htl] at hts
          have hEI2 := (telS_YI hEI htl).1
          dsimp only
          refine Ev.blk kX0_tellTo_7 rfl trivial ?_
          simp only [hL.1]
          refine Ev.br tX0_tellTo_12 rfl (fun c12 => ?_) (fun c12 => ?_)
          · exact absurd c12 (nI_ge hpn (by omega))
          · refine Ev.blk kX0_tellTo_15 rfl trivial ?_
            refine Ev.cV (d1 := d - 1) (hts) tX0_tellTo_18 qX0_46 rfl rfl (by decide) ⟨rfl, rfl, rfl⟩ (by omega) ?_
            rintro _ _ ⟨rfl, ho, hE2⟩
            have hL2 := hL.sm ho.sm (by omega) (by omega)
            have hm2 := (ho.sm.1 7 0 2 (by omega)).trans hm
            refine Ev.br tX0_tellTo_21 rfl (fun c21 => ?_) (fun c21 => ?_)
            · refine Ev.blk kX0_tellTo_26 rfl trivial ?_
              rw [hm2, nI_add]
              have hL3 : LetAt (mpf _ 7 0 2 (nI (m + 1))) t n := ⟨(mgf_pfn (by simp)).trans hL2.1, hL2.2⟩
              refine Ev.cV (d1 := d - 1) (ev_shapeAt hL3 (by omega) hpn) tX0_tellTo_40 qX0_34 rfl rfl (by decide) ⟨rfl, rfl, rfl⟩ (by omega) ?_
              rintro _ _ ⟨rfl, rfl⟩
              refine Ev.cV (d1 := d - 1) (ev_strlen (by omega) (shS_lt (t p))) tX0_tellTo_43 qX0_28 rfl rfl (by decide) ⟨rfl, rfl, rfl⟩ (by omega) ?_
              rintro _ _ ⟨rfl, rfl⟩
              refine Ev.mmax tX0_tellTo_46 qX0_50 (by omega) (Nat.le_of_ble_eq_true rfl) ?_
              rw [imx_n (by omega) (by rw [← sln_S]; omega), if_pos (by rw [← sln_S]; omega), ← sln_S]
              refine Ev.blk kX0_tellTo_49 rfl trivial ?_
              rw [nI_add]
              refine Ev.jmp tX0_tellTo_51 ?_
              refine ih (p + sln (t p)) E' (m + 1) _ (by omega) (by omega) ?_ ((hS.tr (ho.sm.sub (fun t i h => h.1))).tr ?_) hL3 ?_ hEI2 mgf_pf
              · intro hlt
                unfold prs at hpr
                rw [hst] at hpr
                dsimp only at hpr
                rw [if_pos hlt] at hpr
                exact hpr
              · exact ⟨fun t i k h => mgf_pfn (fun z => h.2 z.1), fun _ _ _ => rfl⟩
              · exact hE2.sm (P := fun t _ => t ≠ 7) ⟨fun t i k h => mgf_pfn (fun z => h z.1), fun _ _ _ => rfl⟩ (fun t h1 h2 => by omega)
            · exact absurd (show ¬ bI true = nI 0 by decide) c21
      · have e0 : telN t n (F + 1) E p m = .inr (E, m) := by
          exact if_neg hpn
        rw [e0]
        refine Ev.blk kX0_tellTo_7 rfl trivial ?_
        simp only [hL.1]
        refine Ev.br tX0_tellTo_12 rfl (fun c12 => ?_) (fun c12 => ?_)
        · refine Ev.blk kX0_tellTo_54 rfl trivial ?_
          refine Ev.iret tX0_tellTo_56 rfl rfl ?_
          exact ⟨hS, hL, rfl, hE, hm⟩
        · exact absurd (nI_le (by omega) (by omega)) c12
  exact key (n + 1) 0 D 0 _ (by omega) (by omega) (fun _ => hp) ⟨fun t i k h => mgf_pfn (fun z => h.2 z.1), fun _ _ _ => rfl⟩ ⟨(mgf_pfn (by simp)).trans hL.1, hL.2⟩ (hY.sm (P := fun t _ => t ≠ 7) ⟨fun t i k h => mgf_pfn (fun z => h z.1), fun _ _ _ => rfl⟩ (fun t h1 h2 => by omega)) hI mgf_pf
end L2
end
section
/-! ===== the whole state: what the class holds, and what both answer ===== -/
/-- now; is there an image, the image; letters, how many; the row, how many; refusals -/
abbrev St : Type := Yd × Bool × Yd × (Nat → Nat) × Nat × (Nat → Nat) × Nat × (Nat → Nat)
def sN (st : St) : Yd := st.1
def sB (st : St) : Bool := st.2.1
def sK (st : St) : Yd := st.2.2.1
def sT (st : St) : Nat → Nat := st.2.2.2.1
def sL (st : St) : Nat := st.2.2.2.2.1
def sR (st : St) : Nat → Nat := st.2.2.2.2.2.1
def sM (st : St) : Nat := st.2.2.2.2.2.2.1
def sF (st : St) : Nat → Nat := st.2.2.2.2.2.2.2
def vN (st : St) (D : Yd) : St := (D, sB st, sK st, sT st, sL st, sR st, sM st, sF st)
def vK (st : St) (D : Yd) : St := (sN st, true, D, sT st, sL st, sR st, sM st, sF st)
def vL (st : St) (t : Nat → Nat) (n : Nat) : St := (sN st, sB st, sK st, t, n, sR st, sM st, sF st)
def vR (st : St) (f : Nat → Nat) (m : Nat) : St := (sN st, sB st, sK st, sT st, sL st, f, m, sF st)
def vF (st : St) (f : Nat → Nat) : St := (sN st, sB st, sK st, sT st, sL st, sR st, sM st, f)
/-- a refusal is counted -/
def rfs (st : St) (k : Nat) : St := vF st (va_up (sF st) k (sF st k + 1))
/-- a yard as it stands between calls: nobody is set aside, no freeings are counted -/
def YC (D : Yd) : Prop := YI D ∧ de D ≤ 999 ∧ dg D = 0 ∧ da D = 99
def SI (st : St) : Prop := YC (sN st) ∧ (sB st = true → YC (sK st)) ∧ sL st ≤ 96 ∧ sM st ≤ 20 ∧ ∀ j, j < sM st → sR st j ≤ 8
def KlsAt (w : mW) (st : St) : Prop :=
  (∃ g, YardAt w 0 (ug (sN st) g)) ∧ mgf w 0 0 4 = bI (sB st) ∧ (sB st = true → YardAt w 3 (sK st)) ∧ LetAt w (sT st) (sL st) ∧ mgf w 0 0 7 = nI (sM st) ∧ (∀ j, j < sM st → mga w 9 0 j = nI (sR st j)) ∧ ∀ j, j < 7 → mga w 10 0 j = nI (sF st j)
/-- an answer, and the state behind it; the reference's cells are as they were -/
def CP (w : mW) (p : Int32 × St) (r : Option mV) (u : mW) : Prop := r = some (mI p.1) ∧ Sm (fun t _ => 11 ≤ t) w u ∧ KlsAt u p.2
theorem YC.can {D : Yd} (h : YC D) (g : Nat) : ua (ug (ug D g) 0) 99 = D := Yd_ext rfl rfl rfl rfl rfl rfl rfl rfl rfl h.2.2.1.symm h.2.2.2.symm
theorem YC.ug {D : Yd} (h : YC D) (g : Nat) : YI (ug D g) := h.1
section CA
variable {w u : mW} {st : St}
theorem KlsAt.keep {P : Nat → Nat → Prop} (h : KlsAt w st) (hs : Sm P w u) (hP : ∀ t i, t ≤ 10 → ¬ ((1 ≤ t ∧ t ≤ 6) ∧ (i = 1 ∨ i = 2)) → P t i) : KlsAt u st := by
  obtain ⟨⟨g, h1⟩, h2, h3, h4, h5, h6, h7⟩ := h
  refine ⟨⟨g, h1.sm hs (fun t a b => hP t 0 (by omega) (by omega))⟩, by rw [hs.1 0 0 4 (hP 0 0 (by omega) (by omega))]; exact h2, fun hb => (h3 hb).sm hs (fun t a b => hP t 3 (by omega) (by omega)), h4.sm hs (hP 7 0 (by omega) (by omega)) (hP 8 0 (by omega) (by omega)), by rw [hs.1 0 0 7 (hP 0 0 (by omega) (by omega))]; exact h5, ?_, ?_⟩
  · rw [hs.2 9 0 (hP 9 0 (by omega) (by omega))]; exact h6
  · rw [hs.2 10 0 (hP 10 0 (by omega) (by omega))]; exact h7
theorem KlsAt.mind {y : Nat} (h : KlsAt w st) (ho : Off y w u) (hy : y = 1 ∨ y = 2) : KlsAt u st := h.keep ho.sm (fun t i a b => by omega)
theorem KlsAt.now (h : KlsAt w st) (ho : Off 0 w u) {D : Yd} {g : Nat} (hY : YardAt u 0 (ug D g)) : KlsAt u (vN st D) := by
  obtain ⟨h1, h2, h3, h4, h5, h6, h7⟩ := h
  have hs := ho.sm
  refine ⟨⟨g, hY⟩, by rw [hs.1 0 0 4 (by omega)]; exact h2, fun hb => (h3 hb).sm hs (fun t a b => by omega), h4.sm hs (by omega) (by omega), by rw [hs.1 0 0 7 (by omega)]; exact h5, ?_, ?_⟩
  · rw [hs.2 9 0 (by omega)]; exact h6
  · rw [hs.2 10 0 (by omega)]; exact h7
theorem KlsAt.ltr (h : KlsAt w st) (ho : OffL w u) {t : Nat → Nat} {n : Nat} (hL : LetAt u t n) : KlsAt u (vL st t n) := by
  obtain ⟨⟨g, h1⟩, h2, h3, h4, h5, h6, h7⟩ := h
  have hs := ho.sm
  refine ⟨⟨g, h1.sm hs (fun t a b => ⟨by omega, by omega⟩)⟩, by rw [hs.1 0 0 4 ⟨by omega, by omega⟩]; exact h2, fun hb => (h3 hb).sm hs (fun t a b => ⟨by omega, by omega⟩), hL, by rw [hs.1 0 0 7 ⟨by omega, by omega⟩]; exact h5, ?_, ?_⟩
  · rw [hs.2 9 0 ⟨by omega, by omega⟩]; exact h6
  · rw [hs.2 10 0 ⟨by omega, by omega⟩]; exact h7
theorem Off.up {y : Nat} (h : Off y w u) : Sm (fun t _ => 11 ≤ t) w u := h.sm.sub (fun t i a b => by omega)
theorem OffL.up (h : OffL w u) : Sm (fun t _ => 11 ≤ t) w u := h.sm.sub (fun t i a => ⟨by omega, by omega⟩)
end CA
def outs (n a b : Int32) : Int32 := if n < a then -4 else if b < n then -6 else nI 0
section C1
variable {l : Launch} {d : Nat} {w : mW} {st : St}
theorem ev_outside (n a b : Int32) : Cl l d MX2_outside [mI n, mI a, mI b] w (fun r u => u = w ∧ r = some (mI (outs n a b))) := by
  show Ev l d MX2_outside 0 [some (mI n), some (mI a), some (mI b)] [] w _
  refine Ev.blk kX2_outside_0 rfl trivial ?_
  refine Ev.br tX2_outside_2 rfl (fun c2 => ?_) (fun c2 => ?_)
  · refine Ev.blk kX2_outside_8 rfl trivial ?_
    refine Ev.br tX2_outside_10 rfl (fun c10 => ?_) (fun c10 => ?_)
    · refine Ev.blk kX2_outside_18 rfl trivial ?_
      refine Ev.iret tX2_outside_19 rfl rfl ?_
      refine ⟨rfl, ?_⟩
      unfold outs
      first
        | (rw [if_pos (Int32.not_le.mp c2)])
        | (rw [if_neg (Int32.not_lt.mpr c2), if_neg (Int32.not_lt.mpr c10)])
        | (rw [if_neg (Int32.not_lt.mpr c2), if_pos (Int32.not_le.mp c10)])
    · refine Ev.blk kX2_outside_13 rfl trivial ?_
      refine Ev.jmp tX2_outside_15 ?_
      refine Ev.iret tX2_outside_19 rfl rfl ?_
      refine ⟨rfl, ?_⟩
      unfold outs
      first
        | (rw [if_pos (Int32.not_le.mp c2)])
        | (rw [if_neg (Int32.not_lt.mpr c2), if_neg (Int32.not_lt.mpr c10)])
        | (rw [if_neg (Int32.not_lt.mpr c2), if_pos (Int32.not_le.mp c10)])
  · refine Ev.blk kX2_outside_5 rfl trivial ?_
    refine Ev.iret tX2_outside_7 rfl rfl ?_
    refine ⟨rfl, ?_⟩
    unfold outs
    first
      | (rw [if_pos (Int32.not_le.mp c2)])
      | (rw [if_neg (Int32.not_lt.mpr c2), if_neg (Int32.not_lt.mpr c10)])
      | (rw [if_neg (Int32.not_lt.mpr c2), if_pos (Int32.not_le.mp c10)])
theorem ev_refuse (hC : KlsAt w st) {why : Int32} {k : Nat} (hk : 0 < k ∧ k < 7) (hw : -why = nI k) : Cl l d MX2_refuse [mR 0 0, mI why] w (fun r u => CP w (why, rfs st k) r u) := by
  show Ev l d MX2_refuse 0 [some (mR 0 0), some (mI why), none] [] w _
  have h7 := hC.2.2.2.2.2.2
  refine Ev.blk kX2_refuse_0 rfl trivial ?_
  rw [hw]
  refine Ev.br tX2_refuse_4 rfl (fun c4 => ?_) (fun c4 => ?_)
  · exact absurd c4 (by rw [nI_leI (by omega) (by omega)]; omega)
  · refine Ev.blk kX2_refuse_7 rfl trivial ?_
    refine Ev.br tX2_refuse_13 rfl (fun c13 => ?_) (fun c13 => ?_)
    · exact absurd c13 (by show ¬ nI 7 ≤ nI k; rw [nI_leI (by omega) (by omega)]; omega)
    · refine Ev.blk kX2_refuse_16 rfl ⟨⟨trivial, vinN (show k < 7 by omega) (by decide)⟩, vinN (show k < 7 by omega) (by decide)⟩ ?_
      rw [ixN (by omega), h7 k (by omega), nI_add]
      refine Ev.blk kX2_refuse_26 rfl trivial ?_
      refine Ev.iret tX2_refuse_27 rfl rfl ?_
      refine ⟨rfl, ⟨fun _ _ _ _ => rfl, fun t i h => mga_pAn (by omega)⟩, ?_⟩
      obtain ⟨⟨g, h1⟩, h2, h3, h4, h5, h6, h7⟩ := hC
      have hs : Sm (fun t _ => t ≠ 10) w (mpA w 10 0 (upd (mga w 10 0) k (nI (sF st k + 1)))) := ⟨fun _ _ _ _ => rfl, fun t i h => mga_pAn (by omega)⟩
      refine ⟨⟨g, h1.sm hs (fun t a b => by omega)⟩, h2, fun hb => (h3 hb).sm hs (fun t a b => by omega), h4.sm hs (by omega) (by omega), h5, ?_, ?_⟩
      · rw [hs.2 9 0 (by omega)]; exact h6
      · rw [mga_pA]; exact upd_nI h7
def P_letter (st : St) (c : Int32) : Int32 × St := if c < nI 0 then (-4, rfs st 4) else if nI 255 < c ∨ sL st = 96 then (-6, rfs st 6) else (nI (sL st + 1), vL st (va_up (sT st) (sL st) c.toNatClampNeg) (sL st + 1))
theorem ev_letter (hC : KlsAt w st) (hd : 2 ≤ d) (c : Int32) : Cl l d MX2_letter [mR 0 0, mI c] w (fun r u => CP w (P_letter st c) r u) := by
  show Ev l d MX2_letter 0 [some (mR 0 0), some (mI c)] [] w _
  have hL := hC.2.2.2.1
  have h96 := hL.2.2.1
  unfold P_letter
  refine Ev.blk kX2_letter_0 rfl trivial ?_
  refine Ev.br tX2_letter_1 rfl (fun c1 => ?_) (fun c1 => ?_)
  · refine Ev.blk kX2_letter_11 rfl trivial ?_
    refine Ev.br tX2_letter_15 rfl (fun c15 => ?_) (fun c15 => ?_)
    · refine Ev.blk kX2_letter_28 rfl trivial ?_
      refine Ev.cV (d1 := d - 1) (ev_refuse hC (k := 6) (by decide) (by decide)) tX2_letter_31 qX2_39 rfl rfl (by decide) ⟨rfl, rfl, rfl⟩ (by omega) ?_
      rintro _ _ ⟨rfl, hS, hC2⟩
      refine Ev.iret tX2_letter_34 rfl rfl ?_
      rw [if_neg (Int32.not_lt.mpr c1)]
      first
        | (rw [if_pos (Or.inl c15)]; exact ⟨rfl, hS, hC2⟩)
        | (rw [if_pos (Or.inr hr)]; exact ⟨rfl, hS, hC2⟩)
    · refine Ev.blk kX2_letter_18 rfl trivial ?_
      refine Ev.cV (d1 := d - 1) (ev_hasRoom hL) tX2_letter_22 qX2_43 rfl rfl (by decide) ⟨rfl, rfl, rfl⟩ (by omega) ?_
      rintro _ _ ⟨rfl, rfl⟩
      refine Ev.br tX2_letter_25 rfl (fun c25 => ?_) (fun c25 => ?_)
      · rw [bI_0] at c25
        have hr : sL st < 96 := by simpa using c25
        obtain ⟨j, hj, rfl⟩ : ∃ j, j < 256 ∧ c = nI j := by
          rcases pk_ix c (n := 256) (by decide) with g | g | ⟨j, g1, g2⟩
          · exact absurd g (Int32.not_lt.mpr c1)
          · exact absurd (Int32.lt_of_lt_of_le (by decide) g) c15
          · exact ⟨j, g1, g2⟩
        refine Ev.blk kX2_letter_35 rfl trivial ?_
        refine Ev.cV (d1 := d - 1) (ev_hear hL (by omega) hr hj) tX2_letter_40 qX2_47 rfl rfl (by decide) ⟨rfl, rfl, rfl⟩ (by omega) ?_
        rintro _ _ ⟨rfl, ho, hL2⟩
        rw [if_neg (Int32.not_lt.mpr c1), if_neg (by intro z; rcases z with z | z; exact c15 z; omega), ixN (by omega)]
        exact Ev.iret tX2_letter_43 rfl rfl ⟨rfl, ho.up, hC.ltr ho hL2⟩
      · rw [bI_0] at c25
        have hr : sL st = 96 := by have := Decidable.not_not.mp c25; simp at this; omega
        refine Ev.blk kX2_letter_28 rfl trivial ?_
        refine Ev.cV (d1 := d - 1) (ev_refuse hC (k := 6) (by decide) (by decide)) tX2_letter_31 qX2_39 rfl rfl (by decide) ⟨rfl, rfl, rfl⟩ (by omega) ?_
        rintro _ _ ⟨rfl, hS, hC2⟩
        refine Ev.iret tX2_letter_34 rfl rfl ?_
        rw [if_neg (Int32.not_lt.mpr c1)]
        first
          | (rw [if_pos (Or.inl c15)]; exact ⟨rfl, hS, hC2⟩)
          | (rw [if_pos (Or.inr hr)]; exact ⟨rfl, hS, hC2⟩)
  · refine Ev.blk kX2_letter_4 rfl trivial ?_
    refine Ev.cV (d1 := d - 1) (ev_refuse hC (k := 4) (by decide) (by decide)) tX2_letter_7 qX2_39 rfl rfl (by decide) ⟨rfl, rfl, rfl⟩ (by omega) ?_
    rintro _ _ ⟨rfl, hS, hC2⟩
    refine Ev.iret tX2_letter_10 rfl rfl ?_
    rw [if_pos (Int32.not_le.mp c1)]
    exact ⟨rfl, hS, hC2⟩
end C1
end
section
/-! ===== what each call answers, and the state behind it: the words of both sides ===== -/
section GG
variable {D : Yd} {f : Nat → Nat} {g i : Nat}
/-- who freed whom, and how often in mind, changes nothing else -/
def GU (D : Yd) (f : Nat → Nat) (g : Nat) : Yd := ug (ur D f) g
theorem GU_id : GU D (dr D) (dg D) = D := rfl
theorem capL_E {E : Yd} (h1 : isC E = isC D) (h2 : dc E = dc D) (c : Nat) : ∀ i, capL E c i = capL D c i
  | 0 => rfl
  | i + 1 => by
    unfold capL
    rw [capL_E h1 h2 c i, h1, h2]
theorem cap_G : cap (GU D f g) = cap D := funext fun c => capL_E (D := D) (E := GU D f g) rfl rfl c (dn D)
theorem awy_G : awy (GU D f g) = awy D := by
  have h : awS (GU D f g) = awS D := by
    funext c b way
    unfold awS
    rw [cap_G]
  funext c
  unfold awy
  rw [h]
theorem cap_g : cap (ug D g) = cap D := cap_G (D := D) (f := dr D) (g := g)
theorem awy_g : awy (ug D g) = awy D := awy_G (D := D) (f := dr D) (g := g)
theorem cat_G : cat (GU D f g) i = GU (cat D i) f g := by
  unfold cat
  simp only [show dk (GU D f g) = dk D from rfl, show dc (GU D f g) = dc D from rfl, show ds (GU D f g) = ds D from rfl, show dn (GU D f g) = dn D from rfl, show de (GU D f g) = de D from rfl, show tch (GU D f g) = tch D from rfl, show rnr (GU D f g) = rnr D from rfl]
  by_cases h7 : dk D i = 7 ∧ de D % 3 = 0
  · rw [if_pos h7, if_pos h7]
  · rw [if_neg h7, if_neg h7]
    cases fst1 (tch D i) (dn D) with
    | some o => rfl
    | none =>
      dsimp only
      cases nrst (ds D) (fun o => far (dc D i) (dc D o)) (dn D) with
      | none =>
        dsimp only
        cases nrst (rnr D) (fun o => far (dc D i) (dc D o)) (dn D) with
        | none => rfl
        | some b => rfl
      | some a =>
        dsimp only
        by_cases h6 : dk D i = 6
        · rw [if_pos h6, if_pos h6]
        · rw [if_neg h6, if_neg h6]
          by_cases h5 : dk D i = 5
          · rw [if_pos h5, if_pos h5]
            by_cases h1 : 1 < far (dc D i) (dc D a)
            · rw [if_pos h1, if_pos h1]; rfl
            · rw [if_neg h1, if_neg h1]
          · rw [if_neg h5, if_neg h5]
            cases nrst (rnr D) (fun o => far (dc D i) (dc D o)) (dn D) with
            | none => rfl
            | some b => rfl
theorem runs_G : ∃ f' g', runs (GU D f g) i = (GU (runs D i).1 f' g', (runs D i).2) := by
  unfold runs
  simp only [show dk (GU D f g) = dk D from rfl, show dc (GU D f g) = dc D from rfl, show nearMay (GU D f g) = nearMay D from rfl, show aimMay (GU D f g) = aimMay D from rfl, cap_G, awy_G, show frS (GU D f g) = frS D from rfl]
  by_cases h3 : dk D i = 3
  · rw [if_pos h3, if_pos h3]
    exact ⟨f, g, rfl⟩
  · rw [if_neg h3, if_neg h3]
    cases nearMay D i with
    | some o => exact ⟨_, _, rfl⟩
    | none =>
      dsimp only
      cases aimMay D i with
      | some a => exact ⟨f, g, rfl⟩
      | none => exact ⟨f, g, rfl⟩
theorem ply_G : ∃ f' g', ply (GU D f g) i = GU (ply D i) f' g' := by
  unfold ply
  simp only [show ds (GU D f g) = ds D from rfl, show da (GU D f g) = da D from rfl, show dt (GU D f g) = dt D from rfl, show dc (GU D f g) = dc D from rfl]
  by_cases h1 : ds D i = true ∨ i = da D
  · rw [if_pos h1, if_pos h1]; exact ⟨f, g, rfl⟩
  · rw [if_neg h1, if_neg h1]
    by_cases h2 : dt D i = 9
    · rw [if_pos h2, if_pos h2]; exact ⟨f, g, rfl⟩
    · rw [if_neg h2, if_neg h2]
      obtain ⟨f', g', e⟩ := runs_G (D := D) (f := f) (g := g) (i := i)
      rw [e]
      exact ⟨f', g', rfl⟩
theorem act_G : ∃ f' g', act (GU D f g) i = GU (act D i) f' g' := by
  unfold act
  simp only [show isC (GU D f g) = isC D from rfl]
  by_cases h : isC D i = true
  · rw [if_pos h, if_pos h]; exact ⟨f, g, cat_G⟩
  · rw [if_neg h, if_neg h]; exact ply_G
theorem actN_G : ∀ n, ∃ f' g', actN (GU D f g) n = GU (actN D n) f' g'
  | 0 => ⟨f, g, rfl⟩
  | n + 1 => by
    obtain ⟨f', g', e⟩ := actN_G n
    show ∃ f'' g'', act (actN (GU D f g) n) n = GU (act (actN D n) n) f'' g''
    rw [e]
    exact act_G
theorem tnth_G : tnth (GU D f g) = GU (tnth D) f g := by
  unfold tnth
  simp only [show dl (GU D f g) = dl D from rfl, show de (GU D f g) = de D from rfl]
  by_cases h : dl D = 3 ∧ de D % 10 = 0
  · rw [if_pos h, if_pos h]; rfl
  · rw [if_neg h, if_neg h]
theorem pass_G : ∃ f' g', pass (GU D f g) = GU (pass D) f' g' := by
  unfold pass
  rw [tnth_G]
  obtain ⟨f', g', e⟩ := actN_G (D := tnth D) (f := f) (g := g) (dn D)
  simp only [show dn (GU D f g) = dn D from rfl, show de (GU D f g) = de D from rfl]
  rw [e]
  exact ⟨f', g', rfl⟩
theorem passN_G : ∀ n, ∃ f' g', passN (GU D f g) n = GU (passN D n) f' g'
  | 0 => ⟨f, g, rfl⟩
  | n + 1 => by
    obtain ⟨f', g', e⟩ := passN_G n
    show ∃ f'' g'', pass (passN (GU D f g) n) = GU (pass (passN D n)) f'' g''
    rw [e]
    exact pass_G
/-- one who is freed is counted alike, whatever was counted before -/
theorem runs_g : ∃ g', runs (ug D g) i = (ug (runs D i).1 g', (runs D i).2) := by
  unfold runs
  simp only [show dk (ug D g) = dk D from rfl, show dc (ug D g) = dc D from rfl, show nearMay (ug D g) = nearMay D from rfl, show aimMay (ug D g) = aimMay D from rfl, cap_g, awy_g, show frS (ug D g) = frS D from rfl]
  by_cases h3 : dk D i = 3
  · rw [if_pos h3, if_pos h3]
    exact ⟨g, rfl⟩
  · rw [if_neg h3, if_neg h3]
    cases nearMay D i with
    | some o => exact ⟨_, rfl⟩
    | none =>
      dsimp only
      cases aimMay D i with
      | some a => exact ⟨g, rfl⟩
      | none => exact ⟨g, rfl⟩
theorem ply_g : ∃ g', ply (ug D g) i = ug (ply D i) g' := by
  unfold ply
  simp only [show ds (ug D g) = ds D from rfl, show da (ug D g) = da D from rfl, show dt (ug D g) = dt D from rfl, show dc (ug D g) = dc D from rfl]
  by_cases h1 : ds D i = true ∨ i = da D
  · rw [if_pos h1, if_pos h1]; exact ⟨g, rfl⟩
  · rw [if_neg h1, if_neg h1]
    by_cases h2 : dt D i = 9
    · rw [if_pos h2, if_pos h2]; exact ⟨g, rfl⟩
    · rw [if_neg h2, if_neg h2]
      obtain ⟨g', e⟩ := runs_g (D := D) (g := g) (i := i)
      rw [e]
      exact ⟨g', rfl⟩
theorem act_g : ∃ g', act (ug D g) i = ug (act D i) g' := by
  unfold act
  simp only [show isC (ug D g) = isC D from rfl]
  by_cases h : isC D i = true
  · rw [if_pos h, if_pos h]
    exact ⟨g, cat_G (D := D) (f := dr D) (g := g) (i := i) |>.trans (by
      have : dr (cat D i) = dr D := by
        unfold cat
        repeat' split
        all_goals rfl
      unfold GU
      rw [← this]
      rfl)⟩
  · rw [if_neg h, if_neg h]; exact ply_g
theorem actN_g : ∀ n, ∃ g', actN (ug D g) n = ug (actN D n) g'
  | 0 => ⟨g, rfl⟩
  | n + 1 => by
    obtain ⟨g', e⟩ := actN_g n
    show ∃ g'', act (actN (ug D g) n) n = ug (act (actN D n) n) g''
    rw [e]
    exact act_g
theorem pass_g : ∃ g', pass (ug D g) = ug (pass D) g' := by
  have ht : tnth (ug D g) = ug (tnth D) g := by
    unfold tnth
    simp only [show dl (ug D g) = dl D from rfl, show de (ug D g) = de D from rfl]
    by_cases h : dl D = 3 ∧ de D % 10 = 0
    · rw [if_pos h, if_pos h]; rfl
    · rw [if_neg h, if_neg h]
  unfold pass
  rw [ht]
  obtain ⟨g', e⟩ := actN_g (D := tnth D) (g := g) (dn D)
  simp only [show dn (ug D g) = dn D from rfl, show de (ug D g) = de D from rfl]
  rw [e]
  exact ⟨g', rfl⟩
theorem passN_g : ∀ n, ∃ g', passN (ug D g) n = ug (passN D n) g'
  | 0 => ⟨g, rfl⟩
  | n + 1 => by
    obtain ⟨g', e⟩ := passN_g n
    show ∃ g'', pass (passN (ug D g) n) = ug (pass (passN D n)) g''
    rw [e]
    exact pass_g
end GG
theorem passN_add (D : Yd) (a : Nat) : ∀ b, passN (passN D a) b = passN D (a + b)
  | 0 => rfl
  | b + 1 => by
    show pass (passN (passN D a) b) = pass (passN D (a + b))
    rw [passN_add D a b]
/-! ===== the numbers that are asked for ===== -/
abbrev ix (c : Int32) : Nat := c.toNatClampNeg
def cellI (c : Int32) : Bool := decide (nI 0 ≤ c ∧ c < nI 24)
def sto (D : Yd) (n : Nat) : Nat := sumN (fun k => cnt (ds (passN D (k + 1))) 8) n
def ots (D : Yd) (i : Nat) (n : Nat) : Nat := sumN (fun k => cnt (fun j => ds (passN D (k + 1)) j && !(j == i)) 8) n
def tov (D : Yd) : Option Nat := fst1 (fun k => ovr (passN D k)) 61
def alw (D : Yd) : Nat → Nat → Bool
  | 0 => fun _ => true
  | k + 1 => fun j => alw D k j && ds (passN D (k + 1)) j
def alwI (D : Yd) (k : Nat) : Int32 := if k = 0 then -1 else nI (bts (alw D k) 8)
def oLt : Option Nat → Nat → Bool
  | none, _ => true
  | some m, v => decide (m < v)
/-- the first of the greatest, and it -/
def bm (f : Nat → Nat) : Nat → Nat × Option Nat
  | 0 => (0, none)
  | k + 1 => if oLt (bm f k).2 (f k) = true then (k, some (f k)) else bm f k
def addN (D : Yd) : Nat → Yd
  | 0 => D
  | k + 1 => addY (addN D k) 4 0 0
def eno (D : Yd) : Option Nat := fst1 (fun k => decide (dn D + k ≤ 8) && (tov (addN D k)).isSome) 4
def exch (D : Yd) (i j : Nat) : Yd := us (uk D (va_up (va_up (dk D) i (dk D j)) j (dk D i))) (va_up (ds D) j false)
def chf (D : Yd) (i j s : Nat) : Nat := cnt (ds (passN (exch (passN D s) i j) (30 - s))) 8
def dbt (D : Yd) (i : Nat) : Nat → Int32
  | 0 => nI 0
  | k + 1 => dbt D i k + (nI (dr D (8 * i + k)) - nI (dr D (8 * k + i)))
def wat (D : Yd) (i : Nat) : Nat → Bool
  | 0 => true
  | k + 1 => wat D i k && decide (cap (passN D (k + 1)) (dc (passN D (k + 1)) i) ≤ 1)
def unt (st : St) (D : Yd) : Option Nat := fst1 (fun k => !(cnt (ds (passN D (k + 1))) 8 == sR st k)) (sM st)
def scD (D : Yd) (z : Int32) : Yd := us (ut (uc D (sct D z (dn D)).2) (fun _ => 0)) (fun _ => false)
def lsd (D : Yd) (z : Int32) : Nat → Int32
  | 0 => z
  | k + 1 => (sct D (lsd D z k) (dn D)).1
def lts (D : Yd) (z : Int32) (n : Nat) : Nat := sumN (fun k => cnt (ds (passN (scD D (lsd D z k)) 30)) 8) n
/-! ===== the calls ===== -/
/-- a refusal -/
def RF (st : St) (o : Int32) : Int32 × St := (o, rfs st (ix (-o)))
def RC (o : Int32) : Prop := o = -1 ∨ o = -2 ∨ o = -3 ∨ o = -4 ∨ o = -6
def GO (st : St) (why : Int32) (p : Int32 × St) : Int32 × St := if why = nI 0 then p else RF st why
theorem GO_ok {st : St} {why : Int32} {p : Int32 × St} (h : why = nI 0) : GO st why p = p := if_pos h
theorem GO_no {st : St} {why : Int32} {p : Int32 × St} (h : ¬ why = nI 0) : GO st why p = RF st why := if_neg h
def wh2 (wy x : Int32) : Int32 := if wy = nI 0 ∧ ¬ x = nI 0 ∧ ¬ x = nI 1 then -2 else wy
def P_yard (st : St) : Int32 × St := match prs (sT st) (sL st) (sL st + 1) 0 with
  | some q => (-1000 - nI q, vL st (sT st) 0)
  | none => match telN (sT st) (sL st) (sL st + 1) (sN st) 0 0 with
    | .inl p => (-2000 - nI p, vL st (sT st) 0)
    | .inr (E, m) => (nI m, vL (vN st E) (sT st) 0)
def P_child (st : St) (c x : Int32) : Int32 × St := if hasI (sN st) c = true then (if x = nI 0 then (nI (dk (sN st) (ix c)), st) else if x = nI 1 then (nI (dc (sN st) (ix c)), st) else if x = nI 2 then (nI (df (sN st) (ix c)), st) else if x = nI 3 then (bI (ds (sN st) (ix c)), st) else if x = nI 4 then (nI (dt (sN st) (ix c)), st) else RF st (-2)) else RF st (-1)
def P_go (st : St) (c x : Int32) : Int32 × St := if hasI (sN st) c = true ∧ cellI x = true then (nI (dc (sN st) (ix c)), vN st (uc (sN st) (va_up (dc (sN st)) (ix c) (ix x)))) else RF st (-1)
def P_touch (st : St) (c : Int32) : Int32 × St := if hasI (sN st) c = true then (if isC (sN st) (ix c) = true then RF st (-3) else (bI (!ds (sN st) (ix c)), vN st (us (sN st) (va_up (ds (sN st)) (ix c) (!ds (sN st) (ix c)))))) else RF st (-1)
def P_law (st : St) (v : Int32) : Int32 × St := if nI 0 ≤ v ∧ v < nI 4 then (nI (dl (sN st)), vN st (ul (sN st) (ix v))) else RF st (-2)
def P_far (st : St) (a b : Int32) : Int32 × St := if cellI a = true ∧ cellI b = true then (nI (far (ix a) (ix b)), st) else RF st (-1)
def wSec (st : St) (n : Int32) : Int32 := if outs n (nI 1) (nI 60) = nI 0 ∧ nI 999 < nI (de (sN st)) + n then -6 else outs n (nI 1) (nI 60)
def P_seconds (st : St) (n : Int32) : Int32 × St := GO st (wSec st n) (nI (de (sN st) + ix n), vN st (ug (passN (sN st) (ix n)) 0))
def P_stand (st : St) (n : Int32) : Int32 × St := GO st (outs n (nI 0) (nI 60)) (nI (bts (ds (passN (sN st) (ix n))) 8), st)
def wWhere (st : St) (c n : Int32) : Int32 := if hasI (sN st) c = true then outs n (nI 0) (nI 60) else -1
def P_where (st : St) (c n : Int32) : Int32 × St := GO st (wWhere st c n) (nI (dc (passN (sN st) (ix n)) (ix c)), st)
def P_over (st : St) : Int32 × St := if hasP (sN st) = true then (oM9 (tov (sN st)), st) else RF st (-3)
def nJ (n : Nat) : Int64 := (nI n).toInt64
def mnS (st : St) (n : Int32) : Nat := cnt (ds (sN st)) 8 + sto (sN st) (ix n)
def P_mean (st : St) (n x : Int32) : Int64 × St := if wh2 (outs n (nI 0) (nI 60)) x = nI 0 then (if x = nI 0 then nJ (mnS st n / Nat.gcd (mnS st n) (ix n + 1)) else nJ ((ix n + 1) / Nat.gcd (mnS st n) (ix n + 1)), st) else (lN 4000000000000000000 - (wh2 (outs n (nI 0) (nI 60)) x).toInt64, (RF st (wh2 (outs n (nI 0) (nI 60)) x)).2)
def P_frees (st : St) (n : Int32) : Int32 × St := GO st (outs n (nI 0) (nI 60)) (nI (dg (passN (sN st) (ix n))), st)
def P_never (st : St) (n : Int32) : Int32 × St := GO st (outs n (nI 0) (nI 60)) (if n = nI 0 then nI (bts (ds (sN st)) 8) else nI (bts (alw (sN st) (ix n)) 8), st)
def P_mayFree (st : St) (c : Int32) : Int32 × St := if hasI (sN st) c = true then (oM9 (if ds (sN st) (ix c) = true then none else nearMay (sN st) (ix c)), st) else RF st (-1)
def wWorth (st : St) (c : Int32) : Int32 := if hasI (sN st) c = true then (if isC (sN st) (ix c) = true then -3 else nI 0) else -1
/-- a refusal told up high -/
def GH (st : St) (why : Int32) (p : Int32 × St) : Int32 × St := if why = nI 0 then p else (nI 1000000000 - why, (RF st why).2)
def P_worth (st : St) (c : Int32) : Int32 × St := GH st (wWorth st c) (nI (ots (ua (sN st) (ix c)) (ix c) 20) - nI (ots (sN st) (ix c) 20), st)
def hnf (D : Yd) (i n k : Nat) : Nat := sto (uk D (va_up (dk D) i (4 + k))) n
def wHunt (st : St) (c n : Int32) : Int32 := if hasI (sN st) c = true then (if isC (sN st) (ix c) = true then outs n (nI 1) (nI 60) else -3) else -1
def P_hunt (st : St) (c n x : Int32) : Int32 × St := GO st (wh2 (wHunt st c n) x) (if x = nI 0 then nI (bm (hnf (sN st) (ix c) (ix n)) 4).1 else oM1 (bm (hnf (sN st) (ix c) (ix n)) 4).2, st)
def P_enough (st : St) : Int32 × St := if hasP (sN st) = true then (oM9 (eno (sN st)), st) else RF st (-3)
def wChg (st : St) (a b : Int32) : Int32 := if hasI (sN st) a = true ∧ hasI (sN st) b = true then (if isC (sN st) (ix a) = true ∧ isC (sN st) (ix b) = false then nI 0 else -3) else -1
def P_change (st : St) (a b x : Int32) : Int32 × St := GO st (wh2 (wChg st a b) x) (if x = nI 0 then nI (bm (chf (sN st) (ix a) (ix b)) 21).1 else oM1 (bm (chf (sN st) (ix a) (ix b)) 21).2, st)
def lgf (D : Yd) (k : Nat) : Nat := (tov (ul D k)).getD 61
def P_longest (st : St) : Int32 × St := if hasP (sN st) = true then (nI (bm (lgf (sN st)) 4).1, st) else RF st (-3)
def P_owes (st : St) (c x : Int32) : Int32 × St := if hasI (sN st) c = true ∧ hasI (sN st) x = true then (nI (dr (sN st) (8 * ix x + ix c)), st) else RF st (-1)
def P_debt (st : St) (c : Int32) : Int32 × St := GH st (if hasI (sN st) c = true then nI 0 else -1) (dbt (sN st) (ix c) 8, st)
def wWhy (st : St) (c n : Int32) : Int32 := if hasI (sN st) c = true then (if ds (sN st) (ix c) = true then outs n (nI 1) (nI 60) else -3) else -1
def P_why (st : St) (c n : Int32) : Int32 × St := GO st (wWhy st c n) (if alw (sN st) (ix n) (ix c) = true then (if hfr (sN st) (ix c) = true then (if wat (sN st) (ix c) (ix n) = true then nI 2 else nI 3) else nI 1) else nI 0, st)
def wRow (st : St) (v : Int32) : Int32 := if outs v (nI 0) (nI 8) = nI 0 ∧ sM st = 20 then -6 else outs v (nI 0) (nI 8)
def P_row (st : St) (v : Int32) : Int32 × St := GO st (wRow st v) (nI (sM st + 1), vR st (va_up (sR st) (sM st) (ix v)) (sM st + 1))
def ftf (st : St) (i c : Nat) : Bool := (unt st (uc (sN st) (va_up (dc (sN st)) i c))).isNone
def P_fits (st : St) (c : Int32) : Int32 × St := if hasI (sN st) c = true then (nI (bts (ftf st (ix c)) 24), st) else RF st (-1)
def P_judge (st : St) : Int32 × St := (oM9 (unt st (sN st)), vR st (sR st) 0)
def P_lots (st : St) (n z : Int32) : Int32 × St := GO st (outs n (nI 1) (nI 20)) (nI (lts (sN st) z (ix n)), st)
def P_image (st : St) : Int32 × St := (nI (de (sN st)), vK st (sN st))
def P_on (st : St) : Int32 × St := if sB st = true then (nI (de (sK st)), vN st (sK st)) else RF st (-3)
def P_count (st : St) (x : Int32) : Int32 × St := (if nI 10 < x ∧ x ≤ nI 16 then nI (sF st (ix x - 10)) else if x = nI 0 then nI (dn (sN st)) else if x = nI 1 then nI (dn (sN st) - plN (sN st)) else if x = nI 2 then nI (cnt (ds (sN st)) 8) else if x = nI 3 then nI (de (sN st)) else if x = nI 4 then nI (dl (sN st)) else if x = nI 5 then nI (sumN (dt (sN st)) (dn (sN st))) else if x = nI 6 then nI (sumN (dr (sN st)) 64) else if x = nI 7 then nI (sM st) else if x = nI 8 then nI (sL st) else -9, st)
/-! ===== what both sides want of numbers ===== -/
theorem outs_rc (n a b : Int32) : outs n a b = nI 0 ∨ RC (outs n a b) := by
  unfold outs
  split
  · exact Or.inr (Or.inr (Or.inr (Or.inr (Or.inl rfl))))
  · split
    · exact Or.inr (Or.inr (Or.inr (Or.inr (Or.inr rfl))))
    · exact Or.inl rfl
theorem outs_rcn {n a b : Int32} (h : ¬ outs n a b = nI 0) : RC (outs n a b) := (outs_rc n a b).resolve_left h
theorem outs_ok {n : Int32} {a b : Nat} (hb : b < 1000) (ha : a ≤ b) (h : outs n (nI a) (nI b) = nI 0) : ∃ k, a ≤ k ∧ k ≤ b ∧ n = nI k := by
  unfold outs at h
  split at h
  · exact absurd h (by decide)
  · rename_i h1
    split at h
    · exact absurd h (by decide)
    · rename_i h2
      rcases pk_ix n (n := b + 1) (by omega) with g | g | ⟨j, g1, g2⟩
      · exfalso
        have h3 : nI a ≤ n := Int32.not_lt.mp h1
        have h4 : nI 0 ≤ nI a := nI_le (Nat.zero_le _) (by omega)
        exact absurd (Int32.lt_of_lt_of_le g (Int32.le_trans h4 h3)) (Int32.lt_irrefl)
      · exfalso
        exact h2 (Int32.lt_of_lt_of_le (nI_lt (Nat.lt_succ_self b) (by omega)) g)
      · subst g2
        rw [nI_ltI (by omega) (by omega)] at h1
        exact ⟨j, by omega, by omega, rfl⟩
theorem mswo_out {x : Int32} {d : Int} {n : Nat} {offs : Array Int} (hn : n < 1000) (h : ∀ j, j ≤ n → ¬ x = nI j) : mswo (.tableswitch d 0 (n : Int) offs) x = d := by
  refine if_pos ?_
  rcases pk_ix x (n := n + 1) (by omega) with g | g | ⟨j, g1, g2⟩
  · left
    exact Int32.lt_iff_toInt_lt.mp g
  · right
    have := Int32.le_iff_toInt_le.mp g
    rw [nI_toInt (by omega)] at this
    omega
  · exact absurd g2 (h j (by omega))
theorem rc_k {o : Int32} (h : RC o) : (0 < ix (-o) ∧ ix (-o) < 7) ∧ -o = nI (ix (-o)) ∧ ¬ o = nI 0 := by
  rcases h with rfl | rfl | rfl | rfl | rfl <;> decide
theorem oM1_lt {o : Option Nat} {v : Nat} (ho : ∀ m, o = some m → m < 2 ^ 31) (hv : v < 2 ^ 31) : (oM1 o < nI v) = (oLt o v = true) := by
  cases o with
  | none =>
    apply propext
    refine ⟨fun _ => rfl, fun _ => ?_⟩
    show (-1 : Int32) < nI v
    exact Int32.lt_of_lt_of_le (by decide) (nI_pos' hv)
  | some m =>
    show (nI m < nI v) = (decide (m < v) = true)
    rw [decide_eq_true_eq]
    exact propext (nI_ltI (ho m rfl) hv)
theorem bm_lt {f : Nat → Nat} {B : Nat} (hf : ∀ k, f k < B) : ∀ k m, (bm f k).2 = some m → m < B
  | 0, m, h => by cases h
  | k + 1, m, h => by
    unfold bm at h
    split at h
    · cases h; exact hf k
    · exact bm_lt hf k m h
theorem bm_fst (f : Nat → Nat) : ∀ k, (bm f k).1 ≤ k
  | 0 => Nat.le_refl _
  | k + 1 => by
    have := bm_fst f k
    unfold bm
    split
    · exact Nat.le_succ k
    · omega
theorem bm_congr {f f' : Nat → Nat} : ∀ {n : Nat}, (∀ k, k < n → f k = f' k) → bm f n = bm f' n
  | 0, _ => rfl
  | n + 1, h => by
    unfold bm
    rw [bm_congr (fun k hk => h k (by omega)), h n (by omega)]
theorem sumN_le {f : Nat → Nat} {B : Nat} (h : ∀ k, f k ≤ B) : ∀ n, sumN f n ≤ n * B
  | 0 => Nat.zero_le _
  | n + 1 => by
    have h1 := sumN_le h n
    have h2 := h n
    show sumN f n + f n ≤ (n + 1) * B
    rw [Nat.add_mul]; omega
theorem sto_le (D : Yd) (n : Nat) : sto D n ≤ n * 8 := sumN_le (fun k => cnt_le _ 8) n
theorem cnt_wo {q : Nat → Bool} {i : Nat} (hi : i < 8) : cnt q 8 = cnt (fun j => q j && !(j == i)) 8 + (if q i = true then 1 else 0) := by
  by_cases h : q i = true
  · rw [if_pos h]
    exact cnt_at (i := i) (by simp) h (fun j hj => by simp [hj]) hi
  · rw [if_neg h, Nat.add_zero]
    refine cnt_congr (fun j _ => ?_)
    by_cases e : j = i
    · subst e; simp [h]
    · simp [e]
theorem gcd_s {a b e : Nat} (hb : 0 < b) (h1 : e ∣ a) (h2 : e ∣ b) (h : ∀ x, e < x → x ≤ b → ¬ (x ∣ a ∧ x ∣ b)) : Nat.gcd a b = e := by
  have g1 := Nat.dvd_gcd h1 h2
  have g2 : 0 < Nat.gcd a b := Nat.gcd_pos_of_pos_right a hb
  have g3 := Nat.le_of_dvd g2 g1
  have g4 := Nat.le_of_dvd hb (Nat.gcd_dvd_right a b)
  rcases Nat.lt_or_ge e (Nat.gcd a b) with g | g
  · exact absurd ⟨Nat.gcd_dvd_left a b, Nat.gcd_dvd_right a b⟩ (h _ g g4)
  · omega
theorem bts_s (q : Nat → Bool) (k : Nat) (hk : k < 31) : nI (bts q k) ||| mshl (nI 1) (nI k) = nI (bts q k + 2 ^ k) := by
  have e : ∀ k, k < 31 → mshl (nI 1) (nI k) = nI (2 ^ k) := by decide +kernel
  rw [e k hk, nI_or]
  congr 1
  have h := bts_lt q k
  rw [Nat.or_comm, Nat.add_comm, ← Nat.one_mul (2 ^ k), Nat.mul_comm, Nat.two_pow_add_eq_or_of_lt h 1]
/-! ===== what stays so ===== -/
theorem ixC {i : Nat} (h : i < 1000) : ix (nI i) = i := ixN h
theorem cellI_ok {c : Int32} (h : cellI c = true) : ∃ k, k < 24 ∧ c = nI k := by
  unfold cellI at h
  simp only [decide_eq_true_eq] at h
  obtain ⟨h1, h2⟩ := h
  rcases pk_ix c (n := 24) (by decide) with g | g | ⟨j, g1, g2⟩
  · exact absurd g (by intro z; exact (Int32.not_lt.mpr h1) z)
  · exact absurd h2 (Int32.not_lt.mpr g)
  · exact ⟨j, g1, g2⟩
theorem cellI_n {k : Nat} (h : k < 24) : cellI (nI k) = true := by
  unfold cellI
  rw [decide_eq_true_eq]
  exact ⟨nI_le (Nat.zero_le _) (by omega), nI_lt h (by decide)⟩
theorem YI.uk {D : Yd} (h : YI D) {i k : Nat} (hi : isC D i = true) (hk : k < 4) : YI (uk D (va_up (dk D) i (4 + k))) := by
  refine ⟨h.1, fun j hj => ?_, h.2.2.1, fun j hj => ?_, h.2.2.2.2⟩
  · have := h.2.1 j hj
    show va_up (dk D) i (4 + k) j < 8 ∧ _
    refine ⟨?_, this.2⟩
    unfold va_up; split
    · omega
    · exact this.1
  · have hs := h.st (j := j) hj
    show j < dn D ∧ va_up (dk D) i (4 + k) j < 4
    unfold isC at hi
    simp only [decide_eq_true_eq] at hi
    unfold va_up
    rw [if_neg (by intro e; subst e; omega)]
    exact hs
theorem YI.ul {D : Yd} (h : YI D) {v : Nat} (hv : v < 4) : YI (ul D v) := ⟨h.1, h.2.1, h.2.2.1, h.2.2.2.1, h.2.2.2.2.1, h.2.2.2.2.2.1, h.2.2.2.2.2.2.1, hv, h.2.2.2.2.2.2.2.2⟩
theorem YI.exch {D : Yd} (h : YI D) {i j : Nat} (hi : i < dn D) (hj : j < dn D) (hci : isC D i = true) (hcj : isC D j = false) : YI (exch D i j) := by
  have hne : i ≠ j := by intro e; subst e; rw [hci] at hcj; cases hcj
  refine ⟨h.1, fun o ho => ?_, h.2.2.1, fun o ho => ?_, h.2.2.2.2⟩
  · have ho : o < dn D := ho
    have := h.2.1 o ho
    show va_up (va_up (dk D) i (dk D j)) j (dk D i) o < 8 ∧ _
    refine ⟨?_, this.2⟩
    unfold va_up
    split
    · exact h.kd hi
    · split
      · exact h.kd hj
      · exact this.1
  · have ho : va_up (ds D) j false o = true := ho
    show o < dn D ∧ va_up (va_up (dk D) i (dk D j)) j (dk D i) o < 4
    unfold va_up at ho ⊢
    split at ho
    · cases ho
    · rename_i e
      have hs := h.st ho
      unfold isC at hci
      simp only [decide_eq_true_eq] at hci
      rw [if_neg e, if_neg (by intro z; subst z; omega)]
      exact hs
theorem addN_dn (D : Yd) : ∀ k, dn (addN D k) = dn D + k
  | 0 => rfl
  | k + 1 => by
    show dn (addN D k) + 1 = _
    rw [addN_dn D k]; omega
theorem addN_YI {D : Yd} (h : YI D) : ∀ k, dn D + k ≤ 8 → YI (addN D k)
  | 0, _ => h
  | k + 1, hk => addY_YI (addN_YI h k (by omega)) (by
      unfold addB
      rw [addN_dn]
      simp; omega)
theorem addN_de (D : Yd) : ∀ k, de (addN D k) = de D
  | 0 => rfl
  | k + 1 => addN_de D k
theorem sct_lt {D : Yd} (h : YI D) (z : Int32) : ∀ n j, j < dn D → (sct D z n).2 j < 24
  | 0, j, hj => h.cl hj
  | n + 1, j, hj => by
    show va_up (sct D z n).2 n (lcl (lz (sct D z n).1)) j < 24
    unfold va_up
    split
    · exact Nat.mod_lt _ (by decide)
    · exact sct_lt h z n j hj
theorem scD_YI {D : Yd} (h : YI D) (z : Int32) : YI (scD D z) := by
  refine ⟨h.1, fun j hj => ⟨h.kd hj, sct_lt h z _ j hj, h.fr hj⟩, fun j => Nat.zero_le _, (fun j hj => by cases hj), fun j _ => rfl, h.2.2.2.2.2⟩
theorem telN_keep {t : Nat → Nat} {n : Nat} : ∀ {F p m : Nat} {D E : Yd} {k : Nat}, YI D → telN t n F D p m = .inr (E, k) → YI E ∧ da E = da D ∧ dg E = dg D ∧ de E = de D
  | 0, p, m, D, E, k, hI, h => by
    cases h
    exact ⟨hI, rfl, rfl, rfl⟩
  | F + 1, p, m, D, E, k, hI, h => by
    unfold telN at h
    split at h
    · split at h
      · cases h
      · rename_i E1 h1
        obtain ⟨a1, a2, a3, a4⟩ := telS_YI hI h1
        obtain ⟨b1, b2, b3, b4⟩ := telN_keep a1 h
        exact ⟨b1, b2.trans a2, b3.trans a3, b4.trans a4⟩
    · cases h
      exact ⟨hI, rfl, rfl, rfl⟩
theorem YC.pass {D : Yd} (h : YC D) {n : Nat} (hn : n ≤ 1000) : YI (passN D n) := passN_YI h.1 n (by have := h.2.1; omega)
end
section
/-! ===== the class's calls: one answer each ===== -/
def CPJ (w : mW) (p : Int64 × St) (r : Option mV) (u : mW) : Prop := r = some (mJ p.1) ∧ Sm (fun t _ => 11 ≤ t) w u ∧ KlsAt u p.2
theorem hasI_f {D : Yd} {c : Int32} (h : ¬ hasI D c = true) : bI (hasI D c) = nI 0 := by
  cases hz : hasI D c
  · rfl
  · exact absurd hz h
theorem bI_ff {b : Bool} (h : ¬ b = true) : bI b = nI 0 := by
  cases b
  · rfl
  · exact absurd rfl h
theorem bl_t {b : Bool} (h : ¬ b = false) : b = true := by cases b; exact absurd rfl h; rfl
theorem bl_f {b : Bool} (h : ¬ b = true) : b = false := by cases b; rfl; exact absurd rfl h
section C2
variable {l : Launch} {d : Nat} {w : mW} {st : St}
theorem ev_ref (hC : KlsAt w st) {why : Int32} (hr : RC why) : Cl l d MX2_refuse [mR 0 0, mI why] w (fun r u => CP w (RF st why) r u) := ev_refuse hC (rc_k hr).1 (rc_k hr).2.1
theorem ev_hasB {y : Nat} {D : Yd} (hY : YardAt w y D) {c : Int32} {b : Bool} (h : hasI D c = b) : Cl l d MX1_has [mR 1 y, mI c] w (fun r u => u = w ∧ r = some (mI (bI b))) := by
  rw [← h]
  exact ev_has hY c
theorem ev_isCellB {c : Int32} {b : Bool} (h : cellI c = b) : Cl l d MX1_isCell [mI c] w (fun r u => u = w ∧ r = some (mI (bI b))) := by
  rw [← h]
  exact ev_isCell c
theorem ev_child (hC : KlsAt w st) (hS : SI st) (hd : 5 ≤ d) (c x : Int32) : Cl l d MX2_child [mR 0 0, mI c, mI x] w (fun r u => CP w (P_child st c x) r u) := by
  show Ev l d MX2_child 0 [some (mR 0 0), some (mI c), some (mI x)] [] w _
  obtain ⟨g, hY⟩ := hC.1
  have hI : YI (ug (sN st) g) := hS.1.1
  unfold P_child
  by_cases hh : hasI (sN st) c = true
  · obtain ⟨i, hi, rfl⟩ := hasI_of hh hI.1
    have hi8 : i < 8 := Nat.lt_of_lt_of_le hi hI.1
    rw [if_pos hh, ixC (by omega)]
    refine Ev.blk kX2_child_0 rfl trivial ?_
    refine Ev.cV (d1 := d - 1) (ev_hasB hY hh) tX2_child_5 qX2_57 rfl rfl (by decide) ⟨rfl, rfl, rfl⟩ (by omega) ?_
    rintro _ _ ⟨rfl, rfl⟩
    refine Ev.br tX2_child_8 rfl (fun c8 => ?_) (fun c8 => ?_)
    · refine Ev.blk kX2_child_17 rfl trivial ?_
      by_cases s18_0 : x = nI 0
      · subst s18_0
        refine Ev.sw (tgt := 52) tX2_child_18 (off := 34) (by decide) (by decide) ?_
        refine Ev.blk kX2_child_52 rfl trivial ?_
        refine Ev.cV (d1 := d - 1) (ev_kindOf hY hI (by omega) hi) tX2_child_57 qX2_61 rfl rfl (by decide) ⟨rfl, rfl, rfl⟩ (by omega) ?_
        rintro _ _ ⟨rfl, rfl⟩
        refine Ev.iret tX2_child_60 rfl rfl ?_
        rw [if_pos rfl]; exact ⟨rfl, Sm.rf, hC⟩
      by_cases s18_1 : x = nI 1
      · subst s18_1
        refine Ev.sw (tgt := 61) tX2_child_18 (off := 43) (by decide) (by decide) ?_
        refine Ev.blk kX2_child_61 rfl trivial ?_
        refine Ev.cV (d1 := d - 1) (ev_cellOf hY hI (by omega) hi) tX2_child_66 qX2_64 rfl rfl (by decide) ⟨rfl, rfl, rfl⟩ (by omega) ?_
        rintro _ _ ⟨rfl, rfl⟩
        refine Ev.iret tX2_child_69 rfl rfl ?_
        rw [if_neg (by decide), if_pos rfl]; exact ⟨rfl, Sm.rf, hC⟩
      by_cases s18_2 : x = nI 2
      · subst s18_2
        refine Ev.sw (tgt := 70) tX2_child_18 (off := 52) (by decide) (by decide) ?_
        refine Ev.blk kX2_child_70 rfl trivial ?_
        refine Ev.cV (d1 := d - 1) (ev_friendOf hY hI (by omega) hi) tX2_child_75 qX2_67 rfl rfl (by decide) ⟨rfl, rfl, rfl⟩ (by omega) ?_
        rintro _ _ ⟨rfl, rfl⟩
        refine Ev.iret tX2_child_78 rfl rfl ?_
        rw [if_neg (by decide), if_neg (by decide), if_pos rfl]; exact ⟨rfl, Sm.rf, hC⟩
      by_cases s18_3 : x = nI 3
      · subst s18_3
        refine Ev.sw (tgt := 79) tX2_child_18 (off := 61) (by decide) (by decide) ?_
        refine Ev.blk kX2_child_79 rfl trivial ?_
        refine Ev.cV (d1 := d - 1) (ev_isStanding hY hI (by omega) hi) tX2_child_84 qX2_70 rfl rfl (by decide) ⟨rfl, rfl, rfl⟩ (by omega) ?_
        rintro _ _ ⟨rfl, rfl⟩
        refine Ev.br tX2_child_87 rfl (fun c87 => ?_) (fun c87 => ?_)
        · have c87 : ds (sN st) i = false := by rw [bI_0] at c87; exact c87
          refine Ev.blk kX2_child_94 rfl trivial ?_
          refine Ev.iret tX2_child_95 rfl rfl ?_
          rw [if_neg (by decide), if_neg (by decide), if_neg (by decide), if_pos rfl, c87]; exact ⟨rfl, Sm.rf, hC⟩
        · have c87 : ds (sN st) i = true := by rw [bI_0] at c87; exact bl_t c87
          refine Ev.blk kX2_child_90 rfl trivial ?_
          refine Ev.jmp tX2_child_91 ?_
          refine Ev.iret tX2_child_95 rfl rfl ?_
          rw [if_neg (by decide), if_neg (by decide), if_neg (by decide), if_pos rfl, c87]; exact ⟨rfl, Sm.rf, hC⟩
      by_cases s18_4 : x = nI 4
      · subst s18_4
        refine Ev.sw (tgt := 96) tX2_child_18 (off := 78) (by decide) (by decide) ?_
        refine Ev.blk kX2_child_96 rfl trivial ?_
        refine Ev.cV (d1 := d - 1) (ev_tiredOf hY hI (by omega) hi) tX2_child_101 qX2_73 rfl rfl (by decide) ⟨rfl, rfl, rfl⟩ (by omega) ?_
        rintro _ _ ⟨rfl, rfl⟩
        refine Ev.iret tX2_child_104 rfl rfl ?_
        rw [if_neg (by decide), if_neg (by decide), if_neg (by decide), if_neg (by decide), if_pos rfl]; exact ⟨rfl, Sm.rf, hC⟩
      refine Ev.sw (tgt := 105) tX2_child_18 (off := 87) (mswo_out (n := 4) (by decide) (fun j hj => by rcases (show j = 0 ∨ j = 1 ∨ j = 2 ∨ j = 3 ∨ j = 4 by omega) with rfl | rfl | rfl | rfl | rfl <;> assumption)) (by decide) ?_
      refine Ev.blk kX2_child_105 rfl trivial ?_
      refine Ev.cV (d1 := d - 1) (ev_ref hC (Or.inr (Or.inl rfl))) tX2_child_108 qX2_39 rfl rfl (by decide) ⟨rfl, rfl, rfl⟩ (by omega) ?_
      rintro _ _ ⟨rfl, hS2, hC2⟩
      refine Ev.iret tX2_child_111 rfl rfl ?_
      rw [if_neg s18_0, if_neg s18_1, if_neg s18_2, if_neg s18_3, if_neg s18_4]; exact ⟨rfl, hS2, hC2⟩
    · exact absurd (show ¬ bI true = nI 0 by decide) c8
  · rw [if_neg hh]
    refine Ev.blk kX2_child_0 rfl trivial ?_
    refine Ev.cV (d1 := d - 1) (ev_has hY c) tX2_child_5 qX2_57 rfl rfl (by decide) ⟨rfl, rfl, rfl⟩ (by omega) ?_
    rintro _ _ ⟨rfl, rfl⟩
    refine Ev.br tX2_child_8 rfl (fun c8 => ?_) (fun c8 => ?_)
    · exact absurd (hasI_f hh) c8
    · refine Ev.blk kX2_child_11 rfl trivial ?_
      refine Ev.cV (d1 := d - 1) (ev_ref hC (Or.inl rfl)) tX2_child_13 qX2_39 rfl rfl (by decide) ⟨rfl, rfl, rfl⟩ (by omega) ?_
      rintro _ _ ⟨rfl, hS2, hC2⟩
      refine Ev.iret tX2_child_16 rfl rfl ?_
      exact ⟨rfl, hS2, hC2⟩
theorem ev_go (hC : KlsAt w st) (hS : SI st) (hd : 5 ≤ d) (c x : Int32) : Cl l d MX2_go [mR 0 0, mI c, mI x] w (fun r u => CP w (P_go st c x) r u) := by
  show Ev l d MX2_go 0 [some (mR 0 0), some (mI c), some (mI x), none] [] w _
  obtain ⟨g, hY⟩ := hC.1
  have hI : YI (ug (sN st) g) := hS.1.1
  unfold P_go
  by_cases hh : hasI (sN st) c = true
  · by_cases hx : cellI x = true
    · obtain ⟨i, hi, rfl⟩ := hasI_of hh hI.1
      have hi8 : i < 8 := Nat.lt_of_lt_of_le hi hI.1
      obtain ⟨k, hk, rfl⟩ := cellI_ok hx
      have hii : (decide (i < dn (ug (sN st) g)) && decide (k < 24)) = true := by simp only [Bool.and_eq_true, decide_eq_true_eq]; exact ⟨hi, hk⟩
      rw [if_pos ⟨hh, hx⟩, ixC (by omega), ixC (by omega)]
      refine Ev.blk kX2_go_0 rfl trivial ?_
      refine Ev.cV (d1 := d - 1) (ev_hasB hY hh) tX2_go_5 qX2_57 rfl rfl (by decide) ⟨rfl, rfl, rfl⟩ (by omega) ?_
      rintro _ _ ⟨rfl, rfl⟩
      refine Ev.br tX2_go_8 rfl (fun c8 => ?_) (fun c8 => ?_)
      · exact absurd c8 (by decide)
      · refine Ev.blk kX2_go_11 rfl trivial ?_
        refine Ev.cS (d1 := d - 1) (ev_isCellB hx) tX2_go_12 qX2_76 rfl ⟨rfl, rfl, rfl⟩ (by omega) ?_
        rintro _ _ ⟨rfl, rfl⟩
        refine Ev.br tX2_go_15 rfl (fun c15 => ?_) (fun c15 => ?_)
        · refine Ev.blk kX2_go_24 rfl trivial ?_
          refine Ev.cV (d1 := d - 1) (ev_cellOf hY hI (by omega) hi) tX2_go_29 qX2_64 rfl rfl (by decide) ⟨rfl, rfl, rfl⟩ (by omega) ?_
          rintro _ _ ⟨rfl, rfl⟩
          refine Ev.blk kX2_go_32 rfl trivial ?_
          refine Ev.cV (d1 := d - 1) (ev_put hY hI (by omega) (show i < 1000 by omega) (show k < 1000 by omega)) tX2_go_39 qX2_79 rfl rfl (by decide) ⟨rfl, rfl, rfl⟩ (by omega) ?_
          rintro _ _ ⟨rfl, ho, hE⟩
          refine Ev.blk kX2_go_42 rfl trivial ?_
          refine Ev.iret tX2_go_44 rfl rfl ?_
          rw [if_pos hii] at hE
          exact ⟨rfl, ho.up, hC.now ho (D := uc (sN st) (va_up (dc (sN st)) i k)) (g := g) hE⟩
        · exact absurd (show ¬ bI true = nI 0 by decide) c15
    · rw [if_neg (fun z => hx z.2)]
      refine Ev.blk kX2_go_0 rfl trivial ?_
      refine Ev.cV (d1 := d - 1) (ev_hasB hY hh) tX2_go_5 qX2_57 rfl rfl (by decide) ⟨rfl, rfl, rfl⟩ (by omega) ?_
      rintro _ _ ⟨rfl, rfl⟩
      refine Ev.br tX2_go_8 rfl (fun c8 => ?_) (fun c8 => ?_)
      · exact absurd c8 (by decide)
      · refine Ev.blk kX2_go_11 rfl trivial ?_
        refine Ev.cS (d1 := d - 1) (ev_isCell x) tX2_go_12 qX2_76 rfl ⟨rfl, rfl, rfl⟩ (by omega) ?_
        rintro _ _ ⟨rfl, rfl⟩
        refine Ev.br tX2_go_15 rfl (fun c15 => ?_) (fun c15 => ?_)
        · exact absurd (bI_ff hx) c15
        · refine Ev.blk kX2_go_18 rfl trivial ?_
          refine Ev.cV (d1 := d - 1) (ev_ref hC (Or.inl rfl)) tX2_go_20 qX2_39 rfl rfl (by decide) ⟨rfl, rfl, rfl⟩ (by omega) ?_
          rintro _ _ ⟨rfl, hS2, hC2⟩
          refine Ev.iret tX2_go_23 rfl rfl ?_
          exact ⟨rfl, hS2, hC2⟩
  · rw [if_neg (fun z => hh z.1)]
    refine Ev.blk kX2_go_0 rfl trivial ?_
    refine Ev.cV (d1 := d - 1) (ev_has hY c) tX2_go_5 qX2_57 rfl rfl (by decide) ⟨rfl, rfl, rfl⟩ (by omega) ?_
    rintro _ _ ⟨rfl, rfl⟩
    refine Ev.br tX2_go_8 rfl (fun c8 => ?_) (fun c8 => ?_)
    · refine Ev.blk kX2_go_18 rfl trivial ?_
      refine Ev.cV (d1 := d - 1) (ev_ref hC (Or.inl rfl)) tX2_go_20 qX2_39 rfl rfl (by decide) ⟨rfl, rfl, rfl⟩ (by omega) ?_
      rintro _ _ ⟨rfl, hS2, hC2⟩
      refine Ev.iret tX2_go_23 rfl rfl ?_
      exact ⟨rfl, hS2, hC2⟩
    · exact absurd (hasI_f hh) c8
theorem ev_touch (hC : KlsAt w st) (hS : SI st) (hd : 5 ≤ d) (c : Int32) : Cl l d MX2_touch [mR 0 0, mI c] w (fun r u => CP w (P_touch st c) r u) := by
  show Ev l d MX2_touch 0 [some (mR 0 0), some (mI c)] [] w _
  obtain ⟨g, hY⟩ := hC.1
  have hI : YI (ug (sN st) g) := hS.1.1
  unfold P_touch
  by_cases hh : hasI (sN st) c = true
  · obtain ⟨i, hi, rfl⟩ := hasI_of hh hI.1
    have hi8 : i < 8 := Nat.lt_of_lt_of_le hi hI.1
    rw [if_pos hh, ixC (by omega)]
    have ht := ev_turnOver (l := l) (d := d - 1) hY hI (by omega) (show i < 1000 by omega)
    by_cases hc : isC (sN st) i = true
    · have hb : (decide (i < dn (ug (sN st) g)) && !isC (ug (sN st) g) i) = false := by
        rw [show isC (ug (sN st) g) i = true from hc]
        simp
      rw [hb] at ht
      rw [if_pos hc]
      refine Ev.blk kX2_touch_0 rfl trivial ?_
      refine Ev.cV (d1 := d - 1) (ev_hasB hY hh) tX2_touch_5 qX2_57 rfl rfl (by decide) ⟨rfl, rfl, rfl⟩ (by omega) ?_
      rintro _ _ ⟨rfl, rfl⟩
      refine Ev.br tX2_touch_8 rfl (fun c8 => ?_) (fun c8 => ?_)
      · refine Ev.blk kX2_touch_17 rfl trivial ?_
        refine Ev.cV (d1 := d - 1) (ht) tX2_touch_22 qX2_83 rfl rfl (by decide) ⟨rfl, rfl, rfl⟩ (by omega) ?_
        rintro _ _ ⟨rfl, ho, hE⟩
        have hC1 := hC.now ho (D := sN st) (g := g) hE
        refine Ev.br tX2_touch_25 rfl (fun c25 => ?_) (fun c25 => ?_)
        · exact absurd rfl c25
        · refine Ev.blk kX2_touch_28 rfl trivial ?_
          refine Ev.cV (d1 := d - 1) (ev_ref hC1 (Or.inr (Or.inr (Or.inl rfl)))) tX2_touch_31 qX2_39 rfl rfl (by decide) ⟨rfl, rfl, rfl⟩ (by omega) ?_
          rintro _ _ ⟨rfl, hS2, hC2⟩
          refine Ev.iret tX2_touch_34 rfl rfl ?_
          exact ⟨rfl, ho.up.tr hS2, hC2⟩
      · exact absurd (show ¬ bI true = nI 0 by decide) c8
    · have hb : (decide (i < dn (ug (sN st) g)) && !isC (ug (sN st) g) i) = true := by
        rw [show isC (ug (sN st) g) i = false from bl_f hc]
        simp; exact hi
      rw [hb] at ht
      rw [if_neg hc]
      have hI2 : YI (us (ug (sN st) g) (va_up (ds (sN st)) i (!ds (sN st) i))) := by
        refine hI.us (fun j hj => ?_)
        unfold va_up at hj
        split at hj
        · rename_i e
          subst e
          unfold isC at hc
          simp only [decide_eq_true_eq] at hc
          exact ⟨hi, by show dk (sN st) j < 4; omega⟩
        · exact hI.st hj
      refine Ev.blk kX2_touch_0 rfl trivial ?_
      refine Ev.cV (d1 := d - 1) (ev_hasB hY hh) tX2_touch_5 qX2_57 rfl rfl (by decide) ⟨rfl, rfl, rfl⟩ (by omega) ?_
      rintro _ _ ⟨rfl, rfl⟩
      refine Ev.br tX2_touch_8 rfl (fun c8 => ?_) (fun c8 => ?_)
      · refine Ev.blk kX2_touch_17 rfl trivial ?_
        refine Ev.cV (d1 := d - 1) (ht) tX2_touch_22 qX2_83 rfl rfl (by decide) ⟨rfl, rfl, rfl⟩ (by omega) ?_
        rintro _ _ ⟨rfl, ho, hE⟩
        rw [if_pos rfl] at hE
        refine Ev.br tX2_touch_25 rfl (fun c25 => ?_) (fun c25 => ?_)
        · refine Ev.blk kX2_touch_35 rfl trivial ?_
          refine Ev.cV (d1 := d - 1) (ev_isStanding hE hI2 (by omega) (show i < dn (us (ug (sN st) g) (va_up (ds (sN st)) i (!ds (sN st) i))) from hi)) tX2_touch_40 qX2_70 rfl rfl (by decide) ⟨rfl, rfl, rfl⟩ (by omega) ?_
          rintro _ _ ⟨rfl, rfl⟩
          have hv : ds (us (ug (sN st) g) (va_up (ds (ug (sN st) g)) i (!ds (ug (sN st) g) i))) i = !ds (sN st) i := by
            show va_up (ds (sN st)) i (!ds (sN st) i) i = _
            unfold va_up
            rw [if_pos rfl]
          rw [hv]
          refine Ev.br tX2_touch_43 rfl (fun c43 => ?_) (fun c43 => ?_)
          · have c43 : (!ds (sN st) i) = false := by rw [bI_0] at c43; exact c43
            refine Ev.blk kX2_touch_50 rfl trivial ?_
            refine Ev.iret tX2_touch_51 rfl rfl ?_
            refine ⟨by rw [c43]; rfl, ho.up, hC.now ho (D := us (sN st) (va_up (ds (sN st)) i (!ds (sN st) i))) (g := g) hE⟩
          · have c43 : (!ds (sN st) i) = true := by rw [bI_0] at c43; exact bl_t c43
            refine Ev.blk kX2_touch_46 rfl trivial ?_
            refine Ev.jmp tX2_touch_47 ?_
            refine Ev.iret tX2_touch_51 rfl rfl ?_
            refine ⟨by rw [c43]; rfl, ho.up, hC.now ho (D := us (sN st) (va_up (ds (sN st)) i (!ds (sN st) i))) (g := g) hE⟩
        · exact absurd (show ¬ bI true = nI 0 by decide) c25
      · exact absurd (show ¬ bI true = nI 0 by decide) c8
  · rw [if_neg hh]
    refine Ev.blk kX2_touch_0 rfl trivial ?_
    refine Ev.cV (d1 := d - 1) (ev_has hY c) tX2_touch_5 qX2_57 rfl rfl (by decide) ⟨rfl, rfl, rfl⟩ (by omega) ?_
    rintro _ _ ⟨rfl, rfl⟩
    refine Ev.br tX2_touch_8 rfl (fun c8 => ?_) (fun c8 => ?_)
    · exact absurd (hasI_f hh) c8
    · refine Ev.blk kX2_touch_11 rfl trivial ?_
      refine Ev.cV (d1 := d - 1) (ev_ref hC (Or.inl rfl)) tX2_touch_13 qX2_39 rfl rfl (by decide) ⟨rfl, rfl, rfl⟩ (by omega) ?_
      rintro _ _ ⟨rfl, hS2, hC2⟩
      refine Ev.iret tX2_touch_16 rfl rfl ?_
      exact ⟨rfl, hS2, hC2⟩
theorem ev_law (hC : KlsAt w st) (hS : SI st) (hd : 5 ≤ d) (v : Int32) : Cl l d MX2_law [mR 0 0, mI v] w (fun r u => CP w (P_law st v) r u) := by
  show Ev l d MX2_law 0 [some (mR 0 0), some (mI v), none] [] w _
  obtain ⟨g, hY⟩ := hC.1
  have hI : YI (ug (sN st) g) := hS.1.1
  unfold P_law
  by_cases hv : nI 0 ≤ v ∧ v < nI 4
  · obtain ⟨k, hk, rfl⟩ : ∃ k, k < 4 ∧ v = nI k := by
      rcases pk_ix v (n := 4) (by decide) with g | g | ⟨j, g1, g2⟩
      · exact absurd g (Int32.not_lt.mpr hv.1)
      · exact absurd hv.2 (Int32.not_lt.mpr g)
      · exact ⟨j, g1, g2⟩
    rw [if_pos hv, ixC (by omega)]
    refine Ev.blk kX2_law_0 rfl trivial ?_
    refine Ev.cV (d1 := d - 1) (ev_lawNow hY) tX2_law_4 qX2_86 rfl rfl (by decide) ⟨rfl, rfl, rfl⟩ (by omega) ?_
    rintro _ _ ⟨rfl, rfl⟩
    refine Ev.blk kX2_law_7 rfl trivial ?_
    refine Ev.cV (d1 := d - 1) (ev_setLaw hY hk) tX2_law_13 qX2_89 rfl rfl (by decide) ⟨rfl, rfl, rfl⟩ (by omega) ?_
    rintro _ _ ⟨rfl, ho, hE⟩
    refine Ev.br tX2_law_16 rfl (fun c16 => ?_) (fun c16 => ?_)
    · exact absurd c16 (by decide)
    · refine Ev.blk kX2_law_19 rfl trivial ?_
      refine Ev.jmp tX2_law_20 ?_
      refine Ev.iret tX2_law_29 rfl rfl ?_
      exact ⟨rfl, ho.up, hC.now ho (D := ul (sN st) k) (g := g) hE⟩
  · rw [if_neg hv]
    refine Ev.blk kX2_law_0 rfl trivial ?_
    refine Ev.cV (d1 := d - 1) (ev_lawNow hY) tX2_law_4 qX2_86 rfl rfl (by decide) ⟨rfl, rfl, rfl⟩ (by omega) ?_
    rintro _ _ ⟨rfl, rfl⟩
    refine Ev.blk kX2_law_7 rfl trivial ?_
    refine Ev.cV (d1 := d - 1) (ev_setLaw_no (y := 0) (by rcases Int32.lt_or_le v (nI 0) with z | z; exact Or.inl z; exact Or.inr (Int32.not_lt.mp (fun z2 => hv ⟨z, z2⟩)))) tX2_law_13 qX2_89 rfl rfl (by decide) ⟨rfl, rfl, rfl⟩ (by omega) ?_
    rintro _ _ ⟨rfl, rfl⟩
    refine Ev.br tX2_law_16 rfl (fun c16 => ?_) (fun c16 => ?_)
    · refine Ev.blk kX2_law_23 rfl trivial ?_
      refine Ev.cV (d1 := d - 1) (ev_ref hC (Or.inr (Or.inl rfl))) tX2_law_26 qX2_39 rfl rfl (by decide) ⟨rfl, rfl, rfl⟩ (by omega) ?_
      rintro _ _ ⟨rfl, hS2, hC2⟩
      refine Ev.iret tX2_law_29 rfl rfl ?_
      exact ⟨rfl, hS2, hC2⟩
    · exact absurd rfl c16
theorem ev_far (hC : KlsAt w st) (hd : 5 ≤ d) (a b : Int32) : Cl l d MX2_far [mR 0 0, mI a, mI b] w (fun r u => CP w (P_far st a b) r u) := by
  show Ev l d MX2_far 0 [some (mR 0 0), some (mI a), some (mI b)] [] w _
  unfold P_far
  by_cases ha : cellI a = true
  · by_cases hb : cellI b = true
    · obtain ⟨i, hi, rfl⟩ := cellI_ok ha
      obtain ⟨k, hk, rfl⟩ := cellI_ok hb
      rw [if_pos ⟨ha, hb⟩, ixC (by omega), ixC (by omega)]
      refine Ev.blk kX2_far_0 rfl trivial ?_
      refine Ev.cS (d1 := d - 1) (ev_isCellB ha) tX2_far_1 qX2_76 rfl ⟨rfl, rfl, rfl⟩ (by omega) ?_
      rintro _ _ ⟨rfl, rfl⟩
      refine Ev.br tX2_far_4 rfl (fun c4 => ?_) (fun c4 => ?_)
      · exact absurd c4 (by decide)
      · refine Ev.blk kX2_far_7 rfl trivial ?_
        refine Ev.cS (d1 := d - 1) (ev_isCellB hb) tX2_far_8 qX2_76 rfl ⟨rfl, rfl, rfl⟩ (by omega) ?_
        rintro _ _ ⟨rfl, rfl⟩
        refine Ev.br tX2_far_11 rfl (fun c11 => ?_) (fun c11 => ?_)
        · refine Ev.blk kX2_far_20 rfl trivial ?_
          refine Ev.cS (d1 := d - 1) (ev_apart hi hk) tX2_far_22 qX2_92 rfl ⟨rfl, rfl, rfl⟩ (by omega) ?_
          rintro _ _ ⟨rfl, rfl⟩
          refine Ev.iret tX2_far_25 rfl rfl ?_
          exact ⟨rfl, Sm.rf, hC⟩
        · exact absurd (show ¬ bI true = nI 0 by decide) c11
    · rw [if_neg (fun z => hb z.2)]
      refine Ev.blk kX2_far_0 rfl trivial ?_
      refine Ev.cS (d1 := d - 1) (ev_isCellB ha) tX2_far_1 qX2_76 rfl ⟨rfl, rfl, rfl⟩ (by omega) ?_
      rintro _ _ ⟨rfl, rfl⟩
      refine Ev.br tX2_far_4 rfl (fun c4 => ?_) (fun c4 => ?_)
      · exact absurd c4 (by decide)
      · refine Ev.blk kX2_far_7 rfl trivial ?_
        refine Ev.cS (d1 := d - 1) (ev_isCell b) tX2_far_8 qX2_76 rfl ⟨rfl, rfl, rfl⟩ (by omega) ?_
        rintro _ _ ⟨rfl, rfl⟩
        refine Ev.br tX2_far_11 rfl (fun c11 => ?_) (fun c11 => ?_)
        · exact absurd (bI_ff hb) c11
        · refine Ev.blk kX2_far_14 rfl trivial ?_
          refine Ev.cV (d1 := d - 1) (ev_ref hC (Or.inl rfl)) tX2_far_16 qX2_39 rfl rfl (by decide) ⟨rfl, rfl, rfl⟩ (by omega) ?_
          rintro _ _ ⟨rfl, hS2, hC2⟩
          refine Ev.iret tX2_far_19 rfl rfl ?_
          exact ⟨rfl, hS2, hC2⟩
  · rw [if_neg (fun z => ha z.1)]
    refine Ev.blk kX2_far_0 rfl trivial ?_
    refine Ev.cS (d1 := d - 1) (ev_isCell a) tX2_far_1 qX2_76 rfl ⟨rfl, rfl, rfl⟩ (by omega) ?_
    rintro _ _ ⟨rfl, rfl⟩
    refine Ev.br tX2_far_4 rfl (fun c4 => ?_) (fun c4 => ?_)
    · refine Ev.blk kX2_far_14 rfl trivial ?_
      refine Ev.cV (d1 := d - 1) (ev_ref hC (Or.inl rfl)) tX2_far_16 qX2_39 rfl rfl (by decide) ⟨rfl, rfl, rfl⟩ (by omega) ?_
      rintro _ _ ⟨rfl, hS2, hC2⟩
      refine Ev.iret tX2_far_19 rfl rfl ?_
      exact ⟨rfl, hS2, hC2⟩
    · exact absurd (bI_ff ha) c4
theorem ev_seconds (hC : KlsAt w st) (hS : SI st) (hd : 8 ≤ d) (n : Int32) : Cl l d MX2_seconds [mR 0 0, mI n] w (fun r u => CP w (P_seconds st n) r u) := by
  show Ev l d MX2_seconds 0 [some (mR 0 0), some (mI n), none] [] w _
  obtain ⟨g, hY⟩ := hC.1
  have hI : YI (ug (sN st) g) := hS.1.1
  have hse : de (sN st) ≤ 999 := hS.1.2.1
  unfold P_seconds
  have bad : ∀ why, RC why → wSec st n = why → Ev l d MX2_seconds 30 [some (mR 0 0), some (mI n), some (mI why)] [] w (fun r u => CP w (GO st (wSec st n) (nI (de (sN st) + ix n), vN st (ug (passN (sN st) (ix n)) 0))) r u) := by
    intro why hr he
    rw [he, GO_no (rc_k hr).2.2]
    refine Ev.blk kX2_seconds_30 rfl trivial ?_
    refine Ev.br tX2_seconds_31 rfl (fun c31 => ?_) (fun c31 => ?_)
    · exact absurd c31 (rc_k hr).2.2
    · refine Ev.blk kX2_seconds_34 rfl trivial ?_
      refine Ev.cV (d1 := d - 1) (ev_ref hC hr) tX2_seconds_36 qX2_39 rfl rfl (by decide) ⟨rfl, rfl, rfl⟩ (by omega) ?_
      rintro _ _ ⟨rfl, hS2, hC2⟩
      refine Ev.iret tX2_seconds_39 rfl rfl ?_
      exact ⟨rfl, hS2, hC2⟩
  by_cases hw : outs n (nI 1) (nI 60) = nI 0
  · by_cases hm : nI 999 < nI (de (sN st)) + n
    · have e : wSec st n = -6 := if_pos ⟨hw, hm⟩
      refine Ev.blk kX2_seconds_0 rfl trivial ?_
      refine Ev.cS (d1 := d - 1) (ev_outside n (nI 1) (nI 60)) tX2_seconds_4 qX2_96 rfl ⟨rfl, rfl, rfl⟩ (by omega) ?_
      rintro _ _ ⟨rfl, rfl⟩
      rw [hw]
      refine Ev.blk kX2_seconds_7 rfl trivial ?_
      refine Ev.br tX2_seconds_9 rfl (fun c9 => ?_) (fun c9 => ?_)
      · exact absurd rfl c9
      · refine Ev.blk kX2_seconds_12 rfl trivial ?_
        refine Ev.cV (d1 := d - 1) (ev_secondNow hY) tX2_seconds_16 qX2_100 rfl rfl (by decide) ⟨rfl, rfl, rfl⟩ (by omega) ?_
        rintro _ _ ⟨rfl, rfl⟩
        refine Ev.blk kX2_seconds_19 rfl trivial ?_
        refine Ev.br tX2_seconds_24 rfl (fun c24 => ?_) (fun c24 => ?_)
        · exact absurd hm (Int32.not_lt.mpr c24)
        · refine Ev.blk kX2_seconds_27 rfl trivial ?_
          exact bad _ (Or.inr (Or.inr (Or.inr (Or.inr rfl)))) e
    · have e : wSec st n = nI 0 := by
        unfold wSec
        rw [if_neg (fun z => hm z.2)]
        exact hw
      rw [GO_ok e]
      obtain ⟨k, h1, h2, rfl⟩ := outs_ok (by omega) (by omega) hw
      obtain ⟨g', hg⟩ := passN_g (D := sN st) (g := g) k
      rw [ixC (by omega)]
      refine Ev.blk kX2_seconds_0 rfl trivial ?_
      refine Ev.cS (d1 := d - 1) (ev_outside (nI k) (nI 1) (nI 60)) tX2_seconds_4 qX2_96 rfl ⟨rfl, rfl, rfl⟩ (by omega) ?_
      rintro _ _ ⟨rfl, rfl⟩
      rw [hw]
      refine Ev.blk kX2_seconds_7 rfl trivial ?_
      refine Ev.br tX2_seconds_9 rfl (fun c9 => ?_) (fun c9 => ?_)
      · exact absurd rfl c9
      · refine Ev.blk kX2_seconds_12 rfl trivial ?_
        refine Ev.cV (d1 := d - 1) (ev_secondNow hY) tX2_seconds_16 qX2_100 rfl rfl (by decide) ⟨rfl, rfl, rfl⟩ (by omega) ?_
        rintro _ _ ⟨rfl, rfl⟩
        refine Ev.blk kX2_seconds_19 rfl trivial ?_
        refine Ev.br tX2_seconds_24 rfl (fun c24 => ?_) (fun c24 => ?_)
        · refine Ev.blk kX2_seconds_30 rfl trivial ?_
          refine Ev.br tX2_seconds_31 rfl (fun c31 => ?_) (fun c31 => ?_)
          · refine Ev.blk kX2_seconds_40 rfl trivial ?_
            refine Ev.cV (d1 := d - 1) (ev_passMany hY hI (by omega) (show k < 1000 by omega) (by show de (sN st) + k < 100000; omega)) tX2_seconds_45 qX2_103 rfl rfl (by decide) ⟨rfl, rfl, rfl⟩ (by omega) ?_
            rintro _ _ ⟨rfl, ho, hE⟩
            rw [hg] at hE
            refine Ev.blk kX2_seconds_48 rfl trivial ?_
            refine Ev.cV (d1 := d - 1) (ev_secondNow hE) tX2_seconds_52 qX2_100 rfl rfl (by decide) ⟨rfl, rfl, rfl⟩ (by omega) ?_
            rintro _ _ ⟨rfl, rfl⟩
            refine Ev.iret tX2_seconds_55 rfl rfl ?_
            refine ⟨?_, ho.up, hC.now ho (D := ug (passN (sN st) k) 0) (g := g') hE⟩
            show some (mI (nI (de (passN (sN st) k)))) = _
            rw [(passN_n k).2.2.2.2.2]
          · exact absurd rfl c31
        · exact absurd (Int32.not_lt.mp hm) c24
  · have e : wSec st n = outs n (nI 1) (nI 60) := if_neg (fun z => hw z.1)
    refine Ev.blk kX2_seconds_0 rfl trivial ?_
    refine Ev.cS (d1 := d - 1) (ev_outside n (nI 1) (nI 60)) tX2_seconds_4 qX2_96 rfl ⟨rfl, rfl, rfl⟩ (by omega) ?_
    rintro _ _ ⟨rfl, rfl⟩
    refine Ev.blk kX2_seconds_7 rfl trivial ?_
    refine Ev.br tX2_seconds_9 rfl (fun c9 => ?_) (fun c9 => ?_)
    · exact bad _ (outs_rcn hw) e
    · exact absurd hw c9
theorem ev_stand (hC : KlsAt w st) (hS : SI st) (hd : 8 ≤ d) (n : Int32) : Cl l d MX2_stand [mR 0 0, mI n] w (fun r u => CP w (P_stand st n) r u) := by
  show Ev l d MX2_stand 0 [some (mR 0 0), some (mI n), none] [] w _
  obtain ⟨g, hY⟩ := hC.1
  have hI : YI (sN st) := hS.1.1
  have hse : de (sN st) ≤ 999 := hS.1.2.1
  unfold P_stand
  refine Ev.blk kX2_stand_0 rfl trivial ?_
  refine Ev.cS (d1 := d - 1) (ev_outside n (nI 0) (nI 60)) tX2_stand_4 qX2_96 rfl ⟨rfl, rfl, rfl⟩ (by omega) ?_
  rintro _ _ ⟨rfl, rfl⟩
  refine Ev.blk kX2_stand_7 rfl trivial ?_
  refine Ev.br tX2_stand_9 rfl (fun c9 => ?_) (fun c9 => ?_)
  · rw [GO_ok c9]
    obtain ⟨k, h1, h2, rfl⟩ := outs_ok (by omega) (by omega) c9
    rw [ixC (by omega)]
    refine Ev.blk kX2_stand_18 rfl trivial ?_
    refine Ev.cV (d1 := d - 1) (ev_copyFrom (y := 1) (z := 0) (by decide) hY (by omega)) tX2_stand_26 qX2_107 rfl rfl (by decide) ⟨rfl, rfl, rfl⟩ (by omega) ?_
    rintro _ _ ⟨rfl, ho, hE⟩
    rw [hS.1.can] at hE
    refine Ev.blk kX2_stand_29 rfl trivial ?_
    refine Ev.cV (d1 := d - 1) (ev_passMany hE hI (by omega) (show k < 1000 by omega) (by omega)) tX2_stand_34 qX2_103 rfl rfl (by decide) ⟨rfl, rfl, rfl⟩ (by omega) ?_
    rintro _ _ ⟨rfl, ho2, hE2⟩
    refine Ev.blk kX2_stand_37 rfl trivial ?_
    refine Ev.cV (d1 := d - 1) (ev_standingBits hE2) tX2_stand_41 qX2_111 rfl rfl (by decide) ⟨rfl, rfl, rfl⟩ (by omega) ?_
    rintro _ _ ⟨rfl, rfl⟩
    refine Ev.iret tX2_stand_44 rfl rfl ?_
    exact ⟨rfl, (ho.tr ho2).up, hC.mind (ho.tr ho2) (Or.inl rfl)⟩
  · refine Ev.blk kX2_stand_12 rfl trivial ?_
    refine Ev.cV (d1 := d - 1) (ev_ref hC (outs_rcn c9)) tX2_stand_14 qX2_39 rfl rfl (by decide) ⟨rfl, rfl, rfl⟩ (by omega) ?_
    rintro _ _ ⟨rfl, hS2, hC2⟩
    refine Ev.iret tX2_stand_17 rfl rfl ?_
    rw [GO_no c9]; exact ⟨rfl, hS2, hC2⟩
theorem ev_where (hC : KlsAt w st) (hS : SI st) (hd : 8 ≤ d) (c n : Int32) : Cl l d MX2_where [mR 0 0, mI c, mI n] w (fun r u => CP w (P_where st c n) r u) := by
  show Ev l d MX2_where 0 [some (mR 0 0), some (mI c), some (mI n), none] [] w _
  obtain ⟨g, hY⟩ := hC.1
  have hI : YI (sN st) := hS.1.1
  have hse : de (sN st) ≤ 999 := hS.1.2.1
  unfold P_where
  have bad : ∀ why, RC why → wWhere st c n = why → Ev l d MX2_where 22 [some (mR 0 0), some (mI c), some (mI n), none] [mI why] w (fun r u => CP w (GO st (wWhere st c n) (nI (dc (passN (sN st) (ix n)) (ix c)), st)) r u) := by
    intro why hr he
    rw [he, GO_no (rc_k hr).2.2]
    refine Ev.blk kX2_where_22 rfl trivial ?_
    refine Ev.br tX2_where_24 rfl (fun c24 => ?_) (fun c24 => ?_)
    · exact absurd c24 (rc_k hr).2.2
    · refine Ev.blk kX2_where_27 rfl trivial ?_
      refine Ev.cV (d1 := d - 1) (ev_ref hC hr) tX2_where_29 qX2_39 rfl rfl (by decide) ⟨rfl, rfl, rfl⟩ (by omega) ?_
      rintro _ _ ⟨rfl, hS2, hC2⟩
      refine Ev.iret tX2_where_32 rfl rfl ?_
      exact ⟨rfl, hS2, hC2⟩
  by_cases hh : hasI (sN st) c = true
  · have e : wWhere st c n = outs n (nI 0) (nI 60) := if_pos hh
    by_cases hw : outs n (nI 0) (nI 60) = nI 0
    · rw [GO_ok (e.trans hw)]
      obtain ⟨k, h1, h2, rfl⟩ := outs_ok (by omega) (by omega) hw
      obtain ⟨i, hi, rfl⟩ := hasI_of hh hI.1
      have hi8 : i < 8 := Nat.lt_of_lt_of_le hi hI.1
      rw [ixC (by omega), ixC (by omega)]
      refine Ev.blk kX2_where_0 rfl trivial ?_
      refine Ev.cV (d1 := d - 1) (ev_hasB hY hh) tX2_where_5 qX2_57 rfl rfl (by decide) ⟨rfl, rfl, rfl⟩ (by omega) ?_
      rintro _ _ ⟨rfl, rfl⟩
      refine Ev.br tX2_where_8 rfl (fun c8 => ?_) (fun c8 => ?_)
      · exact absurd c8 (by decide)
      · refine Ev.blk kX2_where_11 rfl trivial ?_
        refine Ev.cS (d1 := d - 1) (ev_outside (nI k) (nI 0) (nI 60)) tX2_where_15 qX2_96 rfl ⟨rfl, rfl, rfl⟩ (by omega) ?_
        rintro _ _ ⟨rfl, rfl⟩
        rw [hw]
        refine Ev.jmp tX2_where_18 ?_
        refine Ev.blk kX2_where_22 rfl trivial ?_
        refine Ev.br tX2_where_24 rfl (fun c24 => ?_) (fun c24 => ?_)
        · refine Ev.blk kX2_where_33 rfl trivial ?_
          refine Ev.cV (d1 := d - 1) (ev_copyFrom (y := 1) (z := 0) (by decide) hY (by omega)) tX2_where_41 qX2_107 rfl rfl (by decide) ⟨rfl, rfl, rfl⟩ (by omega) ?_
          rintro _ _ ⟨rfl, ho, hE⟩
          rw [hS.1.can] at hE
          refine Ev.blk kX2_where_44 rfl trivial ?_
          refine Ev.cV (d1 := d - 1) (ev_passMany hE hI (by omega) (show k < 1000 by omega) (by omega)) tX2_where_49 qX2_103 rfl rfl (by decide) ⟨rfl, rfl, rfl⟩ (by omega) ?_
          rintro _ _ ⟨rfl, ho2, hE2⟩
          refine Ev.blk kX2_where_52 rfl trivial ?_
          refine Ev.cV (d1 := d - 1) (ev_cellOf hE2 (hS.1.pass (by omega)) (by omega) (show i < dn (passN (sN st) k) by rw [(passN_n k).1]; exact hi)) tX2_where_57 qX2_64 rfl rfl (by decide) ⟨rfl, rfl, rfl⟩ (by omega) ?_
          rintro _ _ ⟨rfl, rfl⟩
          refine Ev.iret tX2_where_60 rfl rfl ?_
          exact ⟨rfl, (ho.tr ho2).up, hC.mind (ho.tr ho2) (Or.inl rfl)⟩
        · exact absurd rfl c24
    · skip
      refine Ev.blk kX2_where_0 rfl trivial ?_
      refine Ev.cV (d1 := d - 1) (ev_hasB hY hh) tX2_where_5 qX2_57 rfl rfl (by decide) ⟨rfl, rfl, rfl⟩ (by omega) ?_
      rintro _ _ ⟨rfl, rfl⟩
      refine Ev.br tX2_where_8 rfl (fun c8 => ?_) (fun c8 => ?_)
      · exact absurd c8 (by decide)
      · refine Ev.blk kX2_where_11 rfl trivial ?_
        refine Ev.cS (d1 := d - 1) (ev_outside n (nI 0) (nI 60)) tX2_where_15 qX2_96 rfl ⟨rfl, rfl, rfl⟩ (by omega) ?_
        rintro _ _ ⟨rfl, rfl⟩
        refine Ev.jmp tX2_where_18 ?_
        exact bad _ (outs_rcn hw) e
  · have e : wWhere st c n = -1 := if_neg hh
    refine Ev.blk kX2_where_0 rfl trivial ?_
    refine Ev.cV (d1 := d - 1) (ev_has hY c) tX2_where_5 qX2_57 rfl rfl (by decide) ⟨rfl, rfl, rfl⟩ (by omega) ?_
    rintro _ _ ⟨rfl, rfl⟩
    refine Ev.br tX2_where_8 rfl (fun c8 => ?_) (fun c8 => ?_)
    · refine Ev.blk kX2_where_21 rfl trivial ?_
      exact bad _ (Or.inl rfl) e
    · exact absurd (hasI_f hh) c8
end C2
end
section
/-! ===== the class's calls: what goes on in mind ===== -/
section C3
variable {l : Launch} {d : Nat} {w : mW} {st : St} {D : Yd}
theorem ev_standingOver (hM : YardAt w 1 D) (hI : YI D) (hd : 6 ≤ d) {n : Nat} (hn : n ≤ 60) (he : de D + n < 100000) : Cl l d MX2_standingOver [mR 0 0, mI (nI n)] w (fun r u => r = some (mI (nI (sto D n))) ∧ Off 1 w u ∧ YardAt u 1 (passN D n)) := by
  show Ev l d MX2_standingOver 0 [some (mR 0 0), some (mI (nI n)), none, none] [] w _
  refine Ev.blk kX2_standingOver_0 rfl trivial ?_
  refine Ev.for (fun i L u => Off 1 w u ∧ YardAt u 1 (passN D i) ∧ L = [some (mR 0 0), some (mI (nI n)), some (mI (nI (sto D i))), some (mI (nI (i + 1)))]) n ?_ ?_ 0 (Nat.zero_le _) ⟨Off.rf, hM, rfl⟩
  · rintro L u ⟨ho, hE, rfl⟩
    refine Ev.blk kX2_standingOver_4 rfl trivial ?_
    refine Ev.br tX2_standingOver_6 rfl (fun c6 => ?_) (fun c6 => ?_)
    · refine Ev.blk kX2_standingOver_32 rfl trivial ?_
      refine Ev.iret tX2_standingOver_33 rfl rfl ?_
      exact ⟨rfl, ho, hE⟩
    · exact absurd (nI_lt (by omega) (by omega)) c6
  · rintro i L u hi ⟨ho, hE, rfl⟩ k
    have hIi := passN_YI hI i (by omega)
    have hde : de (passN D i) = de D + i := (passN_n i).2.2.2.2.2
    refine Ev.blk kX2_standingOver_4 rfl trivial ?_
    refine Ev.br tX2_standingOver_6 rfl (fun c6 => ?_) (fun c6 => ?_)
    · exact absurd c6 (nI_nlt (by omega) (by omega))
    · refine Ev.blk kX2_standingOver_9 rfl trivial ?_
      refine Ev.cV (d1 := d - 1) (ev_pass hE hIi (by omega)) tX2_standingOver_13 qX2_134 rfl rfl (by decide) ⟨rfl, rfl, rfl⟩ (by omega) ?_
      rintro _ _ ⟨rfl, ho2, hE2⟩
      refine Ev.blk kX2_standingOver_16 rfl trivial ?_
      refine Ev.cV (d1 := d - 1) (ev_standingCount hE2 (by omega)) tX2_standingOver_21 qX2_122 rfl rfl (by decide) ⟨rfl, rfl, rfl⟩ (by omega) ?_
      rintro _ _ ⟨rfl, rfl⟩
      refine Ev.blk kX2_standingOver_24 rfl trivial ?_
      simp only [nI_add]
      refine Ev.jmp tX2_standingOver_29 ?_
      exact k _ _ ⟨ho.tr ho2, hE2, rfl⟩
theorem ev_secondsTillOver (hM : YardAt w 1 D) (hI : YI D) (hd : 6 ≤ d) (he : de D + 61 < 100000) : Cl l d MX2_secondsTillOver [mR 0 0] w (fun r u => r = some (mI (oM9 (tov D))) ∧ Off 1 w u) := by
  show Ev l d MX2_secondsTillOver 0 [some (mR 0 0), none] [] w _
  refine Ev.blk kX2_secondsTillOver_0 rfl trivial ?_
  refine Ev.for (fun i L u => Off 1 w u ∧ YardAt u 1 (passN D i) ∧ fst1 (fun k => ovr (passN D k)) i = none ∧ L = [some (mR 0 0), some (mI (nI i))]) 61 ?_ ?_ 0 (Nat.zero_le _) ⟨Off.rf, hM, rfl, rfl⟩
  · rintro L u ⟨ho, hE, h0, rfl⟩
    refine Ev.blk kX2_secondsTillOver_2 rfl trivial ?_
    refine Ev.br tX2_secondsTillOver_5 rfl (fun c5 => ?_) (fun c5 => ?_)
    · refine Ev.blk kX2_secondsTillOver_33 rfl trivial ?_
      refine Ev.iret tX2_secondsTillOver_35 rfl rfl ?_
      refine ⟨?_, ho⟩
      unfold tov
      rw [h0]
      rfl
    · exact absurd (nI_lt (by decide) (by decide)) c5
  · rintro i L u hi ⟨ho, hE, h0, rfl⟩ k
    have hIi := passN_YI hI i (by omega)
    have hde : de (passN D i) = de D + i := (passN_n i).2.2.2.2.2
    refine Ev.blk kX2_secondsTillOver_2 rfl trivial ?_
    refine Ev.br tX2_secondsTillOver_5 rfl (fun c5 => ?_) (fun c5 => ?_)
    · exact absurd c5 (nI_nlt (by omega) (by omega))
    · refine Ev.blk kX2_secondsTillOver_8 rfl trivial ?_
      refine Ev.cV (d1 := d - 1) (ev_isOver hE hIi (by omega)) tX2_secondsTillOver_12 qX2_208 rfl rfl (by decide) ⟨rfl, rfl, rfl⟩ (by omega) ?_
      rintro _ _ ⟨rfl, rfl⟩
      refine Ev.br tX2_secondsTillOver_15 rfl (fun c15 => ?_) (fun c15 => ?_)
      · rw [bI_0] at c15
        refine Ev.blk kX2_secondsTillOver_20 rfl trivial ?_
        refine Ev.cV (d1 := d - 1) (ev_pass hE hIi (by omega)) tX2_secondsTillOver_24 qX2_134 rfl rfl (by decide) ⟨rfl, rfl, rfl⟩ (by omega) ?_
        rintro _ _ ⟨rfl, ho2, hE2⟩
        refine Ev.blk kX2_secondsTillOver_27 rfl trivial ?_
        refine Ev.jmp tX2_secondsTillOver_30 ?_
        refine k _ _ ⟨ho.tr ho2, hE2, ?_, by rw [nI_add]⟩
        unfold fst1
        rw [h0]
        simp only [c15]
        rfl
      · rw [bI_0] at c15
        have c15 : ovr (passN D i) = true := bl_t c15
        refine Ev.blk kX2_secondsTillOver_18 rfl trivial ?_
        refine Ev.iret tX2_secondsTillOver_19 rfl rfl ?_
        refine ⟨?_, ho⟩
        unfold tov
        rw [fst1_some h0 c15 hi]
        rfl
theorem ev_othersStanding (hM : YardAt w 1 D) (hI : YI D) (hd : 6 ≤ d) (he : de D + 20 < 100000) {i : Nat} (hi : i < dn D) : Cl l d MX2_othersStanding [mR 0 0, mI (nI i)] w (fun r u => r = some (mI (nI (ots D i 20))) ∧ Off 1 w u) := by
  show Ev l d MX2_othersStanding 0 [some (mR 0 0), some (mI (nI i)), none, none] [] w _
  have hi8 : i < 8 := Nat.lt_of_lt_of_le hi hI.1
  refine Ev.blk kX2_othersStanding_0 rfl trivial ?_
  refine Ev.for (fun m L u => Off 1 w u ∧ YardAt u 1 (passN D m) ∧ L = [some (mR 0 0), some (mI (nI i)), some (mI (nI (ots D i m))), some (mI (nI (m + 1)))]) 20 ?_ ?_ 0 (Nat.zero_le _) ⟨Off.rf, hM, rfl⟩
  · rintro L u ⟨ho, hE, rfl⟩
    refine Ev.blk kX2_othersStanding_4 rfl trivial ?_
    refine Ev.br tX2_othersStanding_7 rfl (fun c7 => ?_) (fun c7 => ?_)
    · refine Ev.blk kX2_othersStanding_50 rfl trivial ?_
      refine Ev.iret tX2_othersStanding_51 rfl rfl ?_
      exact ⟨rfl, ho⟩
    · exact absurd (nI_lt (by decide) (by decide)) c7
  · rintro m L u hm ⟨ho, hE, rfl⟩ k
    have hIi := passN_YI hI m (by omega)
    have hde : de (passN D m) = de D + m := (passN_n m).2.2.2.2.2
    have hIj := passN_YI hI (m + 1) (by omega)
    have hin : i < dn (passN D (m + 1)) := by rw [(passN_n (m + 1)).1]; exact hi
    have hc := cnt_wo (q := ds (pass (passN D m))) hi8
    refine Ev.blk kX2_othersStanding_4 rfl trivial ?_
    refine Ev.br tX2_othersStanding_7 rfl (fun c7 => ?_) (fun c7 => ?_)
    · exact absurd c7 (nI_nlt (by omega) (by omega))
    · refine Ev.blk kX2_othersStanding_10 rfl trivial ?_
      refine Ev.cV (d1 := d - 1) (ev_pass hE hIi (by omega)) tX2_othersStanding_14 qX2_134 rfl rfl (by decide) ⟨rfl, rfl, rfl⟩ (by omega) ?_
      rintro _ _ ⟨rfl, ho2, hE2⟩
      refine Ev.blk kX2_othersStanding_17 rfl trivial ?_
      refine Ev.cV (d1 := d - 1) (ev_standingCount hE2 (by omega)) tX2_othersStanding_22 qX2_122 rfl rfl (by decide) ⟨rfl, rfl, rfl⟩ (by omega) ?_
      rintro _ _ ⟨rfl, rfl⟩
      refine Ev.blk kX2_othersStanding_25 rfl trivial ?_
      refine Ev.cV (d1 := d - 1) (ev_isStanding hE2 hIj (by omega) hin) tX2_othersStanding_30 qX2_70 rfl rfl (by decide) ⟨rfl, rfl, rfl⟩ (by omega) ?_
      rintro _ _ ⟨rfl, rfl⟩
      refine Ev.br tX2_othersStanding_33 rfl (fun c33 => ?_) (fun c33 => ?_)
      · rw [bI_0] at c33
        rw [if_neg (by rw [c33]; decide)] at hc
        refine Ev.blk kX2_othersStanding_40 rfl trivial ?_
        refine Ev.blk kX2_othersStanding_41 rfl trivial ?_
        refine Ev.jmp tX2_othersStanding_47 ?_
        refine k _ _ ⟨ho.tr ho2, hE2, ?_⟩
        rw [hc]
        first
          | (rw [pk_sub (Nat.le_add_left _ _), Nat.add_sub_cancel, nI_add, nI_add]; rfl)
          | (rw [pk_sub (Nat.zero_le _), nI_add, nI_add]; rfl)
      · rw [bI_0] at c33
        rw [if_pos (bl_t c33)] at hc
        refine Ev.blk kX2_othersStanding_36 rfl trivial ?_
        refine Ev.jmp tX2_othersStanding_37 ?_
        refine Ev.blk kX2_othersStanding_41 rfl trivial ?_
        refine Ev.jmp tX2_othersStanding_47 ?_
        refine k _ _ ⟨ho.tr ho2, hE2, ?_⟩
        rw [hc]
        first
          | (rw [pk_sub (Nat.le_add_left _ _), Nat.add_sub_cancel, nI_add, nI_add]; rfl)
          | (rw [pk_sub (Nat.zero_le _), nI_add, nI_add]; rfl)
theorem ev_addCatchers (hM : YardAt w 1 D) (hI : YI D) (hd : 4 ≤ d) {n : Nat} (hn : n ≤ 3) : Cl l d MX2_addCatchers [mR 0 0, mI (nI n)] w (fun r u => r = some (mI (bI (decide (dn D + n ≤ 8)))) ∧ Off 1 w u ∧ (dn D + n ≤ 8 → YardAt u 1 (addN D n))) := by
  show Ev l d MX2_addCatchers 0 [some (mR 0 0), some (mI (nI n)), none] [] w _
  have h8 := hI.1
  refine Ev.blk kX2_addCatchers_0 rfl trivial ?_
  refine Ev.for (fun i L u => Off 1 w u ∧ dn D + i ≤ 8 ∧ YardAt u 1 (addN D i) ∧ L = [some (mR 0 0), some (mI (nI n)), some (mI (nI i))]) n ?_ ?_ 0 (Nat.zero_le _) ⟨Off.rf, h8, hM, rfl⟩
  · rintro L u ⟨ho, h1, hE, rfl⟩
    refine Ev.blk kX2_addCatchers_2 rfl trivial ?_
    refine Ev.br tX2_addCatchers_4 rfl (fun c4 => ?_) (fun c4 => ?_)
    · refine Ev.blk kX2_addCatchers_28 rfl trivial ?_
      refine Ev.iret tX2_addCatchers_29 rfl rfl ?_
      exact ⟨by rw [decide_eq_true h1]; rfl, ho, fun _ => hE⟩
    · exact absurd (nI_le (Nat.le_refl _) (by omega)) c4
  · rintro i L u hi ⟨ho, h1, hE, rfl⟩ k
    have hIi := addN_YI hI i h1
    have ha := ev_add (l := l) (d := d - 1) hE hIi (by omega) (k := 4) (c := 0) (f := 0) (by decide) (by decide) (by decide)
    have hb : addB (addN D i) 4 0 0 = decide (dn D + i < 8) := by
      unfold addB
      rw [addN_dn]
      simp
    rw [hb] at ha
    by_cases hlt : dn D + i < 8
    · rw [decide_eq_true hlt] at ha
      refine Ev.blk kX2_addCatchers_2 rfl trivial ?_
      refine Ev.br tX2_addCatchers_4 rfl (fun c4 => ?_) (fun c4 => ?_)
      · exact absurd c4 (nI_ge hi (by omega))
      · refine Ev.blk kX2_addCatchers_7 rfl trivial ?_
        refine Ev.cV (d1 := d - 1) (ha) tX2_addCatchers_14 qX2_211 rfl rfl (by decide) ⟨rfl, rfl, rfl⟩ (by omega) ?_
        rintro _ _ ⟨rfl, ho2, hE2⟩
        refine Ev.br tX2_addCatchers_17 rfl (fun c17 => ?_) (fun c17 => ?_)
        · refine Ev.blk kX2_addCatchers_22 rfl trivial ?_
          refine Ev.jmp tX2_addCatchers_25 ?_
          exact k _ _ ⟨ho.tr ho2, by omega, hE2, by rw [nI_add]⟩
        · exact absurd (show ¬ bI true = nI 0 by decide) c17
    · rw [decide_eq_false hlt] at ha
      refine Ev.blk kX2_addCatchers_2 rfl trivial ?_
      refine Ev.br tX2_addCatchers_4 rfl (fun c4 => ?_) (fun c4 => ?_)
      · exact absurd c4 (nI_ge hi (by omega))
      · refine Ev.blk kX2_addCatchers_7 rfl trivial ?_
        refine Ev.cV (d1 := d - 1) (ha) tX2_addCatchers_14 qX2_211 rfl rfl (by decide) ⟨rfl, rfl, rfl⟩ (by omega) ?_
        rintro _ _ ⟨rfl, ho2, hE2⟩
        refine Ev.br tX2_addCatchers_17 rfl (fun c17 => ?_) (fun c17 => ?_)
        · exact absurd rfl c17
        · refine Ev.blk kX2_addCatchers_20 rfl trivial ?_
          refine Ev.iret tX2_addCatchers_21 rfl rfl ?_
          refine ⟨?_, ho.tr ho2, fun z => by omega⟩
          rw [decide_eq_false (show ¬ dn D + n ≤ 8 by omega)]
          rfl
theorem ev_firstUntrue (hC : KlsAt w st) (hS : SI st) (hM : YardAt w 1 D) (hI : YI D) (hd : 6 ≤ d) (he : de D + 20 < 100000) : Cl l d MX2_firstUntrue [mR 0 0] w (fun r u => r = some (mI (oM9 (unt st D))) ∧ Off 1 w u) := by
  show Ev l d MX2_firstUntrue 0 [some (mR 0 0), none] [] w _
  have h20 := hS.2.2.2.1
  have h8 := hS.2.2.2.2
  refine Ev.blk kX2_firstUntrue_0 rfl trivial ?_
  refine Ev.for (fun i L u => Off 1 w u ∧ YardAt u 1 (passN D i) ∧ fst1 (fun k => !(cnt (ds (passN D (k + 1))) 8 == sR st k)) i = none ∧ L = [some (mR 0 0), some (mI (nI i))]) (sM st) ?_ ?_ 0 (Nat.zero_le _) ⟨Off.rf, hM, rfl, rfl⟩
  · rintro L u ⟨ho, hE, h0, rfl⟩
    have hm := (hC.mind ho (Or.inl rfl)).2.2.2.2.1
    refine Ev.blk kX2_firstUntrue_2 rfl trivial ?_
    simp only [hm]
    refine Ev.br tX2_firstUntrue_7 rfl (fun c7 => ?_) (fun c7 => ?_)
    · refine Ev.blk kX2_firstUntrue_41 rfl trivial ?_
      refine Ev.iret tX2_firstUntrue_43 rfl rfl ?_
      refine ⟨?_, ho⟩
      unfold unt
      rw [h0]
      rfl
    · exact absurd (nI_le (Nat.le_refl _) (by omega)) c7
  · rintro i L u hi ⟨ho, hE, h0, rfl⟩ k
    have hm := (hC.mind ho (Or.inl rfl)).2.2.2.2.1
    have hIi := passN_YI hI i (by omega)
    have hde : de (passN D i) = de D + i := (passN_n i).2.2.2.2.2
    have hri := h8 i hi
    have hci := cnt_le (ds (passN D (i + 1))) 8
    refine Ev.blk kX2_firstUntrue_2 rfl trivial ?_
    simp only [hm]
    refine Ev.br tX2_firstUntrue_7 rfl (fun c7 => ?_) (fun c7 => ?_)
    · exact absurd c7 (nI_ge hi (by omega))
    · refine Ev.blk kX2_firstUntrue_10 rfl trivial ?_
      refine Ev.cV (d1 := d - 1) (ev_pass hE hIi (by omega)) tX2_firstUntrue_14 qX2_134 rfl rfl (by decide) ⟨rfl, rfl, rfl⟩ (by omega) ?_
      rintro _ _ ⟨rfl, ho2, hE2⟩
      have hr := (hC.mind (ho.tr ho2) (Or.inl rfl)).2.2.2.2.2.1 i hi
      refine Ev.blk kX2_firstUntrue_17 rfl trivial ?_
      refine Ev.cV (d1 := d - 1) (ev_standingCount hE2 (by omega)) tX2_firstUntrue_21 qX2_122 rfl rfl (by decide) ⟨rfl, rfl, rfl⟩ (by omega) ?_
      rintro _ _ ⟨rfl, rfl⟩
      refine Ev.blk kX2_firstUntrue_24 rfl ⟨trivial, vinN (show i < 20 by omega) (by decide)⟩ ?_
      rw [ixN (by omega), hr]
      refine Ev.br tX2_firstUntrue_30 rfl (fun c30 => ?_) (fun c30 => ?_)
      · rw [nI_eq (Nat.lt_of_le_of_lt (cnt_le _ 8) (by decide)) (by omega)] at c30
        refine Ev.blk kX2_firstUntrue_35 rfl trivial ?_
        refine Ev.jmp tX2_firstUntrue_38 ?_
        refine k _ _ ⟨ho.tr ho2, hE2, ?_, by rw [nI_add]⟩
        unfold fst1
        rw [h0]
        have e : (cnt (ds (passN D (i + 1))) 8 == sR st i) = true := by rw [beq_iff_eq]; exact c30
        simp only [e]
        rfl
      · rw [nI_eq (Nat.lt_of_le_of_lt (cnt_le _ 8) (by decide)) (by omega)] at c30
        refine Ev.blk kX2_firstUntrue_33 rfl trivial ?_
        refine Ev.iret tX2_firstUntrue_34 rfl rfl ?_
        refine ⟨?_, ho.tr ho2⟩
        unfold unt
        rw [fst1_some h0 (by rw [show (cnt (ds (passN D (i + 1))) 8 == sR st i) = false from beq_false_of_ne c30]; rfl) hi]
        rfl
theorem ev_greatestShared {a b : Nat} (ha : a < 1000) (hb : 0 < b ∧ b < 1000) : Cl l d MX2_greatestShared [mI (nI a), mI (nI b)] w (fun r u => u = w ∧ r = some (mI (nI (Nat.gcd a b)))) := by
  show Ev l d MX2_greatestShared 0 [some (mI (nI a)), some (mI (nI b)), none] [] w _
  refine Ev.blk kX2_greatestShared_0 rfl trivial ?_
  refine Ev.for (fun i L u => u = w ∧ (∀ x, b - i < x → x ≤ b → ¬ (x ∣ a ∧ x ∣ b)) ∧ L = [some (mI (nI a)), some (mI (nI b)), some (mI (nI (b - i)))]) (b - 1) ?_ ?_ 0 (Nat.zero_le _) ⟨rfl, fun x h1 h2 => by omega, rfl⟩
  · rintro L u ⟨rfl, h0, rfl⟩
    have e1 : b - (b - 1) = 1 := by omega
    rw [e1] at h0 ⊢
    refine Ev.blk kX2_greatestShared_2 rfl trivial ?_
    refine Ev.br tX2_greatestShared_4 rfl (fun c4 => ?_) (fun c4 => ?_)
    · refine Ev.blk kX2_greatestShared_27 rfl trivial ?_
      refine Ev.iret tX2_greatestShared_28 rfl rfl ?_
      exact ⟨rfl, by rw [gcd_s hb.1 (Nat.one_dvd a) (Nat.one_dvd b) h0]⟩
    · exact absurd (show nI 1 ≤ nI 1 by decide) c4
  · rintro i L u hi ⟨rfl, h0, rfl⟩ k
    have hz : 0 < b - i := by omega
    have nz : ¬ nI (b - i) = 0 := nI_ne0 hz (by omega)
    have e1 : mrem (nI a) (nI (b - i)) = nI (a % (b - i)) := mrem_n (by omega) hz (by omega)
    have e2 : mrem (nI b) (nI (b - i)) = nI (b % (b - i)) := mrem_n (by omega) hz (by omega)
    have m1 : a % (b - i) < 2 ^ 31 := Nat.lt_of_le_of_lt (Nat.mod_le _ _) (by omega)
    have m2 : b % (b - i) < 2 ^ 31 := Nat.lt_of_le_of_lt (Nat.mod_le _ _) (by omega)
    have nx : ¬ ((b - i) ∣ a ∧ (b - i) ∣ b) → ∀ x, b - (i + 1) < x → x ≤ b → ¬ (x ∣ a ∧ x ∣ b) := by
      intro hn x h1 h2
      by_cases e : x = b - i
      · subst e; exact hn
      · exact h0 x (by omega) h2
    have dec : nI (b - i) + (-1) = nI (b - (i + 1)) := by
      rw [show b - i = (b - (i + 1)) + 1 by omega, pk_m1]
    refine Ev.blk kX2_greatestShared_2 rfl trivial ?_
    refine Ev.br tX2_greatestShared_4 rfl (fun c4 => ?_) (fun c4 => ?_)
    · exact absurd c4 (by rw [nI_leI (by omega) (by omega)]; omega)
    · refine Ev.blk kX2_greatestShared_7 rfl ⟨trivial, nz⟩ ?_
      rw [e1]
      refine Ev.br tX2_greatestShared_10 rfl (fun c10 => ?_) (fun c10 => ?_)
      · rw [nI_eq m1 (by omega)] at c10
        refine Ev.blk kX2_greatestShared_21 rfl trivial ?_
        refine Ev.jmp tX2_greatestShared_24 ?_
        refine k _ _ ⟨rfl, nx ?_, by rw [dec]⟩
        first
          | exact fun z => c10 (Nat.mod_eq_zero_of_dvd z.1)
          | exact fun z => c16 (Nat.mod_eq_zero_of_dvd z.2)
      · rw [nI_eq m1 (by omega), Classical.not_not] at c10
        refine Ev.blk kX2_greatestShared_13 rfl ⟨trivial, nz⟩ ?_
        rw [e2]
        refine Ev.br tX2_greatestShared_16 rfl (fun c16 => ?_) (fun c16 => ?_)
        · rw [nI_eq m2 (by omega)] at c16
          refine Ev.blk kX2_greatestShared_21 rfl trivial ?_
          refine Ev.jmp tX2_greatestShared_24 ?_
          refine k _ _ ⟨rfl, nx ?_, by rw [dec]⟩
          first
            | exact fun z => c10 (Nat.mod_eq_zero_of_dvd z.1)
            | exact fun z => c16 (Nat.mod_eq_zero_of_dvd z.2)
        · rw [nI_eq m2 (by omega), Classical.not_not] at c16
          refine Ev.blk kX2_greatestShared_19 rfl trivial ?_
          refine Ev.iret tX2_greatestShared_20 rfl rfl ?_
          exact ⟨rfl, by rw [gcd_s hb.1 (Nat.dvd_of_mod_eq_zero c10) (Nat.dvd_of_mod_eq_zero c16) h0]⟩
theorem ev_over (hC : KlsAt w st) (hS : SI st) (hd : 8 ≤ d) : Cl l d MX2_over [mR 0 0] w (fun r u => CP w (P_over st) r u) := by
  show Ev l d MX2_over 0 [some (mR 0 0)] [] w _
  obtain ⟨g, hY⟩ := hC.1
  have hI : YI (sN st) := hS.1.1
  have hse : de (sN st) ≤ 999 := hS.1.2.1
  have hp : hasP (ug (sN st) g) = hasP (sN st) := rfl
  unfold P_over
  refine Ev.blk kX2_over_0 rfl trivial ?_
  refine Ev.cV (d1 := d - 1) (ev_hasPlayers hY hI (by omega)) tX2_over_4 qX2_114 rfl rfl (by decide) ⟨rfl, rfl, rfl⟩ (by omega) ?_
  rintro _ _ ⟨rfl, rfl⟩
  rw [hp]
  refine Ev.br tX2_over_7 rfl (fun c7 => ?_) (fun c7 => ?_)
  · rw [bI_0] at c7
    rw [if_pos (bl_t c7)]
    refine Ev.blk kX2_over_17 rfl trivial ?_
    refine Ev.cV (d1 := d - 1) (ev_copyFrom (y := 1) (z := 0) (by decide) hY (by omega)) tX2_over_25 qX2_107 rfl rfl (by decide) ⟨rfl, rfl, rfl⟩ (by omega) ?_
    rintro _ _ ⟨rfl, ho, hE⟩
    rw [hS.1.can] at hE
    refine Ev.blk kX2_over_28 rfl trivial ?_
    refine Ev.cV (d1 := d - 1) (ev_secondsTillOver hE hI (by omega) (by omega)) tX2_over_29 qX2_117 rfl rfl (by decide) ⟨rfl, rfl, rfl⟩ (by omega) ?_
    rintro _ _ ⟨rfl, ho2⟩
    refine Ev.iret tX2_over_32 rfl rfl ?_
    exact ⟨rfl, (ho.tr ho2).up, hC.mind (ho.tr ho2) (Or.inl rfl)⟩
  · rw [bI_0, Classical.not_not] at c7
    rw [if_neg (by rw [c7]; decide)]
    refine Ev.blk kX2_over_10 rfl trivial ?_
    refine Ev.cV (d1 := d - 1) (ev_ref hC (Or.inr (Or.inr (Or.inl rfl)))) tX2_over_13 qX2_39 rfl rfl (by decide) ⟨rfl, rfl, rfl⟩ (by omega) ?_
    rintro _ _ ⟨rfl, hS2, hC2⟩
    refine Ev.iret tX2_over_16 rfl rfl ?_
    exact ⟨rfl, hS2, hC2⟩
theorem ev_mean (hC : KlsAt w st) (hS : SI st) (hd : 8 ≤ d) (n x : Int32) : Cl l d MX2_mean [mR 0 0, mI n, mI x] w (fun r u => CPJ w (P_mean st n x) r u) := by
  show Ev l d MX2_mean 0 [some (mR 0 0), some (mI n), some (mI x), none, none, none, none] [] w _
  obtain ⟨g, hY⟩ := hC.1
  have hI : YI (sN st) := hS.1.1
  have hse : de (sN st) ≤ 999 := hS.1.2.1
  have bad : ∀ why, RC why → wh2 (outs n (nI 0) (nI 60)) x = why → Ev l d MX2_mean 24 [some (mR 0 0), some (mI n), some (mI x), some (mI why), none, none, none] [] w (fun r u => CPJ w (P_mean st n x) r u) := by
    intro why hr he
    have e0 : P_mean st n x = (lN 4000000000000000000 - why.toInt64, (RF st why).2) := by
      unfold P_mean
      rw [he, if_neg (rc_k hr).2.2]
    rw [e0]
    refine Ev.blk kX2_mean_24 rfl trivial ?_
    refine Ev.br tX2_mean_25 rfl (fun c25 => ?_) (fun c25 => ?_)
    · exact absurd c25 (rc_k hr).2.2
    · refine Ev.blk kX2_mean_28 rfl trivial ?_
      refine Ev.cV (d1 := d - 1) (ev_ref hC hr) tX2_mean_33 qX2_39 rfl rfl (by decide) ⟨rfl, rfl, rfl⟩ (by omega) ?_
      rintro _ _ ⟨rfl, hS2, hC2⟩
      refine Ev.blk kX2_mean_36 rfl trivial ?_
      refine Ev.lret tX2_mean_38 rfl ?_
      exact ⟨rfl, hS2, hC2⟩
  have good : outs n (nI 0) (nI 60) = nI 0 → (x = nI 0 ∨ x = nI 1) → Ev l d MX2_mean 24 [some (mR 0 0), some (mI n), some (mI x), some (mI (nI 0)), none, none, none] [] w (fun r u => CPJ w (P_mean st n x) r u) := by
    intro hw hx
    have e : wh2 (outs n (nI 0) (nI 60)) x = nI 0 := by
      unfold wh2
      rw [if_neg (fun z => hx.elim z.2.1 z.2.2)]
      exact hw
    unfold P_mean
    rw [if_pos e]
    obtain ⟨k, h1, h2, rfl⟩ := outs_ok (by omega) (by omega) hw
    rw [ixC (by omega)]
    have hst := sto_le (sN st) k
    have hct := cnt_le (ds (sN st)) 8
    have hS1 : mnS st (nI k) = cnt (ds (sN st)) 8 + sto (sN st) k := by
      unfold mnS
      rw [ixC (by omega)]
    rw [hS1]
    have hg0 : 0 < Nat.gcd (cnt (ds (sN st)) 8 + sto (sN st) k) (k + 1) := Nat.gcd_pos_of_pos_right _ (by omega)
    have hg1 := Nat.le_of_dvd (Nat.succ_pos k) (Nat.gcd_dvd_right (cnt (ds (sN st)) 8 + sto (sN st) k) (k + 1))
    have hd1 : nI (cnt (ds (sN st)) 8 + sto (sN st) k) / nI (Nat.gcd (cnt (ds (sN st)) 8 + sto (sN st) k) (k + 1)) = nI ((cnt (ds (sN st)) 8 + sto (sN st) k) / Nat.gcd (cnt (ds (sN st)) 8 + sto (sN st) k) (k + 1)) := pk_div (by omega) hg0 (by omega)
    have hd2 : nI (k + 1) / nI (Nat.gcd (cnt (ds (sN st)) 8 + sto (sN st) k) (k + 1)) = nI ((k + 1) / Nat.gcd (cnt (ds (sN st)) 8 + sto (sN st) k) (k + 1)) := pk_div (by omega) hg0 (by omega)
    have nz : ¬ nI (Nat.gcd (cnt (ds (sN st)) 8 + sto (sN st) k) (k + 1)) = 0 := nI_ne0 hg0 (by omega)
    refine Ev.blk kX2_mean_24 rfl trivial ?_
    refine Ev.br tX2_mean_25 rfl (fun c25 => ?_) (fun c25 => ?_)
    · refine Ev.blk kX2_mean_39 rfl trivial ?_
      refine Ev.cV (d1 := d - 1) (ev_copyFrom (y := 1) (z := 0) (by decide) hY (by omega)) tX2_mean_47 qX2_107 rfl rfl (by decide) ⟨rfl, rfl, rfl⟩ (by omega) ?_
      rintro _ _ ⟨rfl, ho, hE⟩
      rw [hS.1.can] at hE
      refine Ev.blk kX2_mean_50 rfl trivial ?_
      refine Ev.cV (d1 := d - 1) (ev_standingCount hE (by omega)) tX2_mean_54 qX2_122 rfl rfl (by decide) ⟨rfl, rfl, rfl⟩ (by omega) ?_
      rintro _ _ ⟨rfl, rfl⟩
      refine Ev.blk kX2_mean_57 rfl trivial ?_
      refine Ev.cV (d1 := d - 1) (ev_standingOver hE hI (by omega) (show k ≤ 60 by omega) (by omega)) tX2_mean_59 qX2_125 rfl rfl (by decide) ⟨rfl, rfl, rfl⟩ (by omega) ?_
      rintro _ _ ⟨rfl, ho2, hE2⟩
      refine Ev.blk kX2_mean_62 rfl trivial ?_
      simp only [nI_add]
      refine Ev.cS (d1 := d - 1) (ev_greatestShared (show cnt (ds (sN st)) 8 + sto (sN st) k < 1000 by omega) (show 0 < k + 1 ∧ k + 1 < 1000 by omega)) tX2_mean_74 qX2_128 rfl ⟨rfl, rfl, rfl⟩ (by omega) ?_
      rintro _ _ ⟨rfl, rfl⟩
      refine Ev.blk kX2_mean_77 rfl trivial ?_
      refine Ev.br tX2_mean_80 rfl (fun c80 => ?_) (fun c80 => ?_)
      · refine Ev.blk kX2_mean_92 rfl ⟨trivial, nz⟩ ?_
        rw [hd2]
        refine Ev.lret tX2_mean_98 rfl ?_
        refine ⟨?_, (ho.tr ho2).up, hC.mind (ho.tr ho2) (Or.inl rfl)⟩
        first
          | (rw [if_neg c80]; rfl)
          | (rw [if_pos c80]; rfl)
      · rw [Classical.not_not] at c80
        refine Ev.blk kX2_mean_83 rfl ⟨trivial, nz⟩ ?_
        rw [hd1]
        refine Ev.jmp tX2_mean_89 ?_
        refine Ev.lret tX2_mean_98 rfl ?_
        refine ⟨?_, (ho.tr ho2).up, hC.mind (ho.tr ho2) (Or.inl rfl)⟩
        first
          | (rw [if_neg c80]; rfl)
          | (rw [if_pos c80]; rfl)
    · exact absurd rfl c25
  by_cases hw : outs n (nI 0) (nI 60) = nI 0
  · by_cases hx : x = nI 0
    · skip
      refine Ev.blk kX2_mean_0 rfl trivial ?_
      refine Ev.cS (d1 := d - 1) (ev_outside n (nI 0) (nI 60)) tX2_mean_4 qX2_96 rfl ⟨rfl, rfl, rfl⟩ (by omega) ?_
      rintro _ _ ⟨rfl, rfl⟩
      rw [hw]
      refine Ev.blk kX2_mean_7 rfl trivial ?_
      refine Ev.br tX2_mean_9 rfl (fun c9 => ?_) (fun c9 => ?_)
      · exact absurd rfl c9
      · refine Ev.blk kX2_mean_12 rfl trivial ?_
        refine Ev.br tX2_mean_13 rfl (fun c13 => ?_) (fun c13 => ?_)
        · exact good hw (Or.inl hx)
        · exact absurd hx c13
    · by_cases hx1 : x = nI 1
      · skip
        refine Ev.blk kX2_mean_0 rfl trivial ?_
        refine Ev.cS (d1 := d - 1) (ev_outside n (nI 0) (nI 60)) tX2_mean_4 qX2_96 rfl ⟨rfl, rfl, rfl⟩ (by omega) ?_
        rintro _ _ ⟨rfl, rfl⟩
        rw [hw]
        refine Ev.blk kX2_mean_7 rfl trivial ?_
        refine Ev.br tX2_mean_9 rfl (fun c9 => ?_) (fun c9 => ?_)
        · exact absurd rfl c9
        · refine Ev.blk kX2_mean_12 rfl trivial ?_
          refine Ev.br tX2_mean_13 rfl (fun c13 => ?_) (fun c13 => ?_)
          · exact absurd c13 hx
          · refine Ev.blk kX2_mean_16 rfl trivial ?_
            refine Ev.br tX2_mean_18 rfl (fun c18 => ?_) (fun c18 => ?_)
            · exact good hw (Or.inr hx1)
            · exact absurd hx1 c18
      · have e : wh2 (outs n (nI 0) (nI 60)) x = -2 := if_pos ⟨hw, hx, hx1⟩
        refine Ev.blk kX2_mean_0 rfl trivial ?_
        refine Ev.cS (d1 := d - 1) (ev_outside n (nI 0) (nI 60)) tX2_mean_4 qX2_96 rfl ⟨rfl, rfl, rfl⟩ (by omega) ?_
        rintro _ _ ⟨rfl, rfl⟩
        rw [hw]
        refine Ev.blk kX2_mean_7 rfl trivial ?_
        refine Ev.br tX2_mean_9 rfl (fun c9 => ?_) (fun c9 => ?_)
        · exact absurd rfl c9
        · refine Ev.blk kX2_mean_12 rfl trivial ?_
          refine Ev.br tX2_mean_13 rfl (fun c13 => ?_) (fun c13 => ?_)
          · exact absurd c13 hx
          · refine Ev.blk kX2_mean_16 rfl trivial ?_
            refine Ev.br tX2_mean_18 rfl (fun c18 => ?_) (fun c18 => ?_)
            · exact absurd c18 hx1
            · refine Ev.blk kX2_mean_21 rfl trivial ?_
              exact bad _ (Or.inr (Or.inl rfl)) e
  · have e : wh2 (outs n (nI 0) (nI 60)) x = outs n (nI 0) (nI 60) := if_neg (fun z => hw z.1)
    refine Ev.blk kX2_mean_0 rfl trivial ?_
    refine Ev.cS (d1 := d - 1) (ev_outside n (nI 0) (nI 60)) tX2_mean_4 qX2_96 rfl ⟨rfl, rfl, rfl⟩ (by omega) ?_
    rintro _ _ ⟨rfl, rfl⟩
    refine Ev.blk kX2_mean_7 rfl trivial ?_
    refine Ev.br tX2_mean_9 rfl (fun c9 => ?_) (fun c9 => ?_)
    · exact bad _ (outs_rcn hw) e
    · exact absurd hw c9
theorem ev_frees (hC : KlsAt w st) (hS : SI st) (hd : 8 ≤ d) (n : Int32) : Cl l d MX2_frees [mR 0 0, mI n] w (fun r u => CP w (P_frees st n) r u) := by
  show Ev l d MX2_frees 0 [some (mR 0 0), some (mI n), none] [] w _
  obtain ⟨g, hY⟩ := hC.1
  have hI : YI (sN st) := hS.1.1
  have hse : de (sN st) ≤ 999 := hS.1.2.1
  unfold P_frees
  refine Ev.blk kX2_frees_0 rfl trivial ?_
  refine Ev.cS (d1 := d - 1) (ev_outside n (nI 0) (nI 60)) tX2_frees_4 qX2_96 rfl ⟨rfl, rfl, rfl⟩ (by omega) ?_
  rintro _ _ ⟨rfl, rfl⟩
  refine Ev.blk kX2_frees_7 rfl trivial ?_
  refine Ev.br tX2_frees_9 rfl (fun c9 => ?_) (fun c9 => ?_)
  · rw [GO_ok c9]
    obtain ⟨k, h1, h2, rfl⟩ := outs_ok (by omega) (by omega) c9
    rw [ixC (by omega)]
    refine Ev.blk kX2_frees_18 rfl trivial ?_
    refine Ev.cV (d1 := d - 1) (ev_copyFrom (y := 1) (z := 0) (by decide) hY (by omega)) tX2_frees_26 qX2_107 rfl rfl (by decide) ⟨rfl, rfl, rfl⟩ (by omega) ?_
    rintro _ _ ⟨rfl, ho, hE⟩
    rw [hS.1.can] at hE
    refine Ev.blk kX2_frees_29 rfl trivial ?_
    refine Ev.cV (d1 := d - 1) (ev_passMany hE hI (by omega) (show k < 1000 by omega) (by omega)) tX2_frees_34 qX2_103 rfl rfl (by decide) ⟨rfl, rfl, rfl⟩ (by omega) ?_
    rintro _ _ ⟨rfl, ho2, hE2⟩
    refine Ev.blk kX2_frees_37 rfl trivial ?_
    refine Ev.cV (d1 := d - 1) (ev_freeings hE2) tX2_frees_41 qX2_131 rfl rfl (by decide) ⟨rfl, rfl, rfl⟩ (by omega) ?_
    rintro _ _ ⟨rfl, rfl⟩
    refine Ev.iret tX2_frees_44 rfl rfl ?_
    exact ⟨rfl, (ho.tr ho2).up, hC.mind (ho.tr ho2) (Or.inl rfl)⟩
  · refine Ev.blk kX2_frees_12 rfl trivial ?_
    refine Ev.cV (d1 := d - 1) (ev_ref hC (outs_rcn c9)) tX2_frees_14 qX2_39 rfl rfl (by decide) ⟨rfl, rfl, rfl⟩ (by omega) ?_
    rintro _ _ ⟨rfl, hS2, hC2⟩
    refine Ev.iret tX2_frees_17 rfl rfl ?_
    rw [GO_no c9]; exact ⟨rfl, hS2, hC2⟩
theorem alwI_s {k : Nat} : alwI D k &&& nI (bts (ds (passN D (k + 1))) 8) = alwI D (k + 1) := by
  show _ = nI (bts (alw D (k + 1)) 8)
  unfold alwI
  by_cases h : k = 0
  · subst h
    rw [if_pos rfl, Int32.and_comm, tb_m1 _ (b256 _)]
    exact congrArg nI (bts_congr (fun j _ => (Bool.true_and _).symm))
  · rw [if_neg h, b_and]
    rfl
theorem ev_never (hC : KlsAt w st) (hS : SI st) (hd : 8 ≤ d) (n : Int32) : Cl l d MX2_never [mR 0 0, mI n] w (fun r u => CP w (P_never st n) r u) := by
  show Ev l d MX2_never 0 [some (mR 0 0), some (mI n), none, none, none] [] w _
  obtain ⟨g, hY⟩ := hC.1
  have hI : YI (sN st) := hS.1.1
  have hse : de (sN st) ≤ 999 := hS.1.2.1
  unfold P_never
  have loop : ∀ k, 0 < k → k ≤ 60 → ∀ u0 (z : Int32), Off 1 w u0 → YardAt u0 1 (sN st) → Ev l d MX2_never 46 [some (mR 0 0), some (mI (nI k)), some (mI z), some (mI (-1)), some (mI (nI 1))] [] u0 (fun r u => CP w (nI (bts (alw (sN st) k) 8), st) r u) := by
    intro k h0 h1 u0 z ho hE
    refine Ev.for (fun i L u => Off 1 w u ∧ YardAt u 1 (passN (sN st) i) ∧ L = [some (mR 0 0), some (mI (nI k)), some (mI z), some (mI (alwI (sN st) i)), some (mI (nI (i + 1)))]) k ?_ ?_ 0 (Nat.zero_le _) ⟨ho, hE, rfl⟩
    · rintro L u ⟨ho, hE, rfl⟩
      refine Ev.blk kX2_never_46 rfl trivial ?_
      refine Ev.br tX2_never_49 rfl (fun c49 => ?_) (fun c49 => ?_)
      · refine Ev.blk kX2_never_75 rfl trivial ?_
        refine Ev.iret tX2_never_76 rfl rfl ?_
        refine ⟨?_, ho.up, hC.mind ho (Or.inl rfl)⟩
        unfold alwI
        rw [if_neg (by omega)]
      · exact absurd (nI_lt (by omega) (by omega)) c49
    · rintro i L u hi ⟨ho, hE, rfl⟩ kk
      have hIi := passN_YI hI i (by omega)
      have hde : de (passN (sN st) i) = de (sN st) + i := (passN_n i).2.2.2.2.2
      refine Ev.blk kX2_never_46 rfl trivial ?_
      refine Ev.br tX2_never_49 rfl (fun c49 => ?_) (fun c49 => ?_)
      · exact absurd c49 (nI_nlt (by omega) (by omega))
      · refine Ev.blk kX2_never_52 rfl trivial ?_
        refine Ev.cV (d1 := d - 1) (ev_pass hE hIi (by omega)) tX2_never_56 qX2_134 rfl rfl (by decide) ⟨rfl, rfl, rfl⟩ (by omega) ?_
        rintro _ _ ⟨rfl, ho2, hE2⟩
        refine Ev.blk kX2_never_59 rfl trivial ?_
        refine Ev.cV (d1 := d - 1) (ev_standingBits hE2) tX2_never_64 qX2_111 rfl rfl (by decide) ⟨rfl, rfl, rfl⟩ (by omega) ?_
        rintro _ _ ⟨rfl, rfl⟩
        refine Ev.blk kX2_never_67 rfl trivial ?_
        refine Ev.jmp tX2_never_72 ?_
        exact kk _ _ ⟨ho.tr ho2, hE2, by rw [nI_add, show alwI (sN st) i &&& nI (bts (ds (pass (passN (sN st) i))) 8) = alwI (sN st) (i + 1) from alwI_s]⟩
  refine Ev.blk kX2_never_0 rfl trivial ?_
  refine Ev.cS (d1 := d - 1) (ev_outside n (nI 0) (nI 60)) tX2_never_4 qX2_96 rfl ⟨rfl, rfl, rfl⟩ (by omega) ?_
  rintro _ _ ⟨rfl, rfl⟩
  refine Ev.blk kX2_never_7 rfl trivial ?_
  refine Ev.br tX2_never_9 rfl (fun c9 => ?_) (fun c9 => ?_)
  · rw [GO_ok c9]
    obtain ⟨k, h1, h2, rfl⟩ := outs_ok (by omega) (by omega) c9
    rw [ixC (by omega)]
    refine Ev.blk kX2_never_18 rfl trivial ?_
    refine Ev.br tX2_never_19 rfl (fun c19 => ?_) (fun c19 => ?_)
    · refine Ev.blk kX2_never_30 rfl trivial ?_
      refine Ev.cV (d1 := d - 1) (ev_copyFrom (y := 1) (z := 0) (by decide) hY (by omega)) tX2_never_38 qX2_107 rfl rfl (by decide) ⟨rfl, rfl, rfl⟩ (by omega) ?_
      rintro _ _ ⟨rfl, ho, hE⟩
      rw [hS.1.can] at hE
      refine Ev.blk kX2_never_41 rfl trivial ?_
      rw [if_neg c19]
      exact loop k (by rcases Nat.eq_zero_or_pos k with z | z; exact absurd (by rw [z]) c19; exact z) h2 _ _ ho hE
    · rw [Classical.not_not] at c19
      refine Ev.blk kX2_never_22 rfl trivial ?_
      refine Ev.cV (d1 := d - 1) (ev_standingBits hY) tX2_never_26 qX2_111 rfl rfl (by decide) ⟨rfl, rfl, rfl⟩ (by omega) ?_
      rintro _ _ ⟨rfl, rfl⟩
      refine Ev.iret tX2_never_29 rfl rfl ?_
      rw [if_pos c19]; exact ⟨rfl, Sm.rf, hC⟩
  · refine Ev.blk kX2_never_12 rfl trivial ?_
    refine Ev.cV (d1 := d - 1) (ev_ref hC (outs_rcn c9)) tX2_never_14 qX2_39 rfl rfl (by decide) ⟨rfl, rfl, rfl⟩ (by omega) ?_
    rintro _ _ ⟨rfl, hS2, hC2⟩
    refine Ev.iret tX2_never_17 rfl rfl ?_
    rw [GO_no c9]; exact ⟨rfl, hS2, hC2⟩
theorem ev_mayFree (hC : KlsAt w st) (hS : SI st) (hd : 5 ≤ d) (c : Int32) : Cl l d MX2_mayFree [mR 0 0, mI c] w (fun r u => CP w (P_mayFree st c) r u) := by
  show Ev l d MX2_mayFree 0 [some (mR 0 0), some (mI c)] [] w _
  obtain ⟨g, hY⟩ := hC.1
  have hI : YI (ug (sN st) g) := hS.1.1
  unfold P_mayFree
  by_cases hh : hasI (sN st) c = true
  · obtain ⟨i, hi, rfl⟩ := hasI_of hh hI.1
    have hi8 : i < 8 := Nat.lt_of_lt_of_le hi hI.1
    rw [if_pos hh, ixC (by omega)]
    refine Ev.blk kX2_mayFree_0 rfl trivial ?_
    refine Ev.cV (d1 := d - 1) (ev_hasB hY hh) tX2_mayFree_5 qX2_57 rfl rfl (by decide) ⟨rfl, rfl, rfl⟩ (by omega) ?_
    rintro _ _ ⟨rfl, rfl⟩
    refine Ev.br tX2_mayFree_8 rfl (fun c8 => ?_) (fun c8 => ?_)
    · refine Ev.blk kX2_mayFree_17 rfl trivial ?_
      refine Ev.cV (d1 := d - 1) (ev_couldFree hY hI (by omega) hi) tX2_mayFree_22 qX2_137 rfl rfl (by decide) ⟨rfl, rfl, rfl⟩ (by omega) ?_
      rintro _ _ ⟨rfl, rfl⟩
      refine Ev.iret tX2_mayFree_25 rfl rfl ?_
      exact ⟨rfl, Sm.rf, hC⟩
    · exact absurd (show ¬ bI true = nI 0 by decide) c8
  · rw [if_neg hh]
    refine Ev.blk kX2_mayFree_0 rfl trivial ?_
    refine Ev.cV (d1 := d - 1) (ev_has hY c) tX2_mayFree_5 qX2_57 rfl rfl (by decide) ⟨rfl, rfl, rfl⟩ (by omega) ?_
    rintro _ _ ⟨rfl, rfl⟩
    refine Ev.br tX2_mayFree_8 rfl (fun c8 => ?_) (fun c8 => ?_)
    · exact absurd (hasI_f hh) c8
    · refine Ev.blk kX2_mayFree_11 rfl trivial ?_
      refine Ev.cV (d1 := d - 1) (ev_ref hC (Or.inl rfl)) tX2_mayFree_13 qX2_39 rfl rfl (by decide) ⟨rfl, rfl, rfl⟩ (by omega) ?_
      rintro _ _ ⟨rfl, hS2, hC2⟩
      refine Ev.iret tX2_mayFree_16 rfl rfl ?_
      exact ⟨rfl, hS2, hC2⟩
end C3
end
section
/-! ===== the class's calls: the best of several, row, lots, image, letters ===== -/
theorem bm_no {f : Nat → Nat} {k : Nat} (h : ¬ oLt (bm f k).2 (f k) = true) : bm f (k + 1) = bm f k := if_neg h
theorem bm_yes {f : Nat → Nat} {k : Nat} (h : oLt (bm f k).2 (f k) = true) : bm f (k + 1) = (k, some (f k)) := if_pos h
section C4
variable {l : Launch} {d : Nat} {w : mW} {st : St} {D : Yd}
theorem rfl1 : RC (-1) := Or.inl rfl
theorem rfl2 : RC (-2) := Or.inr (Or.inl rfl)
theorem rfl3 : RC (-3) := Or.inr (Or.inr (Or.inl rfl))
theorem wh2_0 {a x : Int32} (h : wh2 a x = nI 0) : a = nI 0 ∧ (x = nI 0 ∨ x = nI 1) := by
  unfold wh2 at h
  split at h
  · exact absurd h (by decide)
  · rename_i hn
    refine ⟨h, ?_⟩
    by_cases h0 : x = nI 0
    · exact Or.inl h0
    · by_cases h1 : x = nI 1
      · exact Or.inr h1
      · exact absurd ⟨h, h0, h1⟩ hn
theorem wh2_rc {a x : Int32} (ha : a = nI 0 ∨ RC a) (h : ¬ wh2 a x = nI 0) : RC (wh2 a x) := by
  unfold wh2 at h ⊢
  split
  · exact rfl2
  · rename_i hn
    rw [if_neg hn] at h
    exact ha.resolve_left h
theorem ev_worth (hC : KlsAt w st) (hS : SI st) (hd : 8 ≤ d) (c : Int32) : Cl l d MX2_worth [mR 0 0, mI c] w (fun r u => CP w (P_worth st c) r u) := by
  show Ev l d MX2_worth 0 [some (mR 0 0), some (mI c), none, none] [] w _
  obtain ⟨g, hY⟩ := hC.1
  have hI : YI (ug (sN st) g) := hS.1.1
  have hI0 : YI (sN st) := hS.1.1
  have hse : de (sN st) ≤ 999 := hS.1.2.1
  have bad : ∀ why, RC why → wWorth st c = why → Ev l d MX2_worth 32 [some (mR 0 0), some (mI c), none, none] [mI why] w (fun r u => CP w (P_worth st c) r u) := by
    intro why hr he
    have e0 : P_worth st c = (nI 1000000000 - why, (RF st why).2) := by
      unfold P_worth GH
      rw [he, if_neg (rc_k hr).2.2]
    rw [e0]
    refine Ev.blk kX2_worth_32 rfl trivial ?_
    refine Ev.br tX2_worth_34 rfl (fun c34 => ?_) (fun c34 => ?_)
    · exact absurd c34 (rc_k hr).2.2
    · refine Ev.blk kX2_worth_37 rfl trivial ?_
      refine Ev.cV (d1 := d - 1) (ev_ref hC hr) tX2_worth_41 qX2_39 rfl rfl (by decide) ⟨rfl, rfl, rfl⟩ (by omega) ?_
      rintro _ _ ⟨rfl, hS2, hC2⟩
      refine Ev.blk kX2_worth_44 rfl trivial ?_
      refine Ev.iret tX2_worth_45 rfl rfl ?_
      exact ⟨rfl, hS2, hC2⟩
  by_cases hh : hasI (sN st) c = true
  · have e1 : wWorth st c = (if isC (sN st) (ix c) = true then -3 else nI 0) := if_pos hh
    obtain ⟨i, hi, rfl⟩ := hasI_of hh hI.1
    have hi8 : i < 8 := Nat.lt_of_lt_of_le hi hI.1
    rw [ixC (by omega)] at e1
    by_cases hc : isC (sN st) i = true
    · rw [if_pos hc] at e1
      refine Ev.blk kX2_worth_0 rfl trivial ?_
      refine Ev.cV (d1 := d - 1) (ev_hasB hY hh) tX2_worth_5 qX2_57 rfl rfl (by decide) ⟨rfl, rfl, rfl⟩ (by omega) ?_
      rintro _ _ ⟨rfl, rfl⟩
      refine Ev.br tX2_worth_8 rfl (fun c8 => ?_) (fun c8 => ?_)
      · refine Ev.blk kX2_worth_15 rfl trivial ?_
        refine Ev.cV (d1 := d - 1) (ev_isCatcher hY hI (by omega) hi) tX2_worth_20 qX2_140 rfl rfl (by decide) ⟨rfl, rfl, rfl⟩ (by omega) ?_
        rintro _ _ ⟨rfl, rfl⟩
        rw [show isC (ug (sN st) g) i = true from hc]
        refine Ev.br tX2_worth_23 rfl (fun c23 => ?_) (fun c23 => ?_)
        · exact absurd c23 (by decide)
        · refine Ev.blk kX2_worth_26 rfl trivial ?_
          refine Ev.jmp tX2_worth_28 ?_
          exact bad _ rfl3 e1
      · exact absurd (show ¬ bI true = nI 0 by decide) c8
    · rw [if_neg hc] at e1
      have e0 : P_worth st (nI i) = (nI (ots (ua (sN st) i) i 20) - nI (ots (sN st) i 20), st) := by
        unfold P_worth GH
        rw [e1, if_pos rfl, ixC (by omega)]
      rw [e0]
      have hua : YI (ua (sN st) i) := hI0.ua
      refine Ev.blk kX2_worth_0 rfl trivial ?_
      refine Ev.cV (d1 := d - 1) (ev_hasB hY hh) tX2_worth_5 qX2_57 rfl rfl (by decide) ⟨rfl, rfl, rfl⟩ (by omega) ?_
      rintro _ _ ⟨rfl, rfl⟩
      refine Ev.br tX2_worth_8 rfl (fun c8 => ?_) (fun c8 => ?_)
      · refine Ev.blk kX2_worth_15 rfl trivial ?_
        refine Ev.cV (d1 := d - 1) (ev_isCatcher hY hI (by omega) hi) tX2_worth_20 qX2_140 rfl rfl (by decide) ⟨rfl, rfl, rfl⟩ (by omega) ?_
        rintro _ _ ⟨rfl, rfl⟩
        rw [show isC (ug (sN st) g) i = false from bl_f hc]
        refine Ev.br tX2_worth_23 rfl (fun c23 => ?_) (fun c23 => ?_)
        · refine Ev.blk kX2_worth_31 rfl trivial ?_
          refine Ev.blk kX2_worth_32 rfl trivial ?_
          refine Ev.br tX2_worth_34 rfl (fun c34 => ?_) (fun c34 => ?_)
          · refine Ev.blk kX2_worth_46 rfl trivial ?_
            refine Ev.cV (d1 := d - 1) (ev_copyFrom (y := 1) (z := 0) (by decide) hY (by omega)) tX2_worth_54 qX2_107 rfl rfl (by decide) ⟨rfl, rfl, rfl⟩ (by omega) ?_
            rintro _ _ ⟨rfl, ho, hE⟩
            rw [hS.1.can] at hE
            refine Ev.blk kX2_worth_57 rfl trivial ?_
            refine Ev.cV (d1 := d - 1) (ev_othersStanding hE hI0 (by omega) (by omega) hi) tX2_worth_59 qX2_144 rfl rfl (by decide) ⟨rfl, rfl, rfl⟩ (by omega) ?_
            rintro _ _ ⟨rfl, ho2⟩
            obtain ⟨g2, hY2⟩ := (hC.mind (ho.tr ho2) (Or.inl rfl)).1
            refine Ev.blk kX2_worth_62 rfl trivial ?_
            refine Ev.cV (d1 := d - 1) (ev_copyFrom (y := 1) (z := 0) (by decide) hY2 (by omega)) tX2_worth_71 qX2_107 rfl rfl (by decide) ⟨rfl, rfl, rfl⟩ (by omega) ?_
            rintro _ _ ⟨rfl, ho3, hE3⟩
            rw [hS.1.can] at hE3
            refine Ev.blk kX2_worth_74 rfl trivial ?_
            refine Ev.cV (d1 := d - 1) (ev_setAside hE3 hi8) tX2_worth_79 qX2_147 rfl rfl (by decide) ⟨rfl, rfl, rfl⟩ (by omega) ?_
            rintro _ _ ⟨rfl, ho4, hE4⟩
            refine Ev.blk kX2_worth_82 rfl trivial ?_
            refine Ev.cV (d1 := d - 1) (ev_othersStanding hE4 hua (by omega) (by show de (sN st) + 20 < 100000; omega) (show i < dn (ua (sN st) i) from hi)) tX2_worth_84 qX2_144 rfl rfl (by decide) ⟨rfl, rfl, rfl⟩ (by omega) ?_
            rintro _ _ ⟨rfl, ho5⟩
            refine Ev.blk kX2_worth_87 rfl trivial ?_
            refine Ev.iret tX2_worth_89 rfl rfl ?_
            exact ⟨rfl, ((((ho.tr ho2).tr ho3).tr ho4).tr ho5).up, hC.mind ((((ho.tr ho2).tr ho3).tr ho4).tr ho5) (Or.inl rfl)⟩
          · exact absurd rfl c34
        · exact absurd rfl c23
      · exact absurd (show ¬ bI true = nI 0 by decide) c8
  · have e : wWorth st c = -1 := if_neg hh
    refine Ev.blk kX2_worth_0 rfl trivial ?_
    refine Ev.cV (d1 := d - 1) (ev_has hY c) tX2_worth_5 qX2_57 rfl rfl (by decide) ⟨rfl, rfl, rfl⟩ (by omega) ?_
    rintro _ _ ⟨rfl, rfl⟩
    refine Ev.br tX2_worth_8 rfl (fun c8 => ?_) (fun c8 => ?_)
    · exact absurd (hasI_f hh) c8
    · refine Ev.blk kX2_worth_11 rfl trivial ?_
      refine Ev.jmp tX2_worth_12 ?_
      exact bad _ rfl1 e
theorem hnf_lt (D : Yd) (i n : Nat) (hn : n ≤ 60) (k : Nat) : hnf D i n k < 1000 := by
  have := sto_le (uk D (va_up (dk D) i (4 + k))) n
  unfold hnf
  omega
theorem ev_hunt (hC : KlsAt w st) (hS : SI st) (hd : 8 ≤ d) (c n x : Int32) : Cl l d MX2_hunt [mR 0 0, mI c, mI n, mI x] w (fun r u => CP w (P_hunt st c n x) r u) := by
  show Ev l d MX2_hunt 0 [some (mR 0 0), some (mI c), some (mI n), some (mI x), none, none, none, none, none] [] w _
  obtain ⟨g, hY⟩ := hC.1
  have hI : YI (ug (sN st) g) := hS.1.1
  have hI0 : YI (sN st) := hS.1.1
  have hse : de (sN st) ≤ 999 := hS.1.2.1
  have mid : ∀ w1, (w1 = nI 0 ∨ RC w1) → wHunt st c n = w1 → Ev l d MX2_hunt 38 [some (mR 0 0), some (mI c), some (mI n), some (mI x), none, none, none, none, none] [mI w1] w (fun r u => CP w (P_hunt st c n x) r u) := by
    intro w1 hw1 he1
    have fin : ∀ why, wh2 w1 x = why → Ev l d MX2_hunt 58 [some (mR 0 0), some (mI c), some (mI n), some (mI x), some (mI why), none, none, none, none] [] w (fun r u => CP w (P_hunt st c n x) r u) := by
      intro why he
      by_cases hz : why = nI 0
      · subst hz
        obtain ⟨hq, hx⟩ := wh2_0 he
        have e0 : P_hunt st c n x = (if x = nI 0 then nI (bm (hnf (sN st) (ix c) (ix n)) 4).1 else oM1 (bm (hnf (sN st) (ix c) (ix n)) 4).2, st) := by
          unfold P_hunt
          rw [he1, he]
          exact GO_ok rfl
        rw [e0]
        rw [hq] at he1
        have hh : hasI (sN st) c = true := by
          by_cases z : hasI (sN st) c = true
          · exact z
          · unfold wHunt at he1
            rw [if_neg z] at he1
            exact absurd he1 (by decide)
        unfold wHunt at he1
        rw [if_pos hh] at he1
        have hc : isC (sN st) (ix c) = true := by
          by_cases z : isC (sN st) (ix c) = true
          · exact z
          · rw [if_neg z] at he1
            exact absurd he1 (by decide)
        rw [if_pos hc] at he1
        obtain ⟨m, h1, h2, rfl⟩ := outs_ok (by omega) (by omega) he1
        obtain ⟨i, hi, rfl⟩ := hasI_of hh hI.1
        have hi8 : i < 8 := Nat.lt_of_lt_of_le hi hI.1
        rw [ixC (by omega)] at hc ⊢
        rw [ixC (by omega)]
        have hB := hnf_lt (sN st) i m h2
        refine Ev.blk kX2_hunt_58 rfl trivial ?_
        refine Ev.br tX2_hunt_60 rfl (fun c60 => ?_) (fun c60 => absurd rfl c60)
        refine Ev.blk kX2_hunt_70 rfl trivial ?_
        have loop : ∀ z : Option mV, (z = none ∨ ∃ q, z = some (mI q)) → Ev l d MX2_hunt 79 [some (mR 0 0), some (mI (nI i)), some (mI (nI m)), some (mI x), some (mI (nI 0)), some (mI (nI 0)), some (mI (-1)), some (mI (nI 0)), z] [] w (fun r u => CP w (if x = nI 0 then nI (bm (hnf (sN st) i m) 4).1 else oM1 (bm (hnf (sN st) i m) 4).2, st) r u) := by
          intro z hz
          refine Ev.for (fun j L u => Off 1 w u ∧ ∃ z : Option mV, L = [some (mR 0 0), some (mI (nI i)), some (mI (nI m)), some (mI x), some (mI (nI 0)), some (mI (nI (bm (hnf (sN st) i m) j).1)), some (mI (oM1 (bm (hnf (sN st) i m) j).2)), some (mI (nI j)), z]) 4 ?_ ?_ 0 (Nat.zero_le _) ⟨Off.rf, z, rfl⟩
          · rintro L u ⟨ho, z, rfl⟩
            refine Ev.blk kX2_hunt_79 rfl trivial ?_
            refine Ev.br tX2_hunt_82 rfl (fun c82 => ?_) (fun c82 => ?_)
            · refine Ev.blk kX2_hunt_136 rfl trivial ?_
              refine Ev.br tX2_hunt_137 rfl (fun c137 => ?_) (fun c137 => ?_)
              · refine Ev.blk kX2_hunt_145 rfl trivial ?_
                refine Ev.iret tX2_hunt_147 rfl rfl ?_
                refine ⟨?_, ho.up, hC.mind ho (Or.inl rfl)⟩
                first
                  | (rw [if_neg c137])
                  | (rw [if_pos c137])
              · rw [Classical.not_not] at c137
                refine Ev.blk kX2_hunt_140 rfl trivial ?_
                refine Ev.jmp tX2_hunt_142 ?_
                refine Ev.iret tX2_hunt_147 rfl rfl ?_
                refine ⟨?_, ho.up, hC.mind ho (Or.inl rfl)⟩
                first
                  | (rw [if_neg c137])
                  | (rw [if_pos c137])
            · exact absurd (nI_le (Nat.le_refl _) (by decide)) c82
          · rintro j L u hj ⟨ho, z, rfl⟩ k
            have hm := bm_lt hB j
            have hv := hB j
            have hj2 := bm_fst (hnf (sN st) i m) j
            obtain ⟨g2, hY2⟩ := (hC.mind ho (Or.inl rfl)).1
            have hcmp : (oM1 (bm (hnf (sN st) i m) j).2 < nI (hnf (sN st) i m j)) = (oLt (bm (hnf (sN st) i m) j).2 (hnf (sN st) i m j) = true) := oM1_lt (fun q hq => Nat.lt_trans (hm q hq) (by decide)) (Nat.lt_trans hv (by decide))
            refine Ev.blk kX2_hunt_79 rfl trivial ?_
            refine Ev.br tX2_hunt_82 rfl (fun c82 => ?_) (fun c82 => ?_)
            · exact absurd c82 (nI_ge hj (by decide))
            · refine Ev.blk kX2_hunt_85 rfl trivial ?_
              refine Ev.cV (d1 := d - 1) (ev_copyFrom (y := 1) (z := 0) (by decide) hY2 (by omega)) tX2_hunt_93 qX2_107 rfl rfl (by decide) ⟨rfl, rfl, rfl⟩ (by omega) ?_
              rintro _ _ ⟨rfl, ho2, hE⟩
              rw [hS.1.can] at hE
              refine Ev.blk kX2_hunt_96 rfl trivial ?_
              rw [nI_add]
              refine Ev.cV (d1 := d - 1) (ev_setKind hE hI0 (by omega) hi (k := 4 + j)) tX2_hunt_105 qX2_150 rfl rfl (by decide) ⟨rfl, rfl, rfl⟩ (by omega) ?_
              rintro _ _ ⟨rfl, ho3, hE3⟩
              refine Ev.blk kX2_hunt_108 rfl trivial ?_
              refine Ev.cV (d1 := d - 1) (ev_standingOver hE3 (hI0.uk hc hj) (by omega) h2 (by show de (sN st) + m < 100000; omega)) tX2_hunt_110 qX2_125 rfl rfl (by decide) ⟨rfl, rfl, rfl⟩ (by omega) ?_
              rintro _ _ ⟨rfl, ho4, hE4⟩
              refine Ev.blk kX2_hunt_113 rfl trivial ?_
              refine Ev.br tX2_hunt_119 rfl (fun c119 => ?_) (fun c119 => ?_)
              · rw [← Int32.not_lt, show sto (uk (sN st) (va_up (dk (sN st)) i (4 + j))) m = hnf (sN st) i m j from rfl, hcmp] at c119
                refine Ev.blk kX2_hunt_130 rfl trivial ?_
                refine Ev.jmp tX2_hunt_133 ?_
                refine k _ _ ⟨((ho.tr ho2).tr ho3).tr ho4, some (mI (nI (sto (uk (sN st) (va_up (dk (sN st)) i (4 + j))) m))), ?_⟩
                first
                  | (rw [bm_no c119, nI_add])
                  | (rw [bm_yes c119, nI_add]; rfl)
              · rw [Int32.not_le, show sto (uk (sN st) (va_up (dk (sN st)) i (4 + j))) m = hnf (sN st) i m j from rfl, hcmp] at c119
                refine Ev.blk kX2_hunt_122 rfl trivial ?_
                refine Ev.blk kX2_hunt_130 rfl trivial ?_
                refine Ev.jmp tX2_hunt_133 ?_
                refine k _ _ ⟨((ho.tr ho2).tr ho3).tr ho4, some (mI (nI (sto (uk (sN st) (va_up (dk (sN st)) i (4 + j))) m))), ?_⟩
                first
                  | (rw [bm_no c119, nI_add])
                  | (rw [bm_yes c119, nI_add]; rfl)
        exact loop none (Or.inl rfl)
      · have hr : RC why := by rw [← he] at hz ⊢; exact wh2_rc hw1 hz
        have e0 : P_hunt st c n x = RF st why := by
          unfold P_hunt
          rw [he1, he]
          exact GO_no hz
        rw [e0]
        refine Ev.blk kX2_hunt_58 rfl trivial ?_
        refine Ev.br tX2_hunt_60 rfl (fun c60 => ?_) (fun c60 => ?_)
        · exact absurd c60 hz
        · refine Ev.blk kX2_hunt_63 rfl trivial ?_
          refine Ev.cV (d1 := d - 1) (ev_ref hC hr) tX2_hunt_66 qX2_39 rfl rfl (by decide) ⟨rfl, rfl, rfl⟩ (by omega) ?_
          rintro _ _ ⟨rfl, hS2, hC2⟩
          refine Ev.iret tX2_hunt_69 rfl rfl ?_
          exact ⟨rfl, hS2, hC2⟩
    refine Ev.blk kX2_hunt_38 rfl trivial ?_
    refine Ev.br tX2_hunt_42 rfl (fun c42 => ?_) (fun c42 => ?_)
    · have e : wh2 w1 x = w1 := if_neg (fun z => c42 z.1)
      exact fin _ e
    · rw [Classical.not_not] at c42
      refine Ev.blk kX2_hunt_45 rfl trivial ?_
      refine Ev.br tX2_hunt_46 rfl (fun c46 => ?_) (fun c46 => ?_)
      · have e : wh2 w1 x = w1 := if_neg (fun z => z.2.1 c46)
        exact fin _ e
      · refine Ev.blk kX2_hunt_49 rfl trivial ?_
        refine Ev.br tX2_hunt_51 rfl (fun c51 => ?_) (fun c51 => ?_)
        · have e : wh2 w1 x = w1 := if_neg (fun z => z.2.2 c51)
          exact fin _ e
        · have e : wh2 w1 x = -2 := if_pos ⟨c42, c46, c51⟩
          refine Ev.blk kX2_hunt_54 rfl trivial ?_
          exact fin _ e
  by_cases hh : hasI (sN st) c = true
  · have e1 : wHunt st c n = (if isC (sN st) (ix c) = true then outs n (nI 1) (nI 60) else -3) := if_pos hh
    obtain ⟨i, hi, rfl⟩ := hasI_of hh hI.1
    have hi8 : i < 8 := Nat.lt_of_lt_of_le hi hI.1
    rw [ixC (by omega)] at e1
    by_cases hc : isC (sN st) i = true
    · rw [if_pos hc] at e1
      refine Ev.blk kX2_hunt_0 rfl trivial ?_
      refine Ev.cV (d1 := d - 1) (ev_hasB hY hh) tX2_hunt_5 qX2_57 rfl rfl (by decide) ⟨rfl, rfl, rfl⟩ (by omega) ?_
      rintro _ _ ⟨rfl, rfl⟩
      refine Ev.br tX2_hunt_8 rfl (fun c8 => ?_) (fun c8 => ?_)
      · refine Ev.blk kX2_hunt_15 rfl trivial ?_
        refine Ev.cV (d1 := d - 1) (ev_isCatcher hY hI (by omega) hi) tX2_hunt_20 qX2_140 rfl rfl (by decide) ⟨rfl, rfl, rfl⟩ (by omega) ?_
        rintro _ _ ⟨rfl, rfl⟩
        rw [show isC (ug (sN st) g) i = true from hc]
        refine Ev.br tX2_hunt_23 rfl (fun c23 => ?_) (fun c23 => ?_)
        · refine Ev.blk kX2_hunt_31 rfl trivial ?_
          refine Ev.cS (d1 := d - 1) (ev_outside n (nI 1) (nI 60)) tX2_hunt_35 qX2_96 rfl ⟨rfl, rfl, rfl⟩ (by omega) ?_
          rintro _ _ ⟨rfl, rfl⟩
          exact mid _ (outs_rc _ _ _) e1
        · exact absurd (show ¬ bI true = nI 0 by decide) c23
      · exact absurd (show ¬ bI true = nI 0 by decide) c8
    · rw [if_neg hc] at e1
      refine Ev.blk kX2_hunt_0 rfl trivial ?_
      refine Ev.cV (d1 := d - 1) (ev_hasB hY hh) tX2_hunt_5 qX2_57 rfl rfl (by decide) ⟨rfl, rfl, rfl⟩ (by omega) ?_
      rintro _ _ ⟨rfl, rfl⟩
      refine Ev.br tX2_hunt_8 rfl (fun c8 => ?_) (fun c8 => ?_)
      · refine Ev.blk kX2_hunt_15 rfl trivial ?_
        refine Ev.cV (d1 := d - 1) (ev_isCatcher hY hI (by omega) hi) tX2_hunt_20 qX2_140 rfl rfl (by decide) ⟨rfl, rfl, rfl⟩ (by omega) ?_
        rintro _ _ ⟨rfl, rfl⟩
        rw [show isC (ug (sN st) g) i = false from bl_f hc]
        refine Ev.br tX2_hunt_23 rfl (fun c23 => ?_) (fun c23 => ?_)
        · exact absurd rfl c23
        · refine Ev.blk kX2_hunt_26 rfl trivial ?_
          refine Ev.jmp tX2_hunt_28 ?_
          exact mid _ (Or.inr rfl3) e1
      · exact absurd (show ¬ bI true = nI 0 by decide) c8
  · have e : wHunt st c n = -1 := if_neg hh
    refine Ev.blk kX2_hunt_0 rfl trivial ?_
    refine Ev.cV (d1 := d - 1) (ev_has hY c) tX2_hunt_5 qX2_57 rfl rfl (by decide) ⟨rfl, rfl, rfl⟩ (by omega) ?_
    rintro _ _ ⟨rfl, rfl⟩
    refine Ev.br tX2_hunt_8 rfl (fun c8 => ?_) (fun c8 => ?_)
    · exact absurd (hasI_f hh) c8
    · refine Ev.blk kX2_hunt_11 rfl trivial ?_
      refine Ev.jmp tX2_hunt_12 ?_
      exact mid _ (Or.inr rfl1) e
theorem ev_enough (hC : KlsAt w st) (hS : SI st) (hd : 8 ≤ d) : Cl l d MX2_enough [mR 0 0] w (fun r u => CP w (P_enough st) r u) := by
  show Ev l d MX2_enough 0 [some (mR 0 0), none] [] w _
  obtain ⟨g, hY⟩ := hC.1
  have hI : YI (sN st) := hS.1.1
  have h8 := hI.1
  have hse : de (sN st) ≤ 999 := hS.1.2.1
  have hp : hasP (ug (sN st) g) = hasP (sN st) := rfl
  unfold P_enough
  have loop : Ev l d MX2_enough 19 [some (mR 0 0), some (mI (nI 0))] [] w (fun r u => CP w (oM9 (eno (sN st)), st) r u) := by
    refine Ev.for (fun j L u => Off 1 w u ∧ fst1 (fun k => decide (dn (sN st) + k ≤ 8) && (tov (addN (sN st) k)).isSome) j = none ∧ L = [some (mR 0 0), some (mI (nI j))]) 4 ?_ ?_ 0 (Nat.zero_le _) ⟨Off.rf, rfl, rfl⟩
    · rintro L u ⟨ho, h0, rfl⟩
      refine Ev.blk kX2_enough_19 rfl trivial ?_
      refine Ev.br tX2_enough_21 rfl (fun c21 => ?_) (fun c21 => ?_)
      · refine Ev.blk kX2_enough_63 rfl trivial ?_
        refine Ev.iret tX2_enough_65 rfl rfl ?_
        refine ⟨?_, ho.up, hC.mind ho (Or.inl rfl)⟩
        unfold eno
        rw [h0]
        rfl
      · exact absurd (nI_lt (by decide) (by decide)) c21
    · rintro j L u hj ⟨ho, h0, rfl⟩ k
      obtain ⟨g2, hY2⟩ := (hC.mind ho (Or.inl rfl)).1
      by_cases hn : dn (sN st) + j ≤ 8
      · cases ht : tov (addN (sN st) j) with
        | none =>
          refine Ev.blk kX2_enough_19 rfl trivial ?_
          refine Ev.br tX2_enough_21 rfl (fun c21 => ?_) (fun c21 => ?_)
          · exact absurd c21 (nI_nlt (by omega) (by decide))
          · refine Ev.blk kX2_enough_24 rfl trivial ?_
            refine Ev.cV (d1 := d - 1) (ev_copyFrom (y := 1) (z := 0) (by decide) hY2 (by omega)) tX2_enough_32 qX2_107 rfl rfl (by decide) ⟨rfl, rfl, rfl⟩ (by omega) ?_
            rintro _ _ ⟨rfl, ho2, hE⟩
            rw [hS.1.can] at hE
            refine Ev.blk kX2_enough_35 rfl trivial ?_
            refine Ev.cV (d1 := d - 1) (ev_addCatchers hE hI (by omega) (show j ≤ 3 by omega)) tX2_enough_37 qX2_154 rfl rfl (by decide) ⟨rfl, rfl, rfl⟩ (by omega) ?_
            rintro _ _ ⟨rfl, ho3, hE3⟩
            rw [decide_eq_true hn]
            refine Ev.br tX2_enough_40 rfl (fun c40 => ?_) (fun c40 => ?_)
            · refine Ev.blk kX2_enough_46 rfl trivial ?_
              refine Ev.cV (d1 := d - 1) (ev_secondsTillOver (hE3 hn) (addN_YI hI j hn) (by omega) (by rw [addN_de]; omega)) tX2_enough_47 qX2_117 rfl rfl (by decide) ⟨rfl, rfl, rfl⟩ (by omega) ?_
              rintro _ _ ⟨rfl, ho4⟩
              rw [ht]
              refine Ev.blk kX2_enough_50 rfl trivial ?_
              refine Ev.br tX2_enough_52 rfl (fun c52 => ?_) (fun c52 => ?_)
              · refine Ev.blk kX2_enough_57 rfl trivial ?_
                refine Ev.jmp tX2_enough_60 ?_
                refine k _ _ ⟨((ho.tr ho2).tr ho3).tr ho4, ?_, by rw [nI_add]⟩
                unfold fst1
                rw [h0]
                simp only [ht]
                simp
              · exact absurd rfl c52
            · exact absurd (show ¬ bI true = nI 0 by decide) c40
        | some v =>
          have hv : v < 61 := (fst1_spec ht).1
          refine Ev.blk kX2_enough_19 rfl trivial ?_
          refine Ev.br tX2_enough_21 rfl (fun c21 => ?_) (fun c21 => ?_)
          · exact absurd c21 (nI_nlt (by omega) (by decide))
          · refine Ev.blk kX2_enough_24 rfl trivial ?_
            refine Ev.cV (d1 := d - 1) (ev_copyFrom (y := 1) (z := 0) (by decide) hY2 (by omega)) tX2_enough_32 qX2_107 rfl rfl (by decide) ⟨rfl, rfl, rfl⟩ (by omega) ?_
            rintro _ _ ⟨rfl, ho2, hE⟩
            rw [hS.1.can] at hE
            refine Ev.blk kX2_enough_35 rfl trivial ?_
            refine Ev.cV (d1 := d - 1) (ev_addCatchers hE hI (by omega) (show j ≤ 3 by omega)) tX2_enough_37 qX2_154 rfl rfl (by decide) ⟨rfl, rfl, rfl⟩ (by omega) ?_
            rintro _ _ ⟨rfl, ho3, hE3⟩
            rw [decide_eq_true hn]
            refine Ev.br tX2_enough_40 rfl (fun c40 => ?_) (fun c40 => ?_)
            · refine Ev.blk kX2_enough_46 rfl trivial ?_
              refine Ev.cV (d1 := d - 1) (ev_secondsTillOver (hE3 hn) (addN_YI hI j hn) (by omega) (by rw [addN_de]; omega)) tX2_enough_47 qX2_117 rfl rfl (by decide) ⟨rfl, rfl, rfl⟩ (by omega) ?_
              rintro _ _ ⟨rfl, ho4⟩
              rw [ht]
              refine Ev.blk kX2_enough_50 rfl trivial ?_
              refine Ev.br tX2_enough_52 rfl (fun c52 => ?_) (fun c52 => ?_)
              · exact absurd c52 (by show ¬ nI v = -9; rw [nI_m9 (by omega)]; exact id)
              · refine Ev.blk kX2_enough_55 rfl trivial ?_
                refine Ev.iret tX2_enough_56 rfl rfl ?_
                refine ⟨?_, (((ho.tr ho2).tr ho3).tr ho4).up, hC.mind (((ho.tr ho2).tr ho3).tr ho4) (Or.inl rfl)⟩
                unfold eno
                rw [fst1_some h0 (by rw [decide_eq_true hn, ht]; rfl) hj]
                rfl
            · exact absurd (show ¬ bI true = nI 0 by decide) c40
      · skip
        refine Ev.blk kX2_enough_19 rfl trivial ?_
        refine Ev.br tX2_enough_21 rfl (fun c21 => ?_) (fun c21 => ?_)
        · exact absurd c21 (nI_nlt (by omega) (by decide))
        · refine Ev.blk kX2_enough_24 rfl trivial ?_
          refine Ev.cV (d1 := d - 1) (ev_copyFrom (y := 1) (z := 0) (by decide) hY2 (by omega)) tX2_enough_32 qX2_107 rfl rfl (by decide) ⟨rfl, rfl, rfl⟩ (by omega) ?_
          rintro _ _ ⟨rfl, ho2, hE⟩
          rw [hS.1.can] at hE
          refine Ev.blk kX2_enough_35 rfl trivial ?_
          refine Ev.cV (d1 := d - 1) (ev_addCatchers hE hI (by omega) (show j ≤ 3 by omega)) tX2_enough_37 qX2_154 rfl rfl (by decide) ⟨rfl, rfl, rfl⟩ (by omega) ?_
          rintro _ _ ⟨rfl, ho3, hE3⟩
          rw [decide_eq_false hn]
          refine Ev.br tX2_enough_40 rfl (fun c40 => ?_) (fun c40 => ?_)
          · exact absurd rfl c40
          · refine Ev.blk kX2_enough_43 rfl trivial ?_
            refine Ev.iret tX2_enough_45 rfl rfl ?_
            refine ⟨?_, ((ho.tr ho2).tr ho3).up, hC.mind ((ho.tr ho2).tr ho3) (Or.inl rfl)⟩
            unfold eno
            have h4 : fst1 (fun k => decide (dn (sN st) + k ≤ 8) && (tov (addN (sN st) k)).isSome) 4 = none := by
              refine fst1_none (fun q hq => ?_)
              by_cases e : q < j
              · exact fst1_no h0 q e
              · rw [decide_eq_false (show ¬ dn (sN st) + q ≤ 8 by omega)]; rfl
            rw [h4]
            rfl
  refine Ev.blk kX2_enough_0 rfl trivial ?_
  refine Ev.cV (d1 := d - 1) (ev_hasPlayers hY hI (by omega)) tX2_enough_4 qX2_114 rfl rfl (by decide) ⟨rfl, rfl, rfl⟩ (by omega) ?_
  rintro _ _ ⟨rfl, rfl⟩
  rw [hp]
  refine Ev.br tX2_enough_7 rfl (fun c7 => ?_) (fun c7 => ?_)
  · rw [bI_0] at c7
    rw [if_pos (bl_t c7)]
    refine Ev.blk kX2_enough_17 rfl trivial ?_
    exact loop
  · rw [bI_0, Classical.not_not] at c7
    rw [if_neg (by rw [c7]; decide)]
    refine Ev.blk kX2_enough_10 rfl trivial ?_
    refine Ev.cV (d1 := d - 1) (ev_ref hC rfl3) tX2_enough_13 qX2_39 rfl rfl (by decide) ⟨rfl, rfl, rfl⟩ (by omega) ?_
    rintro _ _ ⟨rfl, hS2, hC2⟩
    refine Ev.iret tX2_enough_16 rfl rfl ?_
    exact ⟨rfl, hS2, hC2⟩
theorem chf_lt (D : Yd) (i j s : Nat) : chf D i j s < 1000 := Nat.lt_of_le_of_lt (cnt_le _ 8) (by decide)
theorem ev_change (hC : KlsAt w st) (hS : SI st) (hd : 8 ≤ d) (a b x : Int32) : Cl l d MX2_change [mR 0 0, mI a, mI b, mI x] w (fun r u => CP w (P_change st a b x) r u) := by
  show Ev l d MX2_change 0 [some (mR 0 0), some (mI a), some (mI b), some (mI x), none, none, none, none] [] w _
  obtain ⟨g, hY⟩ := hC.1
  have hI : YI (ug (sN st) g) := hS.1.1
  have hI0 : YI (sN st) := hS.1.1
  have hse : de (sN st) ≤ 999 := hS.1.2.1
  have fin : ∀ why, wh2 (wChg st a b) x = why → Ev l d MX2_change 78 [some (mR 0 0), some (mI a), some (mI b), some (mI x), some (mI why), none, none, none] [] w (fun r u => CP w (P_change st a b x) r u) := by
    intro why he
    by_cases hz : why = nI 0
    · subst hz
      obtain ⟨he1, hx⟩ := wh2_0 he
      have e0 : P_change st a b x = (if x = nI 0 then nI (bm (chf (sN st) (ix a) (ix b)) 21).1 else oM1 (bm (chf (sN st) (ix a) (ix b)) 21).2, st) := by
        unfold P_change
        rw [he]
        exact GO_ok rfl
      rw [e0]
      unfold wChg at he1
      have hh : hasI (sN st) a = true ∧ hasI (sN st) b = true := by
        by_cases z : hasI (sN st) a = true ∧ hasI (sN st) b = true
        · exact z
        · rw [if_neg z] at he1
          exact absurd he1 (by decide)
      rw [if_pos hh] at he1
      have hc : isC (sN st) (ix a) = true ∧ isC (sN st) (ix b) = false := by
        by_cases z : isC (sN st) (ix a) = true ∧ isC (sN st) (ix b) = false
        · exact z
        · rw [if_neg z] at he1
          exact absurd he1 (by decide)
      obtain ⟨i, hi, rfl⟩ := hasI_of hh.1 hI.1
      obtain ⟨j, hj, rfl⟩ := hasI_of hh.2 hI.1
      have hi : i < dn (sN st) := hi
      have hj : j < dn (sN st) := hj
      have hi8 : i < 8 := Nat.lt_of_lt_of_le hi hI.1
      have hj8 : j < 8 := Nat.lt_of_lt_of_le hj hI.1
      rw [ixC (by omega), ixC (by omega)] at hc ⊢
      have hij : i ≠ j := by intro e; subst e; rw [hc.1] at hc; exact absurd hc.2 (by decide)
      have hB := chf_lt (sN st) i j
      have loop : ∀ u0, Off 1 w u0 → YardAt u0 1 (sN st) → Ev l d MX2_change 110 [some (mR 0 0), some (mI (nI i)), some (mI (nI j)), some (mI x), some (mI (nI 0)), some (mI (nI 0)), some (mI (-1)), some (mI (nI 0))] [] u0 (fun r u => CP w (if x = nI 0 then nI (bm (chf (sN st) i j) 21).1 else oM1 (bm (chf (sN st) i j) 21).2, st) r u) := by
        intro u0 ho0 hE0
        have key : ∀ u, Sm (fun t q => ¬ ((1 ≤ t ∧ t ≤ 6) ∧ (q = 1 ∨ q = 2))) w u → KlsAt u st := fun u hs => hC.keep hs (fun t q _ h => h)
        have up : ∀ u, Sm (fun t q => ¬ ((1 ≤ t ∧ t ≤ 6) ∧ (q = 1 ∨ q = 2))) w u → Sm (fun t _ => 11 ≤ t) w u := fun u hs => hs.sub (fun t q h => by omega)
        have o1 : ∀ {u v : mW}, Off 1 u v → Sm (fun t q => ¬ ((1 ≤ t ∧ t ≤ 6) ∧ (q = 1 ∨ q = 2))) u v := fun h => h.sm.sub (fun t q h2 => by omega)
        have o2 : ∀ {u v : mW}, Off 2 u v → Sm (fun t q => ¬ ((1 ≤ t ∧ t ≤ 6) ∧ (q = 1 ∨ q = 2))) u v := fun h => h.sm.sub (fun t q h2 => by omega)
        have k2 : ∀ {u v : mW} {E : Yd}, Off 2 u v → YardAt u 1 E → YardAt v 1 E := fun h hE => hE.sm h.sm (fun t h1 h2 => by omega)
        refine Ev.for (fun s L u => Sm (fun t q => ¬ ((1 ≤ t ∧ t ≤ 6) ∧ (q = 1 ∨ q = 2))) w u ∧ YardAt u 1 (passN (sN st) s) ∧ L = [some (mR 0 0), some (mI (nI i)), some (mI (nI j)), some (mI x), some (mI (nI 0)), some (mI (nI (bm (chf (sN st) i j) s).1)), some (mI (oM1 (bm (chf (sN st) i j) s).2)), some (mI (nI s))]) 21 ?_ ?_ 0 (Nat.zero_le _) ⟨o1 ho0, hE0, rfl⟩
        · rintro L u ⟨ho, hE, rfl⟩
          refine Ev.blk kX2_change_110 rfl trivial ?_
          refine Ev.br tX2_change_114 rfl (fun c114 => ?_) (fun c114 => ?_)
          · refine Ev.blk kX2_change_187 rfl trivial ?_
            refine Ev.br tX2_change_188 rfl (fun c188 => ?_) (fun c188 => ?_)
            · refine Ev.blk kX2_change_196 rfl trivial ?_
              refine Ev.iret tX2_change_198 rfl rfl ?_
              refine ⟨?_, up _ ho, key _ ho⟩
              first
                | (rw [if_neg c188])
                | (rw [if_pos c188])
            · rw [Classical.not_not] at c188
              refine Ev.blk kX2_change_191 rfl trivial ?_
              refine Ev.jmp tX2_change_193 ?_
              refine Ev.iret tX2_change_198 rfl rfl ?_
              refine ⟨?_, up _ ho, key _ ho⟩
              first
                | (rw [if_neg c188])
                | (rw [if_pos c188])
          · exact absurd (nI_lt (by decide) (by decide)) c114
        · rintro s L u hs ⟨ho, hE, rfl⟩ k
          have hm := bm_lt hB s
          have hv := hB s
          have hIs : YI (passN (sN st) s) := hS.1.pass (by omega)
          have hns := passN_n (D := sN st) s
          have hXI : YI (exch (passN (sN st) s) i j) := hIs.exch (by rw [hns.1]; exact hi) (by rw [hns.1]; exact hj) (by unfold isC; rw [hns.2.1]; exact hc.1) (by unfold isC; rw [hns.2.1]; exact hc.2)
          obtain ⟨g3, hg3⟩ := passN_g (D := exch (passN (sN st) s) i j) (g := 0) (30 - s)
          have hcan : ua (ug (passN (sN st) s) 0) 99 = ug (passN (sN st) s) 0 := by
            refine Yd_ext rfl rfl rfl rfl rfl rfl rfl rfl rfl rfl ?_
            show 99 = da (passN (sN st) s)
            rw [hns.2.2.2.2.1]
            exact hS.1.2.2.2.symm
          have hcmp : (oM1 (bm (chf (sN st) i j) s).2 < nI (chf (sN st) i j s)) = (oLt (bm (chf (sN st) i j) s).2 (chf (sN st) i j s) = true) := oM1_lt (fun q hq => Nat.lt_trans (hm q hq) (by decide)) (Nat.lt_trans hv (by decide))
          have hde : de (exch (passN (sN st) s) i j) = de (sN st) + s := hns.2.2.2.2.2
          have hds : de (passN (sN st) s) = de (sN st) + s := hns.2.2.2.2.2
          refine Ev.blk kX2_change_110 rfl trivial ?_
          refine Ev.br tX2_change_114 rfl (fun c114 => ?_) (fun c114 => ?_)
          · exact absurd c114 (nI_nlt (by omega) (by decide))
          · refine Ev.blk kX2_change_117 rfl trivial ?_
            refine Ev.cV (d1 := d - 1) (ev_copyFrom (y := 2) (z := 1) (by decide) hE (by omega)) tX2_change_125 qX2_107 rfl rfl (by decide) ⟨rfl, rfl, rfl⟩ (by omega) ?_
            rintro _ _ ⟨rfl, ho2, hE2⟩
            rw [hcan] at hE2
            refine Ev.blk kX2_change_128 rfl trivial ?_
            refine Ev.cV (d1 := d - 1) (ev_exchange hE2 (show YI (ug (passN (sN st) s) 0) from hIs) (by omega) (show i < dn (ug (passN (sN st) s) 0) by show i < dn (passN (sN st) s); rw [hns.1]; exact hi) (show j < dn (ug (passN (sN st) s) 0) by show j < dn (passN (sN st) s); rw [hns.1]; exact hj) hij) tX2_change_134 qX2_157 rfl rfl (by decide) ⟨rfl, rfl, rfl⟩ (by omega) ?_
            rintro _ _ ⟨rfl, ho3, hE3⟩
            refine Ev.blk kX2_change_137 rfl trivial ?_
            rw [pk_sub (by omega)]
            refine Ev.cV (d1 := d - 1) (ev_passMany hE3 (show YI (ug (exch (passN (sN st) s) i j) 0) from hXI) (by omega) (show 30 - s < 1000 by omega) (by show de (exch (passN (sN st) s) i j) + (30 - s) < 100000; omega)) tX2_change_146 qX2_103 rfl rfl (by decide) ⟨rfl, rfl, rfl⟩ (by omega) ?_
            rintro _ _ ⟨rfl, ho4, hE4⟩
            have hE4 : YardAt _ 2 (passN (ug (exch (passN (sN st) s) i j) 0) (30 - s)) := hE4
            rw [hg3] at hE4
            refine Ev.blk kX2_change_149 rfl trivial ?_
            refine Ev.cV (d1 := d - 1) (ev_standingCount hE4 (by omega)) tX2_change_153 qX2_122 rfl rfl (by decide) ⟨rfl, rfl, rfl⟩ (by omega) ?_
            rintro _ _ ⟨rfl, rfl⟩
            refine Ev.blk kX2_change_156 rfl trivial ?_
            refine Ev.br tX2_change_158 rfl (fun c158 => ?_) (fun c158 => ?_)
            · rw [← Int32.not_lt, show cnt (ds (ug (passN (exch (passN (sN st) s) i j) (30 - s)) g3)) 8 = chf (sN st) i j s from rfl, hcmp] at c158
              refine Ev.blk kX2_change_174 rfl trivial ?_
              refine Ev.cV (d1 := d - 1) (ev_pass (k2 ho4 (k2 ho3 (k2 ho2 hE))) hIs (by omega)) tX2_change_178 qX2_134 rfl rfl (by decide) ⟨rfl, rfl, rfl⟩ (by omega) ?_
              rintro _ _ ⟨rfl, ho5, hE5⟩
              refine Ev.blk kX2_change_181 rfl trivial ?_
              refine Ev.jmp tX2_change_184 ?_
              refine k _ _ ⟨((((ho.tr (o2 ho2)).tr (o2 ho3)).tr (o2 ho4)).tr (o1 ho5)), hE5, ?_⟩
              first
                | (rw [bm_no c158, nI_add])
                | (rw [bm_yes c158, nI_add]; rfl)
            · rw [Int32.not_le, show cnt (ds (ug (passN (exch (passN (sN st) s) i j) (30 - s)) g3)) 8 = chf (sN st) i j s from rfl, hcmp] at c158
              refine Ev.blk kX2_change_161 rfl trivial ?_
              refine Ev.cV (d1 := d - 1) (ev_standingCount hE4 (by omega)) tX2_change_165 qX2_122 rfl rfl (by decide) ⟨rfl, rfl, rfl⟩ (by omega) ?_
              rintro _ _ ⟨rfl, rfl⟩
              refine Ev.blk kX2_change_168 rfl trivial ?_
              refine Ev.blk kX2_change_174 rfl trivial ?_
              refine Ev.cV (d1 := d - 1) (ev_pass (k2 ho4 (k2 ho3 (k2 ho2 hE))) hIs (by omega)) tX2_change_178 qX2_134 rfl rfl (by decide) ⟨rfl, rfl, rfl⟩ (by omega) ?_
              rintro _ _ ⟨rfl, ho5, hE5⟩
              refine Ev.blk kX2_change_181 rfl trivial ?_
              refine Ev.jmp tX2_change_184 ?_
              refine k _ _ ⟨((((ho.tr (o2 ho2)).tr (o2 ho3)).tr (o2 ho4)).tr (o1 ho5)), hE5, ?_⟩
              first
                | (rw [bm_no c158, nI_add])
                | (rw [bm_yes c158, nI_add]; rfl)
      refine Ev.blk kX2_change_78 rfl trivial ?_
      refine Ev.br tX2_change_80 rfl (fun c80 => ?_) (fun c80 => ?_)
      · refine Ev.blk kX2_change_90 rfl trivial ?_
        refine Ev.cV (d1 := d - 1) (ev_copyFrom (y := 1) (z := 0) (by decide) hY (by omega)) tX2_change_104 qX2_107 rfl rfl (by decide) ⟨rfl, rfl, rfl⟩ (by omega) ?_
        rintro _ _ ⟨rfl, ho, hE⟩
        rw [hS.1.can] at hE
        refine Ev.blk kX2_change_107 rfl trivial ?_
        exact loop _ ho hE
      · exact absurd rfl c80
    · have hr : RC why := by
        rw [← he] at hz ⊢
        refine wh2_rc ?_ hz
        unfold wChg
        split
        · split
          · exact Or.inl rfl
          · exact Or.inr rfl3
        · exact Or.inr rfl1
      have e0 : P_change st a b x = RF st why := by
        unfold P_change
        rw [he]
        exact GO_no hz
      rw [e0]
      refine Ev.blk kX2_change_78 rfl trivial ?_
      refine Ev.br tX2_change_80 rfl (fun c80 => ?_) (fun c80 => ?_)
      · exact absurd c80 hz
      · refine Ev.blk kX2_change_83 rfl trivial ?_
        refine Ev.cV (d1 := d - 1) (ev_ref hC hr) tX2_change_86 qX2_39 rfl rfl (by decide) ⟨rfl, rfl, rfl⟩ (by omega) ?_
        rintro _ _ ⟨rfl, hS2, hC2⟩
        refine Ev.iret tX2_change_89 rfl rfl ?_
        exact ⟨rfl, hS2, hC2⟩
  have mid : ∀ w1, wChg st a b = w1 → Ev l d MX2_change 60 [some (mR 0 0), some (mI a), some (mI b), some (mI x), some (mI w1), none, none, none] [] w (fun r u => CP w (P_change st a b x) r u) := by
    intro w1 he
    subst he
    refine Ev.blk kX2_change_60 rfl trivial ?_
    refine Ev.br tX2_change_62 rfl (fun c62 => ?_) (fun c62 => ?_)
    · have e : wh2 (wChg st a b) x = wChg st a b := if_neg (fun z => c62 z.1)
      exact fin _ e
    · rw [Classical.not_not] at c62
      refine Ev.blk kX2_change_65 rfl trivial ?_
      refine Ev.br tX2_change_66 rfl (fun c66 => ?_) (fun c66 => ?_)
      · have e : wh2 (wChg st a b) x = wChg st a b := if_neg (fun z => z.2.1 c66)
        exact fin _ e
      · refine Ev.blk kX2_change_69 rfl trivial ?_
        refine Ev.br tX2_change_71 rfl (fun c71 => ?_) (fun c71 => ?_)
        · have e : wh2 (wChg st a b) x = wChg st a b := if_neg (fun z => z.2.2 c71)
          exact fin _ e
        · have e : wh2 (wChg st a b) x = -2 := if_pos ⟨c62, c66, c71⟩
          refine Ev.blk kX2_change_74 rfl trivial ?_
          exact fin _ e
  by_cases ha : hasI (sN st) a = true
  · by_cases hb : hasI (sN st) b = true
    · have e1 : wChg st a b = (if isC (sN st) (ix a) = true ∧ isC (sN st) (ix b) = false then nI 0 else -3) := if_pos ⟨ha, hb⟩
      obtain ⟨i, hi, rfl⟩ := hasI_of ha hI.1
      obtain ⟨j, hj, rfl⟩ := hasI_of hb hI.1
      have hi8 : i < 8 := Nat.lt_of_lt_of_le hi hI.1
      have hj8 : j < 8 := Nat.lt_of_lt_of_le hj hI.1
      rw [ixC (by omega), ixC (by omega)] at e1
      by_cases hc : isC (sN st) i = true
      · by_cases hcj : isC (sN st) j = true
        · rw [if_neg (fun z => by rw [hcj] at z; exact absurd z.2 (by decide))] at e1
          refine Ev.blk kX2_change_0 rfl trivial ?_
          refine Ev.cV (d1 := d - 1) (ev_hasB hY ha) tX2_change_5 qX2_57 rfl rfl (by decide) ⟨rfl, rfl, rfl⟩ (by omega) ?_
          rintro _ _ ⟨rfl, rfl⟩
          refine Ev.br tX2_change_8 rfl (fun c8 => ?_) (fun c8 => ?_)
          · exact absurd c8 (by decide)
          · refine Ev.blk kX2_change_11 rfl trivial ?_
            refine Ev.cV (d1 := d - 1) (ev_hasB hY hb) tX2_change_16 qX2_57 rfl rfl (by decide) ⟨rfl, rfl, rfl⟩ (by omega) ?_
            rintro _ _ ⟨rfl, rfl⟩
            refine Ev.br tX2_change_19 rfl (fun c19 => ?_) (fun c19 => ?_)
            · refine Ev.blk kX2_change_26 rfl trivial ?_
              refine Ev.blk kX2_change_27 rfl trivial ?_
              refine Ev.br tX2_change_31 rfl (fun c31 => ?_) (fun c31 => ?_)
              · exact absurd rfl c31
              · refine Ev.blk kX2_change_34 rfl trivial ?_
                refine Ev.cV (d1 := d - 1) (ev_isCatcher hY hI (by omega) hi) tX2_change_39 qX2_140 rfl rfl (by decide) ⟨rfl, rfl, rfl⟩ (by omega) ?_
                rintro _ _ ⟨rfl, rfl⟩
                rw [show isC (ug (sN st) g) i = true from hc]
                refine Ev.br tX2_change_42 rfl (fun c42 => ?_) (fun c42 => ?_)
                · exact absurd c42 (by decide)
                · refine Ev.blk kX2_change_45 rfl trivial ?_
                  refine Ev.cV (d1 := d - 1) (ev_isCatcher hY hI (by omega) hj) tX2_change_50 qX2_140 rfl rfl (by decide) ⟨rfl, rfl, rfl⟩ (by omega) ?_
                  rintro _ _ ⟨rfl, rfl⟩
                  rw [show isC (ug (sN st) g) j = true from hcj]
                  refine Ev.br tX2_change_53 rfl (fun c53 => ?_) (fun c53 => ?_)
                  · exact absurd c53 (by decide)
                  · refine Ev.blk kX2_change_56 rfl trivial ?_
                    exact mid _ e1
            · exact absurd (show ¬ bI true = nI 0 by decide) c19
        · rw [if_pos ⟨hc, bl_f hcj⟩] at e1
          refine Ev.blk kX2_change_0 rfl trivial ?_
          refine Ev.cV (d1 := d - 1) (ev_hasB hY ha) tX2_change_5 qX2_57 rfl rfl (by decide) ⟨rfl, rfl, rfl⟩ (by omega) ?_
          rintro _ _ ⟨rfl, rfl⟩
          refine Ev.br tX2_change_8 rfl (fun c8 => ?_) (fun c8 => ?_)
          · exact absurd c8 (by decide)
          · refine Ev.blk kX2_change_11 rfl trivial ?_
            refine Ev.cV (d1 := d - 1) (ev_hasB hY hb) tX2_change_16 qX2_57 rfl rfl (by decide) ⟨rfl, rfl, rfl⟩ (by omega) ?_
            rintro _ _ ⟨rfl, rfl⟩
            refine Ev.br tX2_change_19 rfl (fun c19 => ?_) (fun c19 => ?_)
            · refine Ev.blk kX2_change_26 rfl trivial ?_
              refine Ev.blk kX2_change_27 rfl trivial ?_
              refine Ev.br tX2_change_31 rfl (fun c31 => ?_) (fun c31 => ?_)
              · exact absurd rfl c31
              · refine Ev.blk kX2_change_34 rfl trivial ?_
                refine Ev.cV (d1 := d - 1) (ev_isCatcher hY hI (by omega) hi) tX2_change_39 qX2_140 rfl rfl (by decide) ⟨rfl, rfl, rfl⟩ (by omega) ?_
                rintro _ _ ⟨rfl, rfl⟩
                rw [show isC (ug (sN st) g) i = true from hc]
                refine Ev.br tX2_change_42 rfl (fun c42 => ?_) (fun c42 => ?_)
                · exact absurd c42 (by decide)
                · refine Ev.blk kX2_change_45 rfl trivial ?_
                  refine Ev.cV (d1 := d - 1) (ev_isCatcher hY hI (by omega) hj) tX2_change_50 qX2_140 rfl rfl (by decide) ⟨rfl, rfl, rfl⟩ (by omega) ?_
                  rintro _ _ ⟨rfl, rfl⟩
                  rw [show isC (ug (sN st) g) j = false from bl_f hcj]
                  refine Ev.br tX2_change_53 rfl (fun c53 => ?_) (fun c53 => ?_)
                  · exact mid _ e1
                  · exact absurd rfl c53
            · exact absurd (show ¬ bI true = nI 0 by decide) c19
      · rw [if_neg (fun z => hc z.1)] at e1
        refine Ev.blk kX2_change_0 rfl trivial ?_
        refine Ev.cV (d1 := d - 1) (ev_hasB hY ha) tX2_change_5 qX2_57 rfl rfl (by decide) ⟨rfl, rfl, rfl⟩ (by omega) ?_
        rintro _ _ ⟨rfl, rfl⟩
        refine Ev.br tX2_change_8 rfl (fun c8 => ?_) (fun c8 => ?_)
        · exact absurd c8 (by decide)
        · refine Ev.blk kX2_change_11 rfl trivial ?_
          refine Ev.cV (d1 := d - 1) (ev_hasB hY hb) tX2_change_16 qX2_57 rfl rfl (by decide) ⟨rfl, rfl, rfl⟩ (by omega) ?_
          rintro _ _ ⟨rfl, rfl⟩
          refine Ev.br tX2_change_19 rfl (fun c19 => ?_) (fun c19 => ?_)
          · refine Ev.blk kX2_change_26 rfl trivial ?_
            refine Ev.blk kX2_change_27 rfl trivial ?_
            refine Ev.br tX2_change_31 rfl (fun c31 => ?_) (fun c31 => ?_)
            · exact absurd rfl c31
            · refine Ev.blk kX2_change_34 rfl trivial ?_
              refine Ev.cV (d1 := d - 1) (ev_isCatcher hY hI (by omega) hi) tX2_change_39 qX2_140 rfl rfl (by decide) ⟨rfl, rfl, rfl⟩ (by omega) ?_
              rintro _ _ ⟨rfl, rfl⟩
              rw [show isC (ug (sN st) g) i = false from bl_f hc]
              refine Ev.br tX2_change_42 rfl (fun c42 => ?_) (fun c42 => ?_)
              · refine Ev.blk kX2_change_56 rfl trivial ?_
                exact mid _ e1
              · exact absurd rfl c42
          · exact absurd (show ¬ bI true = nI 0 by decide) c19
    · have e1 : wChg st a b = -1 := if_neg (fun z => hb z.2)
      refine Ev.blk kX2_change_0 rfl trivial ?_
      refine Ev.cV (d1 := d - 1) (ev_hasB hY ha) tX2_change_5 qX2_57 rfl rfl (by decide) ⟨rfl, rfl, rfl⟩ (by omega) ?_
      rintro _ _ ⟨rfl, rfl⟩
      refine Ev.br tX2_change_8 rfl (fun c8 => ?_) (fun c8 => ?_)
      · exact absurd c8 (by decide)
      · refine Ev.blk kX2_change_11 rfl trivial ?_
        refine Ev.cV (d1 := d - 1) (ev_has hY b) tX2_change_16 qX2_57 rfl rfl (by decide) ⟨rfl, rfl, rfl⟩ (by omega) ?_
        rintro _ _ ⟨rfl, rfl⟩
        refine Ev.br tX2_change_19 rfl (fun c19 => ?_) (fun c19 => ?_)
        · exact absurd (hasI_f hb) c19
        · refine Ev.blk kX2_change_22 rfl trivial ?_
          refine Ev.jmp tX2_change_23 ?_
          refine Ev.blk kX2_change_27 rfl trivial ?_
          refine Ev.br tX2_change_31 rfl (fun c31 => ?_) (fun c31 => ?_)
          · exact mid _ e1
          · exact absurd (show ¬ (-1 : Int32) = nI 0 by decide) c31
  · have e1 : wChg st a b = -1 := if_neg (fun z => ha z.1)
    refine Ev.blk kX2_change_0 rfl trivial ?_
    refine Ev.cV (d1 := d - 1) (ev_has hY a) tX2_change_5 qX2_57 rfl rfl (by decide) ⟨rfl, rfl, rfl⟩ (by omega) ?_
    rintro _ _ ⟨rfl, rfl⟩
    refine Ev.br tX2_change_8 rfl (fun c8 => ?_) (fun c8 => ?_)
    · refine Ev.blk kX2_change_22 rfl trivial ?_
      refine Ev.jmp tX2_change_23 ?_
      refine Ev.blk kX2_change_27 rfl trivial ?_
      refine Ev.br tX2_change_31 rfl (fun c31 => ?_) (fun c31 => ?_)
      · exact mid _ e1
      · exact absurd (show ¬ (-1 : Int32) = nI 0 by decide) c31
    · exact absurd (hasI_f ha) c8
theorem lgf_lt (D : Yd) (k : Nat) : lgf D k < 1000 := by
  unfold lgf
  cases h : tov (ul D k) with
  | none => decide
  | some v =>
    have hv : v < 61 := (fst1_spec h).1
    show v < 1000
    omega
theorem ev_longest (hC : KlsAt w st) (hS : SI st) (hd : 8 ≤ d) : Cl l d MX2_longest [mR 0 0] w (fun r u => CP w (P_longest st) r u) := by
  show Ev l d MX2_longest 0 [some (mR 0 0), none, none, none, none, none] [] w _
  obtain ⟨g, hY⟩ := hC.1
  have hI : YI (sN st) := hS.1.1
  have hse : de (sN st) ≤ 999 := hS.1.2.1
  have hp : hasP (ug (sN st) g) = hasP (sN st) := rfl
  unfold P_longest
  have hB := lgf_lt (sN st)
  have loop : Ev l d MX2_longest 23 [some (mR 0 0), some (mI (nI 0)), some (mI (-1)), some (mI (nI 0)), none, none] [] w (fun r u => CP w (nI (bm (lgf (sN st)) 4).1, st) r u) := by
    refine Ev.for (fun j L u => Off 1 w u ∧ ∃ z z2 : Option mV, (z = none ∨ ∃ q, z = some (mI q)) ∧ L = [some (mR 0 0), some (mI (nI (bm (lgf (sN st)) j).1)), some (mI (oM1 (bm (lgf (sN st)) j).2)), some (mI (nI j)), z, z2]) 4 ?_ ?_ 0 (Nat.zero_le _) ⟨Off.rf, none, none, Or.inl rfl, rfl⟩
    · rintro L u ⟨ho, z, z2, hz, rfl⟩
      refine Ev.blk kX2_longest_23 rfl trivial ?_
      refine Ev.br tX2_longest_25 rfl (fun c25 => ?_) (fun c25 => ?_)
      · refine Ev.blk kX2_longest_87 rfl trivial ?_
        refine Ev.iret tX2_longest_88 rfl rfl ?_
        exact ⟨rfl, ho.up, hC.mind ho (Or.inl rfl)⟩
      · exact absurd (nI_le (Nat.le_refl _) (by decide)) c25
    · rintro j L u hj ⟨ho, z, z2, hz, rfl⟩ k
      have hm := bm_lt hB j
      have hv := hB j
      obtain ⟨g2, hY2⟩ := (hC.mind ho (Or.inl rfl)).1
      have hcmp : (oM1 (bm (lgf (sN st)) j).2 < nI (lgf (sN st) j)) = (oLt (bm (lgf (sN st)) j).2 (lgf (sN st) j) = true) := oM1_lt (fun q hq => Nat.lt_trans (hm q hq) (by decide)) (Nat.lt_trans hv (by decide))
      have mid : ∀ u2, Off 1 w u2 → ∀ z4 : Int32, Ev l d MX2_longest 68 [some (mR 0 0), some (mI (nI (bm (lgf (sN st)) j).1)), some (mI (oM1 (bm (lgf (sN st)) j).2)), some (mI (nI j)), some (mI z4), z2] [mI (nI (lgf (sN st) j))] u2 (fun r u => CP w (nI (bm (lgf (sN st)) 4).1, st) r u) := by
        intro u2 ho9 z4
        refine Ev.blk kX2_longest_68 rfl trivial ?_
        refine Ev.br tX2_longest_73 rfl (fun c73 => ?_) (fun c73 => ?_)
        · rw [← Int32.not_lt, hcmp] at c73
          refine Ev.blk kX2_longest_81 rfl trivial ?_
          refine Ev.jmp tX2_longest_84 ?_
          refine k _ _ ⟨ho9, some (mI z4), some (mI (nI (lgf (sN st) j))), Or.inr ⟨z4, rfl⟩, ?_⟩
          first
            | (rw [bm_no c73, nI_add])
            | (rw [bm_yes c73, nI_add]; rfl)
        · rw [Int32.not_le, hcmp] at c73
          refine Ev.blk kX2_longest_76 rfl trivial ?_
          refine Ev.blk kX2_longest_81 rfl trivial ?_
          refine Ev.jmp tX2_longest_84 ?_
          refine k _ _ ⟨ho9, some (mI z4), some (mI (nI (lgf (sN st) j))), Or.inr ⟨z4, rfl⟩, ?_⟩
          first
            | (rw [bm_no c73, nI_add])
            | (rw [bm_yes c73, nI_add]; rfl)
      rcases hz with rfl | ⟨q, rfl⟩
      · cases ht : tov (ul (sN st) j) with
        | none =>
          have hl : lgf (sN st) j = 61 := by unfold lgf; rw [ht]; rfl
          rw [hl] at mid
          refine Ev.blk kX2_longest_23 rfl trivial ?_
          refine Ev.br tX2_longest_25 rfl (fun c25 => ?_) (fun c25 => ?_)
          · exact absurd c25 (nI_ge hj (by decide))
          · refine Ev.blk kX2_longest_28 rfl trivial ?_
            refine Ev.cV (d1 := d - 1) (ev_copyFrom (y := 1) (z := 0) (by decide) hY2 (by omega)) tX2_longest_36 qX2_107 rfl rfl (by decide) ⟨rfl, rfl, rfl⟩ (by omega) ?_
            rintro _ _ ⟨rfl, ho2, hE⟩
            rw [hS.1.can] at hE
            refine Ev.blk kX2_longest_39 rfl trivial ?_
            refine Ev.cV (d1 := d - 1) (ev_setLaw hE hj) tX2_longest_44 qX2_89 rfl rfl (by decide) ⟨rfl, rfl, rfl⟩ (by omega) ?_
            rintro _ _ ⟨rfl, ho3, hE3⟩
            refine Ev.blk kX2_longest_47 rfl trivial ?_
            refine Ev.cV (d1 := d - 1) (ev_secondsTillOver hE3 (hI.ul hj) (by omega) (by show de (sN st) + 61 < 100000; omega)) tX2_longest_49 qX2_117 rfl rfl (by decide) ⟨rfl, rfl, rfl⟩ (by omega) ?_
            rintro _ _ ⟨rfl, ho4⟩
            rw [ht]
            refine Ev.blk kX2_longest_52 rfl trivial ?_
            refine Ev.br tX2_longest_58 rfl (fun c58 => ?_) (fun c58 => ?_)
            · exact absurd rfl c58
            · refine Ev.blk kX2_longest_61 rfl trivial ?_
              refine Ev.jmp tX2_longest_63 ?_
              exact mid _ (((ho.tr ho2).tr ho3).tr ho4) _
        | some v =>
          have hv : v < 61 := (fst1_spec ht).1
          have hl : lgf (sN st) j = v := by unfold lgf; rw [ht]; rfl
          rw [hl] at mid
          refine Ev.blk kX2_longest_23 rfl trivial ?_
          refine Ev.br tX2_longest_25 rfl (fun c25 => ?_) (fun c25 => ?_)
          · exact absurd c25 (nI_ge hj (by decide))
          · refine Ev.blk kX2_longest_28 rfl trivial ?_
            refine Ev.cV (d1 := d - 1) (ev_copyFrom (y := 1) (z := 0) (by decide) hY2 (by omega)) tX2_longest_36 qX2_107 rfl rfl (by decide) ⟨rfl, rfl, rfl⟩ (by omega) ?_
            rintro _ _ ⟨rfl, ho2, hE⟩
            rw [hS.1.can] at hE
            refine Ev.blk kX2_longest_39 rfl trivial ?_
            refine Ev.cV (d1 := d - 1) (ev_setLaw hE hj) tX2_longest_44 qX2_89 rfl rfl (by decide) ⟨rfl, rfl, rfl⟩ (by omega) ?_
            rintro _ _ ⟨rfl, ho3, hE3⟩
            refine Ev.blk kX2_longest_47 rfl trivial ?_
            refine Ev.cV (d1 := d - 1) (ev_secondsTillOver hE3 (hI.ul hj) (by omega) (by show de (sN st) + 61 < 100000; omega)) tX2_longest_49 qX2_117 rfl rfl (by decide) ⟨rfl, rfl, rfl⟩ (by omega) ?_
            rintro _ _ ⟨rfl, ho4⟩
            rw [ht]
            refine Ev.blk kX2_longest_52 rfl trivial ?_
            refine Ev.br tX2_longest_58 rfl (fun c58 => ?_) (fun c58 => ?_)
            · refine Ev.blk kX2_longest_66 rfl trivial ?_
              exact mid _ (((ho.tr ho2).tr ho3).tr ho4) _
            · exact absurd (show ¬ nI v = -9 by rw [nI_m9 (by omega)]; exact id) c58
      · cases ht : tov (ul (sN st) j) with
        | none =>
          have hl : lgf (sN st) j = 61 := by unfold lgf; rw [ht]; rfl
          rw [hl] at mid
          refine Ev.blk kX2_longest_23 rfl trivial ?_
          refine Ev.br tX2_longest_25 rfl (fun c25 => ?_) (fun c25 => ?_)
          · exact absurd c25 (nI_ge hj (by decide))
          · refine Ev.blk kX2_longest_28 rfl trivial ?_
            refine Ev.cV (d1 := d - 1) (ev_copyFrom (y := 1) (z := 0) (by decide) hY2 (by omega)) tX2_longest_36 qX2_107 rfl rfl (by decide) ⟨rfl, rfl, rfl⟩ (by omega) ?_
            rintro _ _ ⟨rfl, ho2, hE⟩
            rw [hS.1.can] at hE
            refine Ev.blk kX2_longest_39 rfl trivial ?_
            refine Ev.cV (d1 := d - 1) (ev_setLaw hE hj) tX2_longest_44 qX2_89 rfl rfl (by decide) ⟨rfl, rfl, rfl⟩ (by omega) ?_
            rintro _ _ ⟨rfl, ho3, hE3⟩
            refine Ev.blk kX2_longest_47 rfl trivial ?_
            refine Ev.cV (d1 := d - 1) (ev_secondsTillOver hE3 (hI.ul hj) (by omega) (by show de (sN st) + 61 < 100000; omega)) tX2_longest_49 qX2_117 rfl rfl (by decide) ⟨rfl, rfl, rfl⟩ (by omega) ?_
            rintro _ _ ⟨rfl, ho4⟩
            rw [ht]
            refine Ev.blk kX2_longest_52 rfl trivial ?_
            refine Ev.br tX2_longest_58 rfl (fun c58 => ?_) (fun c58 => ?_)
            · exact absurd rfl c58
            · refine Ev.blk kX2_longest_61 rfl trivial ?_
              refine Ev.jmp tX2_longest_63 ?_
              exact mid _ (((ho.tr ho2).tr ho3).tr ho4) _
        | some v =>
          have hv : v < 61 := (fst1_spec ht).1
          have hl : lgf (sN st) j = v := by unfold lgf; rw [ht]; rfl
          rw [hl] at mid
          refine Ev.blk kX2_longest_23 rfl trivial ?_
          refine Ev.br tX2_longest_25 rfl (fun c25 => ?_) (fun c25 => ?_)
          · exact absurd c25 (nI_ge hj (by decide))
          · refine Ev.blk kX2_longest_28 rfl trivial ?_
            refine Ev.cV (d1 := d - 1) (ev_copyFrom (y := 1) (z := 0) (by decide) hY2 (by omega)) tX2_longest_36 qX2_107 rfl rfl (by decide) ⟨rfl, rfl, rfl⟩ (by omega) ?_
            rintro _ _ ⟨rfl, ho2, hE⟩
            rw [hS.1.can] at hE
            refine Ev.blk kX2_longest_39 rfl trivial ?_
            refine Ev.cV (d1 := d - 1) (ev_setLaw hE hj) tX2_longest_44 qX2_89 rfl rfl (by decide) ⟨rfl, rfl, rfl⟩ (by omega) ?_
            rintro _ _ ⟨rfl, ho3, hE3⟩
            refine Ev.blk kX2_longest_47 rfl trivial ?_
            refine Ev.cV (d1 := d - 1) (ev_secondsTillOver hE3 (hI.ul hj) (by omega) (by show de (sN st) + 61 < 100000; omega)) tX2_longest_49 qX2_117 rfl rfl (by decide) ⟨rfl, rfl, rfl⟩ (by omega) ?_
            rintro _ _ ⟨rfl, ho4⟩
            rw [ht]
            refine Ev.blk kX2_longest_52 rfl trivial ?_
            refine Ev.br tX2_longest_58 rfl (fun c58 => ?_) (fun c58 => ?_)
            · refine Ev.blk kX2_longest_66 rfl trivial ?_
              exact mid _ (((ho.tr ho2).tr ho3).tr ho4) _
            · exact absurd (show ¬ nI v = -9 by rw [nI_m9 (by omega)]; exact id) c58
  refine Ev.blk kX2_longest_0 rfl trivial ?_
  refine Ev.cV (d1 := d - 1) (ev_hasPlayers hY hI (by omega)) tX2_longest_4 qX2_114 rfl rfl (by decide) ⟨rfl, rfl, rfl⟩ (by omega) ?_
  rintro _ _ ⟨rfl, rfl⟩
  rw [hp]
  refine Ev.br tX2_longest_7 rfl (fun c7 => ?_) (fun c7 => ?_)
  · rw [bI_0] at c7
    rw [if_pos (bl_t c7)]
    refine Ev.blk kX2_longest_17 rfl trivial ?_
    exact loop
  · rw [bI_0, Classical.not_not] at c7
    rw [if_neg (by rw [c7]; decide)]
    refine Ev.blk kX2_longest_10 rfl trivial ?_
    refine Ev.cV (d1 := d - 1) (ev_ref hC rfl3) tX2_longest_13 qX2_39 rfl rfl (by decide) ⟨rfl, rfl, rfl⟩ (by omega) ?_
    rintro _ _ ⟨rfl, hS2, hC2⟩
    refine Ev.iret tX2_longest_16 rfl rfl ?_
    exact ⟨rfl, hS2, hC2⟩
end C4
end

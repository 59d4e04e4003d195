section
-- ===== PART A: goes FIRST, ahead of the names: the tables' words, and 'selects' of the private methods out of them =====
/-- a private method of a class that the tables say can be made, by its rows of tables_1 -/
def lw_okq (q : MethodName × Nat) : Prop := (q.1.cls ≠ "java/lang/invoke/MethodHandle" ∧ q.1.cls ≠ "java/lang/invoke/VarHandle") ∧ Cond.instantiable q.1.cls q.2 ∈ tables_1 ∧ Cond.privateMethod q.1 ∈ tables_1 ∧ Cond.instanceMethod q.1 ∈ tables_1
theorem lw_p0 : lw_okq (⟨"TouchedAndStands", "refuse", "(I)I"⟩, 9) := ⟨⟨by decide +kernel, by decide +kernel⟩, List.mem_of_getElem? (i := 14) (by decide +kernel), List.mem_of_getElem? (i := 111) (by decide +kernel), List.mem_of_getElem? (i := 112) (by decide +kernel)⟩
theorem lw_p1 : lw_okq (⟨"TouchedAndStands", "readLetters", "()I"⟩, 9) := ⟨⟨by decide +kernel, by decide +kernel⟩, List.mem_of_getElem? (i := 14) (by decide +kernel), List.mem_of_getElem? (i := 128) (by decide +kernel), List.mem_of_getElem? (i := 129) (by decide +kernel)⟩
theorem lw_p2 : lw_okq (⟨"TouchedAndStands$Letters", "shapeAt", "(I)Ljava/lang/String;"⟩, 3) := ⟨⟨by decide +kernel, by decide +kernel⟩, List.mem_of_getElem? (i := 63) (by decide +kernel), List.mem_of_getElem? (i := 147) (by decide +kernel), List.mem_of_getElem? (i := 148) (by decide +kernel)⟩
theorem lw_p3 : lw_okq (⟨"TouchedAndStands$Letters", "signAt", "(I)I"⟩, 3) := ⟨⟨by decide +kernel, by decide +kernel⟩, List.mem_of_getElem? (i := 63) (by decide +kernel), List.mem_of_getElem? (i := 151) (by decide +kernel), List.mem_of_getElem? (i := 152) (by decide +kernel)⟩
theorem lw_p4 : lw_okq (⟨"TouchedAndStands$Letters", "tellStatement", "(LTouchedAndStands$Yard;I)Z"⟩, 3) := ⟨⟨by decide +kernel, by decide +kernel⟩, List.mem_of_getElem? (i := 63) (by decide +kernel), List.mem_of_getElem? (i := 271) (by decide +kernel), List.mem_of_getElem? (i := 272) (by decide +kernel)⟩
theorem lw_p5 : lw_okq (⟨"TouchedAndStands$Letters", "kindAt", "(I)I"⟩, 3) := ⟨⟨by decide +kernel, by decide +kernel⟩, List.mem_of_getElem? (i := 63) (by decide +kernel), List.mem_of_getElem? (i := 275) (by decide +kernel), List.mem_of_getElem? (i := 276) (by decide +kernel)⟩
theorem lw_p6 : lw_okq (⟨"TouchedAndStands$Letters", "cellAt", "(I)I"⟩, 3) := ⟨⟨by decide +kernel, by decide +kernel⟩, List.mem_of_getElem? (i := 63) (by decide +kernel), List.mem_of_getElem? (i := 279) (by decide +kernel), List.mem_of_getElem? (i := 280) (by decide +kernel)⟩
theorem lw_p7 : lw_okq (⟨"TouchedAndStands$Letters", "digitAt", "(I)I"⟩, 3) := ⟨⟨by decide +kernel, by decide +kernel⟩, List.mem_of_getElem? (i := 63) (by decide +kernel), List.mem_of_getElem? (i := 283) (by decide +kernel), List.mem_of_getElem? (i := 284) (by decide +kernel)⟩
theorem lw_p8 : lw_okq (⟨"TouchedAndStands$Yard", "catcherActs", "(I)V"⟩, 11) := ⟨⟨by decide +kernel, by decide +kernel⟩, List.mem_of_getElem? (i := 22) (by decide +kernel), List.mem_of_getElem? (i := 397) (by decide +kernel), List.mem_of_getElem? (i := 398) (by decide +kernel)⟩
theorem lw_p9 : lw_okq (⟨"TouchedAndStands$Yard", "runningBits", "()I"⟩, 11) := ⟨⟨by decide +kernel, by decide +kernel⟩, List.mem_of_getElem? (i := 22) (by decide +kernel), List.mem_of_getElem? (i := 401) (by decide +kernel), List.mem_of_getElem? (i := 402) (by decide +kernel)⟩
theorem lw_p10 : lw_okq (⟨"TouchedAndStands$Yard", "playerBits", "()I"⟩, 11) := ⟨⟨by decide +kernel, by decide +kernel⟩, List.mem_of_getElem? (i := 22) (by decide +kernel), List.mem_of_getElem? (i := 405) (by decide +kernel), List.mem_of_getElem? (i := 406) (by decide +kernel)⟩
theorem lw_p11 : lw_okq (⟨"TouchedAndStands$Yard", "safeBits", "()I"⟩, 11) := ⟨⟨by decide +kernel, by decide +kernel⟩, List.mem_of_getElem? (i := 22) (by decide +kernel), List.mem_of_getElem? (i := 409) (by decide +kernel), List.mem_of_getElem? (i := 410) (by decide +kernel)⟩
theorem lw_p12 : lw_okq (⟨"TouchedAndStands$Yard", "leastBeside", "(II)I"⟩, 11) := ⟨⟨by decide +kernel, by decide +kernel⟩, List.mem_of_getElem? (i := 22) (by decide +kernel), List.mem_of_getElem? (i := 416) (by decide +kernel), List.mem_of_getElem? (i := 417) (by decide +kernel)⟩
theorem lw_p13 : lw_okq (⟨"TouchedAndStands$Yard", "guards", "(I)V"⟩, 11) := ⟨⟨by decide +kernel, by decide +kernel⟩, List.mem_of_getElem? (i := 22) (by decide +kernel), List.mem_of_getElem? (i := 421) (by decide +kernel), List.mem_of_getElem? (i := 422) (by decide +kernel)⟩
theorem lw_p14 : lw_okq (⟨"TouchedAndStands$Yard", "nearest", "(II)I"⟩, 11) := ⟨⟨by decide +kernel, by decide +kernel⟩, List.mem_of_getElem? (i := 22) (by decide +kernel), List.mem_of_getElem? (i := 425) (by decide +kernel), List.mem_of_getElem? (i := 426) (by decide +kernel)⟩
theorem lw_p15 : lw_okq (⟨"TouchedAndStands$Yard", "stepToward", "(II)V"⟩, 11) := ⟨⟨by decide +kernel, by decide +kernel⟩, List.mem_of_getElem? (i := 22) (by decide +kernel), List.mem_of_getElem? (i := 429) (by decide +kernel), List.mem_of_getElem? (i := 430) (by decide +kernel)⟩
def lw_privs_1 : List (MethodName × Nat) := [(⟨"TouchedAndStands", "refuse", "(I)I"⟩, 9), (⟨"TouchedAndStands", "readLetters", "()I"⟩, 9), (⟨"TouchedAndStands$Letters", "shapeAt", "(I)Ljava/lang/String;"⟩, 3), (⟨"TouchedAndStands$Letters", "signAt", "(I)I"⟩, 3), (⟨"TouchedAndStands$Letters", "tellStatement", "(LTouchedAndStands$Yard;I)Z"⟩, 3), (⟨"TouchedAndStands$Letters", "kindAt", "(I)I"⟩, 3), (⟨"TouchedAndStands$Letters", "cellAt", "(I)I"⟩, 3), (⟨"TouchedAndStands$Letters", "digitAt", "(I)I"⟩, 3), (⟨"TouchedAndStands$Yard", "catcherActs", "(I)V"⟩, 11), (⟨"TouchedAndStands$Yard", "runningBits", "()I"⟩, 11), (⟨"TouchedAndStands$Yard", "playerBits", "()I"⟩, 11), (⟨"TouchedAndStands$Yard", "safeBits", "()I"⟩, 11), (⟨"TouchedAndStands$Yard", "leastBeside", "(II)I"⟩, 11), (⟨"TouchedAndStands$Yard", "guards", "(I)V"⟩, 11), (⟨"TouchedAndStands$Yard", "nearest", "(II)I"⟩, 11), (⟨"TouchedAndStands$Yard", "stepToward", "(II)V"⟩, 11)]
theorem lw_r1 : ∀ q ∈ lw_privs_1, lw_okq q := List.forall_mem_cons.mpr ⟨lw_p0, List.forall_mem_cons.mpr ⟨lw_p1, List.forall_mem_cons.mpr ⟨lw_p2, List.forall_mem_cons.mpr ⟨lw_p3, List.forall_mem_cons.mpr ⟨lw_p4, List.forall_mem_cons.mpr ⟨lw_p5, List.forall_mem_cons.mpr ⟨lw_p6, List.forall_mem_cons.mpr ⟨lw_p7, List.forall_mem_cons.mpr ⟨lw_p8, List.forall_mem_cons.mpr ⟨lw_p9, List.forall_mem_cons.mpr ⟨lw_p10, List.forall_mem_cons.mpr ⟨lw_p11, List.forall_mem_cons.mpr ⟨lw_p12, List.forall_mem_cons.mpr ⟨lw_p13, List.forall_mem_cons.mpr ⟨lw_p14, List.forall_mem_cons.mpr ⟨lw_p15, fun _ h => absurd h List.not_mem_nil⟩⟩⟩⟩⟩⟩⟩⟩⟩⟩⟩⟩⟩⟩⟩⟩
theorem lw_p16 : lw_okq (⟨"TouchedAndStands$Yard", "playerActs", "(I)V"⟩, 11) := ⟨⟨by decide +kernel, by decide +kernel⟩, List.mem_of_getElem? (i := 22) (by decide +kernel), List.mem_of_getElem? (i := 436) (by decide +kernel), List.mem_of_getElem? (i := 437) (by decide +kernel)⟩
theorem lw_p17 : lw_okq (⟨"TouchedAndStands$Yard", "tire", "(II)V"⟩, 11) := ⟨⟨by decide +kernel, by decide +kernel⟩, List.mem_of_getElem? (i := 22) (by decide +kernel), List.mem_of_getElem? (i := 441) (by decide +kernel), List.mem_of_getElem? (i := 442) (by decide +kernel)⟩
theorem lw_p18 : lw_okq (⟨"TouchedAndStands$Yard", "freesOrFetches", "(I)Z"⟩, 11) := ⟨⟨by decide +kernel, by decide +kernel⟩, List.mem_of_getElem? (i := 22) (by decide +kernel), List.mem_of_getElem? (i := 447) (by decide +kernel), List.mem_of_getElem? (i := 448) (by decide +kernel)⟩
theorem lw_p19 : lw_okq (⟨"TouchedAndStands$Yard", "freeableBits", "(I)I"⟩, 11) := ⟨⟨by decide +kernel, by decide +kernel⟩, List.mem_of_getElem? (i := 22) (by decide +kernel), List.mem_of_getElem? (i := 451) (by decide +kernel), List.mem_of_getElem? (i := 452) (by decide +kernel)⟩
theorem lw_p20 : lw_okq (⟨"TouchedAndStands$Yard", "setFree", "(II)V"⟩, 11) := ⟨⟨by decide +kernel, by decide +kernel⟩, List.mem_of_getElem? (i := 22) (by decide +kernel), List.mem_of_getElem? (i := 455) (by decide +kernel), List.mem_of_getElem? (i := 456) (by decide +kernel)⟩
theorem lw_p21 : lw_okq (⟨"TouchedAndStands$Yard", "letRun", "(I)V"⟩, 11) := ⟨⟨by decide +kernel, by decide +kernel⟩, List.mem_of_getElem? (i := 22) (by decide +kernel), List.mem_of_getElem? (i := 459) (by decide +kernel), List.mem_of_getElem? (i := 460) (by decide +kernel)⟩
theorem lw_p22 : lw_okq (⟨"TouchedAndStands$Yard", "stepAway", "(I)V"⟩, 11) := ⟨⟨by decide +kernel, by decide +kernel⟩, List.mem_of_getElem? (i := 22) (by decide +kernel), List.mem_of_getElem? (i := 467) (by decide +kernel), List.mem_of_getElem? (i := 468) (by decide +kernel)⟩
theorem lw_p23 : lw_okq (⟨"TouchedAndStands", "secondsTillOver", "()I"⟩, 9) := ⟨⟨by decide +kernel, by decide +kernel⟩, List.mem_of_getElem? (i := 14) (by decide +kernel), List.mem_of_getElem? (i := 491) (by decide +kernel), List.mem_of_getElem? (i := 492) (by decide +kernel)⟩
theorem lw_p24 : lw_okq (⟨"TouchedAndStands", "standingOver", "(I)I"⟩, 9) := ⟨⟨by decide +kernel, by decide +kernel⟩, List.mem_of_getElem? (i := 14) (by decide +kernel), List.mem_of_getElem? (i := 516) (by decide +kernel), List.mem_of_getElem? (i := 517) (by decide +kernel)⟩
theorem lw_p25 : lw_okq (⟨"TouchedAndStands", "othersStanding", "(I)I"⟩, 9) := ⟨⟨by decide +kernel, by decide +kernel⟩, List.mem_of_getElem? (i := 14) (by decide +kernel), List.mem_of_getElem? (i := 549) (by decide +kernel), List.mem_of_getElem? (i := 550) (by decide +kernel)⟩
theorem lw_p26 : lw_okq (⟨"TouchedAndStands", "addCatchers", "(I)Z"⟩, 9) := ⟨⟨by decide +kernel, by decide +kernel⟩, List.mem_of_getElem? (i := 14) (by decide +kernel), List.mem_of_getElem? (i := 569) (by decide +kernel), List.mem_of_getElem? (i := 570) (by decide +kernel)⟩
theorem lw_p27 : lw_okq (⟨"TouchedAndStands", "firstUntrue", "()I"⟩, 9) := ⟨⟨by decide +kernel, by decide +kernel⟩, List.mem_of_getElem? (i := 14) (by decide +kernel), List.mem_of_getElem? (i := 615) (by decide +kernel), List.mem_of_getElem? (i := 616) (by decide +kernel)⟩
theorem lw_p28 : lw_okq (⟨"TouchedAndStandsModel", "no", "(I)I"⟩, 30) := ⟨⟨by decide +kernel, by decide +kernel⟩, List.mem_of_getElem? (i := 666) (by decide +kernel), List.mem_of_getElem? (i := 770) (by decide +kernel), List.mem_of_getElem? (i := 771) (by decide +kernel)⟩
theorem lw_p29 : lw_okq (⟨"TouchedAndStandsModel", "statement", "()Z"⟩, 30) := ⟨⟨by decide +kernel, by decide +kernel⟩, List.mem_of_getElem? (i := 666) (by decide +kernel), List.mem_of_getElem? (i := 778) (by decide +kernel), List.mem_of_getElem? (i := 779) (by decide +kernel)⟩
theorem lw_p30 : lw_okq (⟨"TouchedAndStandsModel", "next", "()I"⟩, 30) := ⟨⟨by decide +kernel, by decide +kernel⟩, List.mem_of_getElem? (i := 666) (by decide +kernel), List.mem_of_getElem? (i := 782) (by decide +kernel), List.mem_of_getElem? (i := 783) (by decide +kernel)⟩
theorem lw_p31 : lw_okq (⟨"TouchedAndStandsModel", "readsChild", "(I)Z"⟩, 30) := ⟨⟨by decide +kernel, by decide +kernel⟩, List.mem_of_getElem? (i := 666) (by decide +kernel), List.mem_of_getElem? (i := 786) (by decide +kernel), List.mem_of_getElem? (i := 787) (by decide +kernel)⟩
def lw_privs_2 : List (MethodName × Nat) := [(⟨"TouchedAndStands$Yard", "playerActs", "(I)V"⟩, 11), (⟨"TouchedAndStands$Yard", "tire", "(II)V"⟩, 11), (⟨"TouchedAndStands$Yard", "freesOrFetches", "(I)Z"⟩, 11), (⟨"TouchedAndStands$Yard", "freeableBits", "(I)I"⟩, 11), (⟨"TouchedAndStands$Yard", "setFree", "(II)V"⟩, 11), (⟨"TouchedAndStands$Yard", "letRun", "(I)V"⟩, 11), (⟨"TouchedAndStands$Yard", "stepAway", "(I)V"⟩, 11), (⟨"TouchedAndStands", "secondsTillOver", "()I"⟩, 9), (⟨"TouchedAndStands", "standingOver", "(I)I"⟩, 9), (⟨"TouchedAndStands", "othersStanding", "(I)I"⟩, 9), (⟨"TouchedAndStands", "addCatchers", "(I)Z"⟩, 9), (⟨"TouchedAndStands", "firstUntrue", "()I"⟩, 9), (⟨"TouchedAndStandsModel", "no", "(I)I"⟩, 30), (⟨"TouchedAndStandsModel", "statement", "()Z"⟩, 30), (⟨"TouchedAndStandsModel", "next", "()I"⟩, 30), (⟨"TouchedAndStandsModel", "readsChild", "(I)Z"⟩, 30)]
theorem lw_r2 : ∀ q ∈ lw_privs_2, lw_okq q := List.forall_mem_cons.mpr ⟨lw_p16, List.forall_mem_cons.mpr ⟨lw_p17, List.forall_mem_cons.mpr ⟨lw_p18, List.forall_mem_cons.mpr ⟨lw_p19, List.forall_mem_cons.mpr ⟨lw_p20, List.forall_mem_cons.mpr ⟨lw_p21, List.forall_mem_cons.mpr ⟨lw_p22, List.forall_mem_cons.mpr ⟨lw_p23, List.forall_mem_cons.mpr ⟨lw_p24, List.forall_mem_cons.mpr ⟨lw_p25, List.forall_mem_cons.mpr ⟨lw_p26, List.forall_mem_cons.mpr ⟨lw_p27, List.forall_mem_cons.mpr ⟨lw_p28, List.forall_mem_cons.mpr ⟨lw_p29, List.forall_mem_cons.mpr ⟨lw_p30, List.forall_mem_cons.mpr ⟨lw_p31, fun _ h => absurd h List.not_mem_nil⟩⟩⟩⟩⟩⟩⟩⟩⟩⟩⟩⟩⟩⟩⟩⟩
theorem lw_p32 : lw_okq (⟨"TouchedAndStandsModel", "readsDigits", "(II)Z"⟩, 30) := ⟨⟨by decide +kernel, by decide +kernel⟩, List.mem_of_getElem? (i := 666) (by decide +kernel), List.mem_of_getElem? (i := 793) (by decide +kernel), List.mem_of_getElem? (i := 794) (by decide +kernel)⟩
theorem lw_p33 : lw_okq (⟨"TouchedAndStandsModel", "passesAll", "(IZ)V"⟩, 30) := ⟨⟨by decide +kernel, by decide +kernel⟩, List.mem_of_getElem? (i := 666) (by decide +kernel), List.mem_of_getElem? (i := 800) (by decide +kernel), List.mem_of_getElem? (i := 801) (by decide +kernel)⟩
theorem lw_p34 : lw_okq (⟨"TouchedAndStandsModel", "passes", "([I)V"⟩, 30) := ⟨⟨by decide +kernel, by decide +kernel⟩, List.mem_of_getElem? (i := 666) (by decide +kernel), List.mem_of_getElem? (i := 804) (by decide +kernel), List.mem_of_getElem? (i := 805) (by decide +kernel)⟩
theorem lw_p35 : lw_okq (⟨"TouchedAndStandsModel", "passOne", "(I)I"⟩, 30) := ⟨⟨by decide +kernel, by decide +kernel⟩, List.mem_of_getElem? (i := 666) (by decide +kernel), List.mem_of_getElem? (i := 808) (by decide +kernel), List.mem_of_getElem? (i := 809) (by decide +kernel)⟩
theorem lw_p36 : lw_okq (⟨"TouchedAndStandsModel", "comes", "(I)Z"⟩, 30) := ⟨⟨by decide +kernel, by decide +kernel⟩, List.mem_of_getElem? (i := 666) (by decide +kernel), List.mem_of_getElem? (i := 812) (by decide +kernel), List.mem_of_getElem? (i := 813) (by decide +kernel)⟩
theorem lw_p37 : lw_okq (⟨"TouchedAndStandsModel", "comesChild", "(III)V"⟩, 30) := ⟨⟨by decide +kernel, by decide +kernel⟩, List.mem_of_getElem? (i := 666) (by decide +kernel), List.mem_of_getElem? (i := 819) (by decide +kernel), List.mem_of_getElem? (i := 820) (by decide +kernel)⟩
theorem lw_p38 : lw_okq (⟨"TouchedAndStandsModel", "isChild", "(I)Z"⟩, 30) := ⟨⟨by decide +kernel, by decide +kernel⟩, List.mem_of_getElem? (i := 666) (by decide +kernel), List.mem_of_getElem? (i := 823) (by decide +kernel), List.mem_of_getElem? (i := 824) (by decide +kernel)⟩
theorem lw_p39 : lw_okq (⟨"TouchedAndStandsModel", "isCatcher", "(I)Z"⟩, 30) := ⟨⟨by decide +kernel, by decide +kernel⟩, List.mem_of_getElem? (i := 666) (by decide +kernel), List.mem_of_getElem? (i := 827) (by decide +kernel), List.mem_of_getElem? (i := 828) (by decide +kernel)⟩
theorem lw_p40 : lw_okq (⟨"TouchedAndStandsModel", "goes", "()V"⟩, 30) := ⟨⟨by decide +kernel, by decide +kernel⟩, List.mem_of_getElem? (i := 666) (by decide +kernel), List.mem_of_getElem? (i := 869) (by decide +kernel), List.mem_of_getElem? (i := 870) (by decide +kernel)⟩
theorem lw_p41 : lw_okq (⟨"TouchedAndStandsModel", "goesOn", "(I)V"⟩, 30) := ⟨⟨by decide +kernel, by decide +kernel⟩, List.mem_of_getElem? (i := 666) (by decide +kernel), List.mem_of_getElem? (i := 873) (by decide +kernel), List.mem_of_getElem? (i := 874) (by decide +kernel)⟩
theorem lw_p42 : lw_okq (⟨"TouchedAndStandsModel", "catches", "(I)V"⟩, 30) := ⟨⟨by decide +kernel, by decide +kernel⟩, List.mem_of_getElem? (i := 666) (by decide +kernel), List.mem_of_getElem? (i := 877) (by decide +kernel), List.mem_of_getElem? (i := 878) (by decide +kernel)⟩
theorem lw_p43 : lw_okq (⟨"TouchedAndStandsModel", "touches", "(I)Z"⟩, 30) := ⟨⟨by decide +kernel, by decide +kernel⟩, List.mem_of_getElem? (i := 666) (by decide +kernel), List.mem_of_getElem? (i := 881) (by decide +kernel), List.mem_of_getElem? (i := 882) (by decide +kernel)⟩
theorem lw_p44 : lw_okq (⟨"TouchedAndStandsModel", "isRunner", "(I)Z"⟩, 30) := ⟨⟨by decide +kernel, by decide +kernel⟩, List.mem_of_getElem? (i := 666) (by decide +kernel), List.mem_of_getElem? (i := 885) (by decide +kernel), List.mem_of_getElem? (i := 886) (by decide +kernel)⟩
theorem lw_p45 : lw_okq (⟨"TouchedAndStandsModel", "nearest", "(II)I"⟩, 30) := ⟨⟨by decide +kernel, by decide +kernel⟩, List.mem_of_getElem? (i := 666) (by decide +kernel), List.mem_of_getElem? (i := 892) (by decide +kernel), List.mem_of_getElem? (i := 893) (by decide +kernel)⟩
theorem lw_p46 : lw_okq (⟨"TouchedAndStandsModel", "hunts", "(I)I"⟩, 30) := ⟨⟨by decide +kernel, by decide +kernel⟩, List.mem_of_getElem? (i := 666) (by decide +kernel), List.mem_of_getElem? (i := 896) (by decide +kernel), List.mem_of_getElem? (i := 897) (by decide +kernel)⟩
theorem lw_p47 : lw_okq (⟨"TouchedAndStandsModel", "runsTo", "(I)I"⟩, 30) := ⟨⟨by decide +kernel, by decide +kernel⟩, List.mem_of_getElem? (i := 666) (by decide +kernel), List.mem_of_getElem? (i := 909) (by decide +kernel), List.mem_of_getElem? (i := 910) (by decide +kernel)⟩
def lw_privs_3 : List (MethodName × Nat) := [(⟨"TouchedAndStandsModel", "readsDigits", "(II)Z"⟩, 30), (⟨"TouchedAndStandsModel", "passesAll", "(IZ)V"⟩, 30), (⟨"TouchedAndStandsModel", "passes", "([I)V"⟩, 30), (⟨"TouchedAndStandsModel", "passOne", "(I)I"⟩, 30), (⟨"TouchedAndStandsModel", "comes", "(I)Z"⟩, 30), (⟨"TouchedAndStandsModel", "comesChild", "(III)V"⟩, 30), (⟨"TouchedAndStandsModel", "isChild", "(I)Z"⟩, 30), (⟨"TouchedAndStandsModel", "isCatcher", "(I)Z"⟩, 30), (⟨"TouchedAndStandsModel", "goes", "()V"⟩, 30), (⟨"TouchedAndStandsModel", "goesOn", "(I)V"⟩, 30), (⟨"TouchedAndStandsModel", "catches", "(I)V"⟩, 30), (⟨"TouchedAndStandsModel", "touches", "(I)Z"⟩, 30), (⟨"TouchedAndStandsModel", "isRunner", "(I)Z"⟩, 30), (⟨"TouchedAndStandsModel", "nearest", "(II)I"⟩, 30), (⟨"TouchedAndStandsModel", "hunts", "(I)I"⟩, 30), (⟨"TouchedAndStandsModel", "runsTo", "(I)I"⟩, 30)]
theorem lw_r3 : ∀ q ∈ lw_privs_3, lw_okq q := List.forall_mem_cons.mpr ⟨lw_p32, List.forall_mem_cons.mpr ⟨lw_p33, List.forall_mem_cons.mpr ⟨lw_p34, List.forall_mem_cons.mpr ⟨lw_p35, List.forall_mem_cons.mpr ⟨lw_p36, List.forall_mem_cons.mpr ⟨lw_p37, List.forall_mem_cons.mpr ⟨lw_p38, List.forall_mem_cons.mpr ⟨lw_p39, List.forall_mem_cons.mpr ⟨lw_p40, List.forall_mem_cons.mpr ⟨lw_p41, List.forall_mem_cons.mpr ⟨lw_p42, List.forall_mem_cons.mpr ⟨lw_p43, List.forall_mem_cons.mpr ⟨lw_p44, List.forall_mem_cons.mpr ⟨lw_p45, List.forall_mem_cons.mpr ⟨lw_p46, List.forall_mem_cons.mpr ⟨lw_p47, fun _ h => absurd h List.not_mem_nil⟩⟩⟩⟩⟩⟩⟩⟩⟩⟩⟩⟩⟩⟩⟩⟩
theorem lw_p48 : lw_okq (⟨"TouchedAndStandsModel", "farFromCatchers", "(I)I"⟩, 30) := ⟨⟨by decide +kernel, by decide +kernel⟩, List.mem_of_getElem? (i := 666) (by decide +kernel), List.mem_of_getElem? (i := 913) (by decide +kernel), List.mem_of_getElem? (i := 914) (by decide +kernel)⟩
theorem lw_p49 : lw_okq (⟨"TouchedAndStandsModel", "away", "(I)I"⟩, 30) := ⟨⟨by decide +kernel, by decide +kernel⟩, List.mem_of_getElem? (i := 666) (by decide +kernel), List.mem_of_getElem? (i := 917) (by decide +kernel), List.mem_of_getElem? (i := 918) (by decide +kernel)⟩
theorem lw_p50 : lw_okq (⟨"TouchedAndStandsModel", "nearMay", "(I)I"⟩, 30) := ⟨⟨by decide +kernel, by decide +kernel⟩, List.mem_of_getElem? (i := 666) (by decide +kernel), List.mem_of_getElem? (i := 921) (by decide +kernel), List.mem_of_getElem? (i := 922) (by decide +kernel)⟩
theorem lw_p51 : lw_okq (⟨"TouchedAndStandsModel", "doesMay", "(II)Z"⟩, 30) := ⟨⟨by decide +kernel, by decide +kernel⟩, List.mem_of_getElem? (i := 666) (by decide +kernel), List.mem_of_getElem? (i := 925) (by decide +kernel), List.mem_of_getElem? (i := 926) (by decide +kernel)⟩
theorem lw_p52 : lw_okq (⟨"TouchedAndStandsModel", "freesAll", "(II)V"⟩, 30) := ⟨⟨by decide +kernel, by decide +kernel⟩, List.mem_of_getElem? (i := 666) (by decide +kernel), List.mem_of_getElem? (i := 929) (by decide +kernel), List.mem_of_getElem? (i := 930) (by decide +kernel)⟩
theorem lw_p53 : lw_okq (⟨"TouchedAndStandsModel", "free", "(II)V"⟩, 30) := ⟨⟨by decide +kernel, by decide +kernel⟩, List.mem_of_getElem? (i := 666) (by decide +kernel), List.mem_of_getElem? (i := 933) (by decide +kernel), List.mem_of_getElem? (i := 934) (by decide +kernel)⟩
theorem lw_p54 : lw_okq (⟨"TouchedAndStandsModel", "nearestMay", "(I)I"⟩, 30) := ⟨⟨by decide +kernel, by decide +kernel⟩, List.mem_of_getElem? (i := 666) (by decide +kernel), List.mem_of_getElem? (i := 937) (by decide +kernel), List.mem_of_getElem? (i := 938) (by decide +kernel)⟩
theorem lw_p55 : lw_okq (⟨"TouchedAndStandsModel", "goesInMind", "(II)V"⟩, 30) := ⟨⟨by decide +kernel, by decide +kernel⟩, List.mem_of_getElem? (i := 666) (by decide +kernel), List.mem_of_getElem? (i := 945) (by decide +kernel), List.mem_of_getElem? (i := 946) (by decide +kernel)⟩
theorem lw_p56 : lw_okq (⟨"TouchedAndStandsModel", "standBits", "()I"⟩, 30) := ⟨⟨by decide +kernel, by decide +kernel⟩, List.mem_of_getElem? (i := 666) (by decide +kernel), List.mem_of_getElem? (i := 949) (by decide +kernel), List.mem_of_getElem? (i := 950) (by decide +kernel)⟩
theorem lw_p57 : lw_okq (⟨"TouchedAndStandsModel", "runnersMany", "()I"⟩, 30) := ⟨⟨by decide +kernel, by decide +kernel⟩, List.mem_of_getElem? (i := 666) (by decide +kernel), List.mem_of_getElem? (i := 964) (by decide +kernel), List.mem_of_getElem? (i := 965) (by decide +kernel)⟩
theorem lw_p58 : lw_okq (⟨"TouchedAndStandsModel", "overIn", "()I"⟩, 30) := ⟨⟨by decide +kernel, by decide +kernel⟩, List.mem_of_getElem? (i := 666) (by decide +kernel), List.mem_of_getElem? (i := 968) (by decide +kernel), List.mem_of_getElem? (i := 969) (by decide +kernel)⟩
theorem lw_p59 : lw_okq (⟨"TouchedAndStandsModel", "lowest", "(I)J"⟩, 30) := ⟨⟨by decide +kernel, by decide +kernel⟩, List.mem_of_getElem? (i := 666) (by decide +kernel), List.mem_of_getElem? (i := 976) (by decide +kernel), List.mem_of_getElem? (i := 977) (by decide +kernel)⟩
theorem lw_p60 : lw_okq (⟨"TouchedAndStandsModel", "lower", "(I)I"⟩, 30) := ⟨⟨by decide +kernel, by decide +kernel⟩, List.mem_of_getElem? (i := 666) (by decide +kernel), List.mem_of_getElem? (i := 1000) (by decide +kernel), List.mem_of_getElem? (i := 1001) (by decide +kernel)⟩
theorem lw_p61 : lw_okq (⟨"TouchedAndStandsModel", "othersStand", "(I)I"⟩, 30) := ⟨⟨by decide +kernel, by decide +kernel⟩, List.mem_of_getElem? (i := 666) (by decide +kernel), List.mem_of_getElem? (i := 1005) (by decide +kernel), List.mem_of_getElem? (i := 1006) (by decide +kernel)⟩
theorem lw_p62 : lw_okq (⟨"TouchedAndStandsModel", "standAfterChange", "(III)I"⟩, 30) := ⟨⟨by decide +kernel, by decide +kernel⟩, List.mem_of_getElem? (i := 666) (by decide +kernel), List.mem_of_getElem? (i := 1021) (by decide +kernel), List.mem_of_getElem? (i := 1022) (by decide +kernel)⟩
theorem lw_p63 : lw_okq (⟨"TouchedAndStandsModel", "changes", "(II)V"⟩, 30) := ⟨⟨by decide +kernel, by decide +kernel⟩, List.mem_of_getElem? (i := 666) (by decide +kernel), List.mem_of_getElem? (i := 1025) (by decide +kernel), List.mem_of_getElem? (i := 1026) (by decide +kernel)⟩
def lw_privs_4 : List (MethodName × Nat) := [(⟨"TouchedAndStandsModel", "farFromCatchers", "(I)I"⟩, 30), (⟨"TouchedAndStandsModel", "away", "(I)I"⟩, 30), (⟨"TouchedAndStandsModel", "nearMay", "(I)I"⟩, 30), (⟨"TouchedAndStandsModel", "doesMay", "(II)Z"⟩, 30), (⟨"TouchedAndStandsModel", "freesAll", "(II)V"⟩, 30), (⟨"TouchedAndStandsModel", "free", "(II)V"⟩, 30), (⟨"TouchedAndStandsModel", "nearestMay", "(I)I"⟩, 30), (⟨"TouchedAndStandsModel", "goesInMind", "(II)V"⟩, 30), (⟨"TouchedAndStandsModel", "standBits", "()I"⟩, 30), (⟨"TouchedAndStandsModel", "runnersMany", "()I"⟩, 30), (⟨"TouchedAndStandsModel", "overIn", "()I"⟩, 30), (⟨"TouchedAndStandsModel", "lowest", "(I)J"⟩, 30), (⟨"TouchedAndStandsModel", "lower", "(I)I"⟩, 30), (⟨"TouchedAndStandsModel", "othersStand", "(I)I"⟩, 30), (⟨"TouchedAndStandsModel", "standAfterChange", "(III)I"⟩, 30), (⟨"TouchedAndStandsModel", "changes", "(II)V"⟩, 30)]
theorem lw_r4 : ∀ q ∈ lw_privs_4, lw_okq q := List.forall_mem_cons.mpr ⟨lw_p48, List.forall_mem_cons.mpr ⟨lw_p49, List.forall_mem_cons.mpr ⟨lw_p50, List.forall_mem_cons.mpr ⟨lw_p51, List.forall_mem_cons.mpr ⟨lw_p52, List.forall_mem_cons.mpr ⟨lw_p53, List.forall_mem_cons.mpr ⟨lw_p54, List.forall_mem_cons.mpr ⟨lw_p55, List.forall_mem_cons.mpr ⟨lw_p56, List.forall_mem_cons.mpr ⟨lw_p57, List.forall_mem_cons.mpr ⟨lw_p58, List.forall_mem_cons.mpr ⟨lw_p59, List.forall_mem_cons.mpr ⟨lw_p60, List.forall_mem_cons.mpr ⟨lw_p61, List.forall_mem_cons.mpr ⟨lw_p62, List.forall_mem_cons.mpr ⟨lw_p63, fun _ h => absurd h List.not_mem_nil⟩⟩⟩⟩⟩⟩⟩⟩⟩⟩⟩⟩⟩⟩⟩⟩
theorem lw_p64 : lw_okq (⟨"TouchedAndStandsModel", "isMayed", "(I)Z"⟩, 30) := ⟨⟨by decide +kernel, by decide +kernel⟩, List.mem_of_getElem? (i := 666) (by decide +kernel), List.mem_of_getElem? (i := 1045) (by decide +kernel), List.mem_of_getElem? (i := 1046) (by decide +kernel)⟩
theorem lw_p65 : lw_okq (⟨"TouchedAndStandsModel", "isWatched", "(II)Z"⟩, 30) := ⟨⟨by decide +kernel, by decide +kernel⟩, List.mem_of_getElem? (i := 666) (by decide +kernel), List.mem_of_getElem? (i := 1049) (by decide +kernel), List.mem_of_getElem? (i := 1050) (by decide +kernel)⟩
theorem lw_p66 : lw_okq (⟨"TouchedAndStandsModel", "wrongAt", "()I"⟩, 30) := ⟨⟨by decide +kernel, by decide +kernel⟩, List.mem_of_getElem? (i := 666) (by decide +kernel), List.mem_of_getElem? (i := 1061) (by decide +kernel), List.mem_of_getElem? (i := 1062) (by decide +kernel)⟩
def lw_privs_5 : List (MethodName × Nat) := [(⟨"TouchedAndStandsModel", "isMayed", "(I)Z"⟩, 30), (⟨"TouchedAndStandsModel", "isWatched", "(II)Z"⟩, 30), (⟨"TouchedAndStandsModel", "wrongAt", "()I"⟩, 30)]
theorem lw_r5 : ∀ q ∈ lw_privs_5, lw_okq q := List.forall_mem_cons.mpr ⟨lw_p64, List.forall_mem_cons.mpr ⟨lw_p65, List.forall_mem_cons.mpr ⟨lw_p66, fun _ h => absurd h List.not_mem_nil⟩⟩⟩
def lw_privs : List (MethodName × Nat) := lw_privs_1 ++ (lw_privs_2 ++ (lw_privs_3 ++ (lw_privs_4 ++ (lw_privs_5))))
def lw_tbl : List Cond := k2_sels lw_privs ++ tables_1
theorem lw_privs_ok : ∀ q ∈ lw_privs, lw_okq q := by
  show ∀ q ∈ lw_privs_1 ++ (lw_privs_2 ++ (lw_privs_3 ++ (lw_privs_4 ++ (lw_privs_5)))), lw_okq q
  exact List.forall_mem_append.mpr ⟨lw_r1, List.forall_mem_append.mpr ⟨lw_r2, List.forall_mem_append.mpr ⟨lw_r3, List.forall_mem_append.mpr ⟨lw_r4, lw_r5⟩⟩⟩⟩
end
section
theorem goodIn_r {big : List Cond} (ws : List Cond) (ps : List Nat) (hp : ws = ps.filterMap (fun i => big[i]?)) (h : ws.all goodWord = true) : GoodIn big ws := by
  intro w hw
  have h1 := List.all_eq_true.mp h w hw
  rw [hp] at hw
  obtain ⟨i, -, hi⟩ := List.mem_filterMap.mp hw
  have hm : w ∈ big := by first | exact List.mem_of_getElem? hi | exact List.getElem?_mem hi
  exact ⟨hm, good_of_word h1⟩
theorem goodIn_app {big a b : List Cond} (ha : GoodIn big a) (hb : GoodIn big b) : GoodIn big (a ++ b) := fun w h => (List.mem_append.mp h).elim (ha w) (hb w)
theorem goodIn_ca {big a b : List Cond} {c : Cond} (ha : GoodIn big (c :: a)) (hb : GoodIn big b) : GoodIn big (c :: (a ++ b)) := fun w h => (List.mem_cons.mp h).elim (fun e => ha w (List.mem_cons.mpr (Or.inl e))) (fun h => (List.mem_append.mp h).elim (fun h => ha w (List.mem_cons.mpr (Or.inr h))) (hb w))
theorem goodIn_sub {big ws : List Cond} (hm : ∀ w ∈ ws, w ∈ big) (h : ws.all goodWord = true) : GoodIn big ws := fun w hw => ⟨hm w hw, good_of_word (List.all_eq_true.mp h w hw)⟩
def RX0 : String := "TouchedAndStands$Letters"
def TX0 : u_T := fun k => match k with
  | 0 => ("TouchedAndStands$Letters", "signs", "[I", true)
  | 1 => ("TouchedAndStands$Letters", "heard", "I", false)
  | _ => ("TouchedAndStands$Letters", "statements", "I", false)
def tyX0 : Nat → FieldType := fun k => match k with
  | 0 => .array .int
  | 1 => .int
  | _ => .int
abbrev wsX00 : List Cond := u_ws RX0 TX0 3
theorem nmX0 : ∀ a, a < 3 → ∀ b, b < 3 → a ≠ b → (TX0 a).2.1 ≠ (TX0 b).2.1 := by decide +kernel
theorem tyX0_ok : ∀ k, k < 3 → parseFieldDescriptor (TX0 k).2.2.1 = some (tyX0 k) := by decide +kernel
abbrev cX0_init : ByteArray := prog_2_method_1_code
def yX0_init : MethodName := ⟨RX0, "<init>", "()V"⟩
abbrev cX0_hasRoom : ByteArray := prog_2_method_2_code
def yX0_hasRoom : MethodName := ⟨RX0, "hasRoom", "()Z"⟩
abbrev cX0_size : ByteArray := prog_2_method_3_code
def yX0_size : MethodName := ⟨RX0, "size", "()I"⟩
abbrev cX0_statementCount : ByteArray := prog_2_method_4_code
def yX0_statementCount : MethodName := ⟨RX0, "statementCount", "()I"⟩
abbrev cX0_hear : ByteArray := prog_2_method_5_code
def yX0_hear : MethodName := ⟨RX0, "hear", "(I)I"⟩
abbrev cX0_forget : ByteArray := prog_2_method_6_code
def yX0_forget : MethodName := ⟨RX0, "forget", "()V"⟩
abbrev cX0_firstMisfit : ByteArray := prog_2_method_7_code
def yX0_firstMisfit : MethodName := ⟨RX0, "firstMisfit", "()I"⟩
abbrev cX0_tellTo : ByteArray := prog_2_method_8_code
def yX0_tellTo : MethodName := ⟨RX0, "tellTo", "(LTouchedAndStands$Yard;)I"⟩
abbrev cX0_tellStatement : ByteArray := prog_2_method_9_code
def yX0_tellStatement : MethodName := ⟨RX0, "tellStatement", "(LTouchedAndStands$Yard;I)Z"⟩
abbrev cX0_shapeAt : ByteArray := prog_2_method_10_code
def yX0_shapeAt : MethodName := ⟨RX0, "shapeAt", "(I)Ljava/lang/String;"⟩
abbrev cX0_fitsShape : ByteArray := prog_2_method_11_code
def yX0_fitsShape : MethodName := ⟨RX0, "fitsShape", "(IC)Z"⟩
abbrev cX0_signAt : ByteArray := prog_2_method_12_code
def yX0_signAt : MethodName := ⟨RX0, "signAt", "(I)I"⟩
abbrev cX0_kindAt : ByteArray := prog_2_method_13_code
def yX0_kindAt : MethodName := ⟨RX0, "kindAt", "(I)I"⟩
abbrev cX0_digitAt : ByteArray := prog_2_method_14_code
def yX0_digitAt : MethodName := ⟨RX0, "digitAt", "(I)I"⟩
abbrev cX0_cellAt : ByteArray := prog_2_method_15_code
def yX0_cellAt : MethodName := ⟨RX0, "cellAt", "(I)I"⟩
def RX1 : String := "TouchedAndStands$Yard"
def TX1 : u_T := fun k => match k with
  | 0 => ("TouchedAndStands$Yard", "kinds", "[I", true)
  | 1 => ("TouchedAndStands$Yard", "cells", "[I", true)
  | 2 => ("TouchedAndStands$Yard", "friends", "[I", true)
  | 3 => ("TouchedAndStands$Yard", "tired", "[I", true)
  | 4 => ("TouchedAndStands$Yard", "freed", "[I", true)
  | 5 => ("TouchedAndStands$Yard", "children", "I", false)
  | 6 => ("TouchedAndStands$Yard", "standing", "I", false)
  | 7 => ("TouchedAndStands$Yard", "law", "I", false)
  | 8 => ("TouchedAndStands$Yard", "second", "I", false)
  | 9 => ("TouchedAndStands$Yard", "freeings", "I", false)
  | _ => ("TouchedAndStands$Yard", "aside", "I", false)
def tyX1 : Nat → FieldType := fun k => match k with
  | 0 => .array .int
  | 1 => .array .int
  | 2 => .array .int
  | 3 => .array .int
  | 4 => .array .int
  | 5 => .int
  | 6 => .int
  | 7 => .int
  | 8 => .int
  | 9 => .int
  | _ => .int
abbrev wsX10 : List Cond := u_ws RX1 TX1 11
theorem nmX1 : ∀ a, a < 11 → ∀ b, b < 11 → a ≠ b → (TX1 a).2.1 ≠ (TX1 b).2.1 := by decide +kernel
theorem tyX1_ok : ∀ k, k < 11 → parseFieldDescriptor (TX1 k).2.2.1 = some (tyX1 k) := by decide +kernel
abbrev cX1_init : ByteArray := prog_3_method_1_code
def yX1_init : MethodName := ⟨RX1, "<init>", "()V"⟩
abbrev cX1_copyFrom : ByteArray := prog_3_method_2_code
def yX1_copyFrom : MethodName := ⟨RX1, "copyFrom", "(LTouchedAndStands$Yard;)V"⟩
abbrev cX1_isCell : ByteArray := prog_3_method_3_code
def yX1_isCell : MethodName := ⟨RX1, "isCell", "(I)Z"⟩
abbrev cX1_apart : ByteArray := prog_3_method_4_code
def yX1_apart : MethodName := ⟨RX1, "apart", "(II)I"⟩
abbrev cX1_has : ByteArray := prog_3_method_5_code
def yX1_has : MethodName := ⟨RX1, "has", "(I)Z"⟩
abbrev cX1_kindOf : ByteArray := prog_3_method_6_code
def yX1_kindOf : MethodName := ⟨RX1, "kindOf", "(I)I"⟩
abbrev cX1_cellOf : ByteArray := prog_3_method_7_code
def yX1_cellOf : MethodName := ⟨RX1, "cellOf", "(I)I"⟩
abbrev cX1_friendOf : ByteArray := prog_3_method_8_code
def yX1_friendOf : MethodName := ⟨RX1, "friendOf", "(I)I"⟩
abbrev cX1_tiredOf : ByteArray := prog_3_method_9_code
def yX1_tiredOf : MethodName := ⟨RX1, "tiredOf", "(I)I"⟩
abbrev cX1_isStanding : ByteArray := prog_3_method_10_code
def yX1_isStanding : MethodName := ⟨RX1, "isStanding", "(I)Z"⟩
abbrev cX1_isCatcher : ByteArray := prog_3_method_11_code
def yX1_isCatcher : MethodName := ⟨RX1, "isCatcher", "(I)Z"⟩
abbrev cX1_freedBy : ByteArray := prog_3_method_12_code
def yX1_freedBy : MethodName := ⟨RX1, "freedBy", "(II)I"⟩
abbrev cX1_childrenCount : ByteArray := prog_3_method_13_code
def yX1_childrenCount : MethodName := ⟨RX1, "childrenCount", "()I"⟩
abbrev cX1_standingBits : ByteArray := prog_3_method_14_code
def yX1_standingBits : MethodName := ⟨RX1, "standingBits", "()I"⟩
abbrev cX1_standingCount : ByteArray := prog_3_method_15_code
def yX1_standingCount : MethodName := ⟨RX1, "standingCount", "()I"⟩
abbrev cX1_lawNow : ByteArray := prog_3_method_16_code
def yX1_lawNow : MethodName := ⟨RX1, "lawNow", "()I"⟩
abbrev cX1_secondNow : ByteArray := prog_3_method_17_code
def yX1_secondNow : MethodName := ⟨RX1, "secondNow", "()I"⟩
abbrev cX1_freeingsSinceCopied : ByteArray := prog_3_method_18_code
def yX1_freeingsSinceCopied : MethodName := ⟨RX1, "freeingsSinceCopied", "()I"⟩
abbrev cX1_catcherCount : ByteArray := prog_3_method_19_code
def yX1_catcherCount : MethodName := ⟨RX1, "catcherCount", "()I"⟩
abbrev cX1_tiredSum : ByteArray := prog_3_method_20_code
def yX1_tiredSum : MethodName := ⟨RX1, "tiredSum", "()I"⟩
abbrev cX1_freedSum : ByteArray := prog_3_method_21_code
def yX1_freedSum : MethodName := ⟨RX1, "freedSum", "()I"⟩
abbrev cX1_hasPlayers : ByteArray := prog_3_method_22_code
def yX1_hasPlayers : MethodName := ⟨RX1, "hasPlayers", "()Z"⟩
abbrev cX1_isOver : ByteArray := prog_3_method_23_code
def yX1_isOver : MethodName := ⟨RX1, "isOver", "()Z"⟩
abbrev cX1_add : ByteArray := prog_3_method_24_code
def yX1_add : MethodName := ⟨RX1, "add", "(III)Z"⟩
abbrev cX1_turnOver : ByteArray := prog_3_method_25_code
def yX1_turnOver : MethodName := ⟨RX1, "turnOver", "(I)Z"⟩
abbrev cX1_setLaw : ByteArray := prog_3_method_26_code
def yX1_setLaw : MethodName := ⟨RX1, "setLaw", "(I)Z"⟩
abbrev cX1_put : ByteArray := prog_3_method_27_code
def yX1_put : MethodName := ⟨RX1, "put", "(II)Z"⟩
abbrev cX1_setKind : ByteArray := prog_3_method_28_code
def yX1_setKind : MethodName := ⟨RX1, "setKind", "(II)V"⟩
abbrev cX1_setAside : ByteArray := prog_3_method_29_code
def yX1_setAside : MethodName := ⟨RX1, "setAside", "(I)V"⟩
abbrev cX1_exchange : ByteArray := prog_3_method_30_code
def yX1_exchange : MethodName := ⟨RX1, "exchange", "(II)V"⟩
abbrev cX1_scatter : ByteArray := prog_3_method_31_code
def yX1_scatter : MethodName := ⟨RX1, "scatter", "(I)I"⟩
abbrev cX1_couldFree : ByteArray := prog_3_method_32_code
def yX1_couldFree : MethodName := ⟨RX1, "couldFree", "(I)I"⟩
abbrev cX1_hasFreerFor : ByteArray := prog_3_method_33_code
def yX1_hasFreerFor : MethodName := ⟨RX1, "hasFreerFor", "(I)Z"⟩
abbrev cX1_catcherApart : ByteArray := prog_3_method_34_code
def yX1_catcherApart : MethodName := ⟨RX1, "catcherApart", "(I)I"⟩
abbrev cX1_passMany : ByteArray := prog_3_method_35_code
def yX1_passMany : MethodName := ⟨RX1, "passMany", "(I)V"⟩
abbrev cX1_pass : ByteArray := prog_3_method_36_code
def yX1_pass : MethodName := ⟨RX1, "pass", "()V"⟩
abbrev cX1_playerActs : ByteArray := prog_3_method_37_code
def yX1_playerActs : MethodName := ⟨RX1, "playerActs", "(I)V"⟩
abbrev cX1_tire : ByteArray := prog_3_method_38_code
def yX1_tire : MethodName := ⟨RX1, "tire", "(II)V"⟩
abbrev cX1_freesOrFetches : ByteArray := prog_3_method_39_code
def yX1_freesOrFetches : MethodName := ⟨RX1, "freesOrFetches", "(I)Z"⟩
abbrev cX1_setFree : ByteArray := prog_3_method_40_code
def yX1_setFree : MethodName := ⟨RX1, "setFree", "(II)V"⟩
abbrev cX1_catcherActs : ByteArray := prog_3_method_41_code
def yX1_catcherActs : MethodName := ⟨RX1, "catcherActs", "(I)V"⟩
abbrev cX1_guards : ByteArray := prog_3_method_42_code
def yX1_guards : MethodName := ⟨RX1, "guards", "(I)V"⟩
abbrev cX1_letRun : ByteArray := prog_3_method_43_code
def yX1_letRun : MethodName := ⟨RX1, "letRun", "(I)V"⟩
abbrev cX1_leastBeside : ByteArray := prog_3_method_44_code
def yX1_leastBeside : MethodName := ⟨RX1, "leastBeside", "(II)I"⟩
abbrev cX1_nearest : ByteArray := prog_3_method_45_code
def yX1_nearest : MethodName := ⟨RX1, "nearest", "(II)I"⟩
abbrev cX1_playerBits : ByteArray := prog_3_method_46_code
def yX1_playerBits : MethodName := ⟨RX1, "playerBits", "()I"⟩
abbrev cX1_runningBits : ByteArray := prog_3_method_47_code
def yX1_runningBits : MethodName := ⟨RX1, "runningBits", "()I"⟩
abbrev cX1_safeBits : ByteArray := prog_3_method_48_code
def yX1_safeBits : MethodName := ⟨RX1, "safeBits", "()I"⟩
abbrev cX1_freeableBits : ByteArray := prog_3_method_49_code
def yX1_freeableBits : MethodName := ⟨RX1, "freeableBits", "(I)I"⟩
abbrev cX1_isEdge : ByteArray := prog_3_method_50_code
def yX1_isEdge : MethodName := ⟨RX1, "isEdge", "(I)Z"⟩
abbrev cX1_stepAway : ByteArray := prog_3_method_51_code
def yX1_stepAway : MethodName := ⟨RX1, "stepAway", "(I)V"⟩
abbrev cX1_stepToward : ByteArray := prog_3_method_52_code
def yX1_stepToward : MethodName := ⟨RX1, "stepToward", "(II)V"⟩
abbrev cX1_cellBehind : ByteArray := prog_3_method_53_code
def yX1_cellBehind : MethodName := ⟨RX1, "cellBehind", "(II)I"⟩
def RX2 : String := "TouchedAndStands"
def TX2 : u_T := fun k => match k with
  | 0 => ("TouchedAndStands", "now", "LTouchedAndStands$Yard;", true)
  | 1 => ("TouchedAndStands", "mind", "LTouchedAndStands$Yard;", true)
  | 2 => ("TouchedAndStands", "branch", "LTouchedAndStands$Yard;", true)
  | 3 => ("TouchedAndStands", "kept", "LTouchedAndStands$Yard;", true)
  | 4 => ("TouchedAndStands", "isKept", "Z", false)
  | 5 => ("TouchedAndStands", "told", "LTouchedAndStands$Letters;", true)
  | 6 => ("TouchedAndStands", "numbers", "[I", true)
  | 7 => ("TouchedAndStands", "numbersTold", "I", false)
  | _ => ("TouchedAndStands", "refused", "[I", true)
def tyX2 : Nat → FieldType := fun k => match k with
  | 0 => .object "TouchedAndStands$Yard"
  | 1 => .object "TouchedAndStands$Yard"
  | 2 => .object "TouchedAndStands$Yard"
  | 3 => .object "TouchedAndStands$Yard"
  | 4 => .boolean
  | 5 => .object "TouchedAndStands$Letters"
  | 6 => .array .int
  | 7 => .int
  | _ => .array .int
abbrev wsX20 : List Cond := u_ws RX2 TX2 9
theorem nmX2 : ∀ a, a < 9 → ∀ b, b < 9 → a ≠ b → (TX2 a).2.1 ≠ (TX2 b).2.1 := by decide +kernel
theorem tyX2_ok : ∀ k, k < 9 → parseFieldDescriptor (TX2 k).2.2.1 = some (tyX2 k) := by decide +kernel
abbrev cX2_init : ByteArray := prog_1_method_1_code
def yX2_init : MethodName := ⟨RX2, "<init>", "()V"⟩
abbrev cX2_letter : ByteArray := prog_1_method_2_code
def yX2_letter : MethodName := ⟨RX2, "letter", "(I)I"⟩
abbrev cX2_yard : ByteArray := prog_1_method_3_code
def yX2_yard : MethodName := ⟨RX2, "yard", "()I"⟩
abbrev cX2_child : ByteArray := prog_1_method_4_code
def yX2_child : MethodName := ⟨RX2, "child", "(II)I"⟩
abbrev cX2_go : ByteArray := prog_1_method_5_code
def yX2_go : MethodName := ⟨RX2, "go", "(II)I"⟩
abbrev cX2_touch : ByteArray := prog_1_method_6_code
def yX2_touch : MethodName := ⟨RX2, "touch", "(I)I"⟩
abbrev cX2_law : ByteArray := prog_1_method_7_code
def yX2_law : MethodName := ⟨RX2, "law", "(I)I"⟩
abbrev cX2_far : ByteArray := prog_1_method_8_code
def yX2_far : MethodName := ⟨RX2, "far", "(II)I"⟩
abbrev cX2_seconds : ByteArray := prog_1_method_9_code
def yX2_seconds : MethodName := ⟨RX2, "seconds", "(I)I"⟩
abbrev cX2_stand : ByteArray := prog_1_method_10_code
def yX2_stand : MethodName := ⟨RX2, "stand", "(I)I"⟩
abbrev cX2_where : ByteArray := prog_1_method_11_code
def yX2_where : MethodName := ⟨RX2, "where", "(II)I"⟩
abbrev cX2_over : ByteArray := prog_1_method_12_code
def yX2_over : MethodName := ⟨RX2, "over", "()I"⟩
abbrev cX2_mean : ByteArray := prog_1_method_13_code
def yX2_mean : MethodName := ⟨RX2, "mean", "(II)J"⟩
abbrev cX2_frees : ByteArray := prog_1_method_14_code
def yX2_frees : MethodName := ⟨RX2, "frees", "(I)I"⟩
abbrev cX2_never : ByteArray := prog_1_method_15_code
def yX2_never : MethodName := ⟨RX2, "never", "(I)I"⟩
abbrev cX2_mayFree : ByteArray := prog_1_method_16_code
def yX2_mayFree : MethodName := ⟨RX2, "mayFree", "(I)I"⟩
abbrev cX2_worth : ByteArray := prog_1_method_17_code
def yX2_worth : MethodName := ⟨RX2, "worth", "(I)I"⟩
abbrev cX2_hunt : ByteArray := prog_1_method_18_code
def yX2_hunt : MethodName := ⟨RX2, "hunt", "(III)I"⟩
abbrev cX2_enough : ByteArray := prog_1_method_19_code
def yX2_enough : MethodName := ⟨RX2, "enough", "()I"⟩
abbrev cX2_change : ByteArray := prog_1_method_20_code
def yX2_change : MethodName := ⟨RX2, "change", "(III)I"⟩
abbrev cX2_longest : ByteArray := prog_1_method_21_code
def yX2_longest : MethodName := ⟨RX2, "longest", "()I"⟩
abbrev cX2_owes : ByteArray := prog_1_method_22_code
def yX2_owes : MethodName := ⟨RX2, "owes", "(II)I"⟩
abbrev cX2_debt : ByteArray := prog_1_method_23_code
def yX2_debt : MethodName := ⟨RX2, "debt", "(I)I"⟩
abbrev cX2_why : ByteArray := prog_1_method_24_code
def yX2_why : MethodName := ⟨RX2, "why", "(II)I"⟩
abbrev cX2_row : ByteArray := prog_1_method_25_code
def yX2_row : MethodName := ⟨RX2, "row", "(I)I"⟩
abbrev cX2_fits : ByteArray := prog_1_method_26_code
def yX2_fits : MethodName := ⟨RX2, "fits", "(I)I"⟩
abbrev cX2_judge : ByteArray := prog_1_method_27_code
def yX2_judge : MethodName := ⟨RX2, "judge", "()I"⟩
abbrev cX2_lots : ByteArray := prog_1_method_28_code
def yX2_lots : MethodName := ⟨RX2, "lots", "(II)I"⟩
abbrev cX2_image : ByteArray := prog_1_method_29_code
def yX2_image : MethodName := ⟨RX2, "image", "()I"⟩
abbrev cX2_on : ByteArray := prog_1_method_30_code
def yX2_on : MethodName := ⟨RX2, "on", "()I"⟩
abbrev cX2_count : ByteArray := prog_1_method_31_code
def yX2_count : MethodName := ⟨RX2, "count", "(I)I"⟩
abbrev cX2_refuse : ByteArray := prog_1_method_32_code
def yX2_refuse : MethodName := ⟨RX2, "refuse", "(I)I"⟩
abbrev cX2_outside : ByteArray := prog_1_method_33_code
def yX2_outside : MethodName := ⟨RX2, "outside", "(III)I"⟩
abbrev cX2_readLetters : ByteArray := prog_1_method_34_code
def yX2_readLetters : MethodName := ⟨RX2, "readLetters", "()I"⟩
abbrev cX2_secondsTillOver : ByteArray := prog_1_method_35_code
def yX2_secondsTillOver : MethodName := ⟨RX2, "secondsTillOver", "()I"⟩
abbrev cX2_standingOver : ByteArray := prog_1_method_36_code
def yX2_standingOver : MethodName := ⟨RX2, "standingOver", "(I)I"⟩
abbrev cX2_othersStanding : ByteArray := prog_1_method_37_code
def yX2_othersStanding : MethodName := ⟨RX2, "othersStanding", "(I)I"⟩
abbrev cX2_addCatchers : ByteArray := prog_1_method_38_code
def yX2_addCatchers : MethodName := ⟨RX2, "addCatchers", "(I)Z"⟩
abbrev cX2_firstUntrue : ByteArray := prog_1_method_39_code
def yX2_firstUntrue : MethodName := ⟨RX2, "firstUntrue", "()I"⟩
abbrev cX2_greatestShared : ByteArray := prog_1_method_40_code
def yX2_greatestShared : MethodName := ⟨RX2, "greatestShared", "(II)I"⟩
def RX3 : String := "TouchedAndStandsModel"
def TX3 : u_T := fun k => match k with
  | 0 => ("TouchedAndStandsModel", "refused", "[I", true)
  | 1 => ("TouchedAndStandsModel", "kind", "[I", true)
  | 2 => ("TouchedAndStandsModel", "cell", "[I", true)
  | 3 => ("TouchedAndStandsModel", "pal", "[I", true)
  | 4 => ("TouchedAndStandsModel", "stands", "[I", true)
  | 5 => ("TouchedAndStandsModel", "tired", "[I", true)
  | 6 => ("TouchedAndStandsModel", "freed", "[I", true)
  | 7 => ("TouchedAndStandsModel", "children", "I", false)
  | 8 => ("TouchedAndStandsModel", "law", "I", false)
  | 9 => ("TouchedAndStandsModel", "second", "I", false)
  | 10 => ("TouchedAndStandsModel", "tape", "[I", true)
  | 11 => ("TouchedAndStandsModel", "letter", "[I", true)
  | 12 => ("TouchedAndStandsModel", "letterAt", "[I", true)
  | 13 => ("TouchedAndStandsModel", "told", "[I", true)
  | 14 => ("TouchedAndStandsModel", "taped", "I", false)
  | 15 => ("TouchedAndStandsModel", "at", "I", false)
  | 16 => ("TouchedAndStandsModel", "statements", "I", false)
  | 17 => ("TouchedAndStandsModel", "kept", "[I", true)
  | 18 => ("TouchedAndStandsModel", "hasImage", "Z", false)
  | 19 => ("TouchedAndStandsModel", "isKeeping", "Z", false)
  | 20 => ("TouchedAndStandsModel", "cursor", "I", false)
  | 21 => ("TouchedAndStandsModel", "idle", "I", false)
  | 22 => ("TouchedAndStandsModel", "freesMany", "I", false)
  | 23 => ("TouchedAndStandsModel", "sum", "I", false)
  | 24 => ("TouchedAndStandsModel", "all", "I", false)
  | 25 => ("TouchedAndStandsModel", "standing", "I", false)
  | 26 => ("TouchedAndStandsModel", "freesThen", "I", false)
  | 27 => ("TouchedAndStandsModel", "whereThen", "I", false)
  | 28 => ("TouchedAndStandsModel", "row", "[I", true)
  | _ => ("TouchedAndStandsModel", "rowMany", "I", false)
def tyX3 : Nat → FieldType := fun k => match k with
  | 0 => .array .int
  | 1 => .array .int
  | 2 => .array .int
  | 3 => .array .int
  | 4 => .array .int
  | 5 => .array .int
  | 6 => .array .int
  | 7 => .int
  | 8 => .int
  | 9 => .int
  | 10 => .array .int
  | 11 => .array .int
  | 12 => .array .int
  | 13 => .array .int
  | 14 => .int
  | 15 => .int
  | 16 => .int
  | 17 => .array .int
  | 18 => .boolean
  | 19 => .boolean
  | 20 => .int
  | 21 => .int
  | 22 => .int
  | 23 => .int
  | 24 => .int
  | 25 => .int
  | 26 => .int
  | 27 => .int
  | 28 => .array .int
  | _ => .int
abbrev wsX30 : List Cond := u_ws RX3 TX3 30
theorem nmX3 : ∀ a, a < 30 → ∀ b, b < 30 → a ≠ b → (TX3 a).2.1 ≠ (TX3 b).2.1 := by decide +kernel
theorem tyX3_ok : ∀ k, k < 30 → parseFieldDescriptor (TX3 k).2.2.1 = some (tyX3 k) := by decide +kernel
abbrev cX3_init : ByteArray := prog_5_method_1_code
def yX3_init : MethodName := ⟨RX3, "<init>", "()V"⟩
abbrev cX3_no : ByteArray := prog_5_method_2_code
def yX3_no : MethodName := ⟨RX3, "no", "(I)I"⟩
abbrev cX3_lower : ByteArray := prog_5_method_3_code
def yX3_lower : MethodName := ⟨RX3, "lower", "(I)I"⟩
abbrev cX3_lowest : ByteArray := prog_5_method_4_code
def yX3_lowest : MethodName := ⟨RX3, "lowest", "(I)J"⟩
abbrev cX3_isIn : ByteArray := prog_5_method_5_code
def yX3_isIn : MethodName := ⟨RX3, "isIn", "(III)Z"⟩
abbrev cX3_bound : ByteArray := prog_5_method_6_code
def yX3_bound : MethodName := ⟨RX3, "bound", "(III)I"⟩
abbrev cX3_bits : ByteArray := prog_5_method_7_code
def yX3_bits : MethodName := ⟨RX3, "bits", "(I)I"⟩
abbrev cX3_apart : ByteArray := prog_5_method_8_code
def yX3_apart : MethodName := ⟨RX3, "apart", "(II)I"⟩
abbrev cX3_isCell : ByteArray := prog_5_method_9_code
def yX3_isCell : MethodName := ⟨RX3, "isCell", "(I)Z"⟩
abbrev cX3_farOf : ByteArray := prog_5_method_10_code
def yX3_farOf : MethodName := ⟨RX3, "farOf", "(II)I"⟩
abbrev cX3_isEdge : ByteArray := prog_5_method_11_code
def yX3_isEdge : MethodName := ⟨RX3, "isEdge", "(I)Z"⟩
abbrev cX3_isChild : ByteArray := prog_5_method_12_code
def yX3_isChild : MethodName := ⟨RX3, "isChild", "(I)Z"⟩
abbrev cX3_isCatcher : ByteArray := prog_5_method_13_code
def yX3_isCatcher : MethodName := ⟨RX3, "isCatcher", "(I)Z"⟩
abbrev cX3_letter : ByteArray := prog_5_method_14_code
def yX3_letter : MethodName := ⟨RX3, "letter", "(I)I"⟩
abbrev cX3_next : ByteArray := prog_5_method_15_code
def yX3_next : MethodName := ⟨RX3, "next", "()I"⟩
abbrev cX3_readsDigits : ByteArray := prog_5_method_16_code
def yX3_readsDigits : MethodName := ⟨RX3, "readsDigits", "(II)Z"⟩
abbrev cX3_kindOf : ByteArray := prog_5_method_17_code
def yX3_kindOf : MethodName := ⟨RX3, "kindOf", "(I)I"⟩
abbrev cX3_readsChild : ByteArray := prog_5_method_18_code
def yX3_readsChild : MethodName := ⟨RX3, "readsChild", "(I)Z"⟩
abbrev cX3_statement : ByteArray := prog_5_method_19_code
def yX3_statement : MethodName := ⟨RX3, "statement", "()Z"⟩
abbrev cX3_comesChild : ByteArray := prog_5_method_20_code
def yX3_comesChild : MethodName := ⟨RX3, "comesChild", "(III)V"⟩
abbrev cX3_comes : ByteArray := prog_5_method_21_code
def yX3_comes : MethodName := ⟨RX3, "comes", "(I)Z"⟩
abbrev cX3_yard : ByteArray := prog_5_method_22_code
def yX3_yard : MethodName := ⟨RX3, "yard", "()I"⟩
abbrev cX3_passes : ByteArray := prog_5_method_23_code
def yX3_passes : MethodName := ⟨RX3, "passes", "([I)V"⟩
abbrev cX3_passOne : ByteArray := prog_5_method_24_code
def yX3_passOne : MethodName := ⟨RX3, "passOne", "(I)I"⟩
abbrev cX3_passesAll : ByteArray := prog_5_method_25_code
def yX3_passesAll : MethodName := ⟨RX3, "passesAll", "(IZ)V"⟩
abbrev cX3_image : ByteArray := prog_5_method_26_code
def yX3_image : MethodName := ⟨RX3, "image", "()I"⟩
abbrev cX3_on : ByteArray := prog_5_method_27_code
def yX3_on : MethodName := ⟨RX3, "on", "()I"⟩
abbrev cX3_stepOf : ByteArray := prog_5_method_28_code
def yX3_stepOf : MethodName := ⟨RX3, "stepOf", "(II)I"⟩
abbrev cX3_farFromCatchers : ByteArray := prog_5_method_29_code
def yX3_farFromCatchers : MethodName := ⟨RX3, "farFromCatchers", "(I)I"⟩
abbrev cX3_away : ByteArray := prog_5_method_30_code
def yX3_away : MethodName := ⟨RX3, "away", "(I)I"⟩
abbrev cX3_toward : ByteArray := prog_5_method_31_code
def yX3_toward : MethodName := ⟨RX3, "toward", "(II)I"⟩
abbrev cX3_doesMay : ByteArray := prog_5_method_32_code
def yX3_doesMay : MethodName := ⟨RX3, "doesMay", "(II)Z"⟩
abbrev cX3_nearMay : ByteArray := prog_5_method_33_code
def yX3_nearMay : MethodName := ⟨RX3, "nearMay", "(I)I"⟩
abbrev cX3_nearestMay : ByteArray := prog_5_method_34_code
def yX3_nearestMay : MethodName := ⟨RX3, "nearestMay", "(I)I"⟩
abbrev cX3_free : ByteArray := prog_5_method_35_code
def yX3_free : MethodName := ⟨RX3, "free", "(II)V"⟩
abbrev cX3_freesAll : ByteArray := prog_5_method_36_code
def yX3_freesAll : MethodName := ⟨RX3, "freesAll", "(II)V"⟩
abbrev cX3_runsTo : ByteArray := prog_5_method_37_code
def yX3_runsTo : MethodName := ⟨RX3, "runsTo", "(I)I"⟩
abbrev cX3_isRunner : ByteArray := prog_5_method_38_code
def yX3_isRunner : MethodName := ⟨RX3, "isRunner", "(I)Z"⟩
abbrev cX3_touches : ByteArray := prog_5_method_39_code
def yX3_touches : MethodName := ⟨RX3, "touches", "(I)Z"⟩
abbrev cX3_nearest : ByteArray := prog_5_method_40_code
def yX3_nearest : MethodName := ⟨RX3, "nearest", "(II)I"⟩
abbrev cX3_hunts : ByteArray := prog_5_method_41_code
def yX3_hunts : MethodName := ⟨RX3, "hunts", "(I)I"⟩
abbrev cX3_catches : ByteArray := prog_5_method_42_code
def yX3_catches : MethodName := ⟨RX3, "catches", "(I)V"⟩
abbrev cX3_less : ByteArray := prog_5_method_43_code
def yX3_less : MethodName := ⟨RX3, "less", "(I)I"⟩
abbrev cX3_goesOn : ByteArray := prog_5_method_44_code
def yX3_goesOn : MethodName := ⟨RX3, "goesOn", "(I)V"⟩
abbrev cX3_goes : ByteArray := prog_5_method_45_code
def yX3_goes : MethodName := ⟨RX3, "goes", "()V"⟩
abbrev cX3_standBits : ByteArray := prog_5_method_46_code
def yX3_standBits : MethodName := ⟨RX3, "standBits", "()I"⟩
abbrev cX3_runnersMany : ByteArray := prog_5_method_47_code
def yX3_runnersMany : MethodName := ⟨RX3, "runnersMany", "()I"⟩
abbrev cX3_child : ByteArray := prog_5_method_48_code
def yX3_child : MethodName := ⟨RX3, "child", "(II)I"⟩
abbrev cX3_go : ByteArray := prog_5_method_49_code
def yX3_go : MethodName := ⟨RX3, "go", "(II)I"⟩
abbrev cX3_touch : ByteArray := prog_5_method_50_code
def yX3_touch : MethodName := ⟨RX3, "touch", "(I)I"⟩
abbrev cX3_law : ByteArray := prog_5_method_51_code
def yX3_law : MethodName := ⟨RX3, "law", "(I)I"⟩
abbrev cX3_far : ByteArray := prog_5_method_52_code
def yX3_far : MethodName := ⟨RX3, "far", "(II)I"⟩
abbrev cX3_seconds : ByteArray := prog_5_method_53_code
def yX3_seconds : MethodName := ⟨RX3, "seconds", "(I)I"⟩
abbrev cX3_goesInMind : ByteArray := prog_5_method_54_code
def yX3_goesInMind : MethodName := ⟨RX3, "goesInMind", "(II)V"⟩
abbrev cX3_stand : ByteArray := prog_5_method_55_code
def yX3_stand : MethodName := ⟨RX3, "stand", "(I)I"⟩
abbrev cX3_where : ByteArray := prog_5_method_56_code
def yX3_where : MethodName := ⟨RX3, "where", "(II)I"⟩
abbrev cX3_overIn : ByteArray := prog_5_method_57_code
def yX3_overIn : MethodName := ⟨RX3, "overIn", "()I"⟩
abbrev cX3_over : ByteArray := prog_5_method_58_code
def yX3_over : MethodName := ⟨RX3, "over", "()I"⟩
abbrev cX3_divisor : ByteArray := prog_5_method_59_code
def yX3_divisor : MethodName := ⟨RX3, "divisor", "(JJ)J"⟩
abbrev cX3_mean : ByteArray := prog_5_method_60_code
def yX3_mean : MethodName := ⟨RX3, "mean", "(II)J"⟩
abbrev cX3_frees : ByteArray := prog_5_method_61_code
def yX3_frees : MethodName := ⟨RX3, "frees", "(I)I"⟩
abbrev cX3_never : ByteArray := prog_5_method_62_code
def yX3_never : MethodName := ⟨RX3, "never", "(I)I"⟩
abbrev cX3_mayFree : ByteArray := prog_5_method_63_code
def yX3_mayFree : MethodName := ⟨RX3, "mayFree", "(I)I"⟩
abbrev cX3_othersStand : ByteArray := prog_5_method_64_code
def yX3_othersStand : MethodName := ⟨RX3, "othersStand", "(I)I"⟩
abbrev cX3_worth : ByteArray := prog_5_method_65_code
def yX3_worth : MethodName := ⟨RX3, "worth", "(I)I"⟩
abbrev cX3_hunt : ByteArray := prog_5_method_66_code
def yX3_hunt : MethodName := ⟨RX3, "hunt", "(III)I"⟩
abbrev cX3_enough : ByteArray := prog_5_method_67_code
def yX3_enough : MethodName := ⟨RX3, "enough", "()I"⟩
abbrev cX3_standAfterChange : ByteArray := prog_5_method_68_code
def yX3_standAfterChange : MethodName := ⟨RX3, "standAfterChange", "(III)I"⟩
abbrev cX3_changes : ByteArray := prog_5_method_69_code
def yX3_changes : MethodName := ⟨RX3, "changes", "(II)V"⟩
abbrev cX3_change : ByteArray := prog_5_method_70_code
def yX3_change : MethodName := ⟨RX3, "change", "(III)I"⟩
abbrev cX3_longest : ByteArray := prog_5_method_71_code
def yX3_longest : MethodName := ⟨RX3, "longest", "()I"⟩
abbrev cX3_owes : ByteArray := prog_5_method_72_code
def yX3_owes : MethodName := ⟨RX3, "owes", "(II)I"⟩
abbrev cX3_debt : ByteArray := prog_5_method_73_code
def yX3_debt : MethodName := ⟨RX3, "debt", "(I)I"⟩
abbrev cX3_isMayed : ByteArray := prog_5_method_74_code
def yX3_isMayed : MethodName := ⟨RX3, "isMayed", "(I)Z"⟩
abbrev cX3_isWatched : ByteArray := prog_5_method_75_code
def yX3_isWatched : MethodName := ⟨RX3, "isWatched", "(II)Z"⟩
abbrev cX3_why : ByteArray := prog_5_method_76_code
def yX3_why : MethodName := ⟨RX3, "why", "(II)I"⟩
abbrev cX3_row : ByteArray := prog_5_method_77_code
def yX3_row : MethodName := ⟨RX3, "row", "(I)I"⟩
abbrev cX3_wrongAt : ByteArray := prog_5_method_78_code
def yX3_wrongAt : MethodName := ⟨RX3, "wrongAt", "()I"⟩
abbrev cX3_fits : ByteArray := prog_5_method_79_code
def yX3_fits : MethodName := ⟨RX3, "fits", "(I)I"⟩
abbrev cX3_judge : ByteArray := prog_5_method_80_code
def yX3_judge : MethodName := ⟨RX3, "judge", "()I"⟩
abbrev cX3_lots : ByteArray := prog_5_method_81_code
def yX3_lots : MethodName := ⟨RX3, "lots", "(II)I"⟩
abbrev cX3_count : ByteArray := prog_5_method_82_code
def yX3_count : MethodName := ⟨RX3, "count", "(I)I"⟩
def RJ11 : String := "java/lang/Character"
def TJ11 : u_T := fun k => match k with
  | _ => ("", "", "", false)
def tyJ11 : Nat → FieldType := fun k => match k with
  | _ => .int
abbrev wsJ110 : List Cond := u_ws RJ11 TJ11 0
theorem nmJ11 : ∀ a, a < 0 → ∀ b, b < 0 → a ≠ b → (TJ11 a).2.1 ≠ (TJ11 b).2.1 := by decide +kernel
theorem tyJ11_ok : ∀ k, k < 0 → parseFieldDescriptor (TJ11 k).2.2.1 = some (tyJ11 k) := by decide +kernel
abbrev cJ11_isValidCodePoint_9a6ad : ByteArray := prog_6_method_11_code
def yJ11_isValidCodePoint_9a6ad : MethodName := ⟨RJ11, "isValidCodePoint", "(I)Z"⟩
abbrev cJ11_highSurrogate_5068e : ByteArray := prog_6_method_28_code
def yJ11_highSurrogate_5068e : MethodName := ⟨RJ11, "highSurrogate", "(I)C"⟩
abbrev cJ11_lowSurrogate_5068e : ByteArray := prog_6_method_29_code
def yJ11_lowSurrogate_5068e : MethodName := ⟨RJ11, "lowSurrogate", "(I)C"⟩
def RJ6 : String := "java/lang/Integer"
def TJ6 : u_T := fun k => match k with
  | _ => ("", "", "", false)
def tyJ6 : Nat → FieldType := fun k => match k with
  | _ => .int
abbrev wsJ60 : List Cond := u_ws RJ6 TJ6 0
theorem nmJ6 : ∀ a, a < 0 → ∀ b, b < 0 → a ≠ b → (TJ6 a).2.1 ≠ (TJ6 b).2.1 := by decide +kernel
theorem tyJ6_ok : ∀ k, k < 0 → parseFieldDescriptor (TJ6 k).2.2.1 = some (tyJ6 k) := by decide +kernel
abbrev cJ6_bitCount_0f7a4 : ByteArray := prog_7_method_49_code
def yJ6_bitCount_0f7a4 : MethodName := ⟨RJ6, "bitCount", "(I)I"⟩
def RJ9 : String := "java/lang/Math"
def TJ9 : u_T := fun k => match k with
  | _ => ("", "", "", false)
def tyJ9 : Nat → FieldType := fun k => match k with
  | _ => .int
abbrev wsJ90 : List Cond := u_ws RJ9 TJ9 0
theorem nmJ9 : ∀ a, a < 0 → ∀ b, b < 0 → a ≠ b → (TJ9 a).2.1 ≠ (TJ9 b).2.1 := by decide +kernel
theorem tyJ9_ok : ∀ k, k < 0 → parseFieldDescriptor (TJ9 k).2.2.1 = some (tyJ9 k) := by decide +kernel
abbrev cJ9_max_7cf53 : ByteArray := prog_8_method_65_code
def yJ9_max_7cf53 : MethodName := ⟨RJ9, "max", "(II)I"⟩
abbrev cJ9_min_7cf53 : ByteArray := prog_8_method_69_code
def yJ9_min_7cf53 : MethodName := ⟨RJ9, "min", "(II)I"⟩
def RJ0 : String := "java/lang/String"
def TJ0 : u_T := fun k => match k with
  | _ => ("", "", "", false)
def tyJ0 : Nat → FieldType := fun k => match k with
  | _ => .int
abbrev wsJ00 : List Cond := u_ws RJ0 TJ0 0
theorem nmJ0 : ∀ a, a < 0 → ∀ b, b < 0 → a ≠ b → (TJ0 a).2.1 ≠ (TJ0 b).2.1 := by decide +kernel
theorem tyJ0_ok : ∀ k, k < 0 → parseFieldDescriptor (TJ0 k).2.2.1 = some (tyJ0 k) := by decide +kernel
abbrev cJ0_length_8abf5 : ByteArray := prog_9_method_54_code
def yJ0_length_8abf5 : MethodName := ⟨RJ0, "length", "()I"⟩
abbrev cJ0_charAt_5068e : ByteArray := prog_9_method_56_code
def yJ0_charAt_5068e : MethodName := ⟨RJ0, "charAt", "(I)C"⟩
abbrev cJ0_indexOf_0f7a4 : ByteArray := prog_9_method_79_code
def yJ0_indexOf_0f7a4 : MethodName := ⟨RJ0, "indexOf", "(I)I"⟩
abbrev cJ0_indexOf_7cf53 : ByteArray := prog_9_method_80_code
def yJ0_indexOf_7cf53 : MethodName := ⟨RJ0, "indexOf", "(II)I"⟩
abbrev cJ0_coder_7d493 : ByteArray := prog_9_method_152_code
def yJ0_coder_7d493 : MethodName := ⟨RJ0, "coder", "()B"⟩
abbrev cJ0_isLatin1_aae02 : ByteArray := prog_9_method_154_code
def yJ0_isLatin1_aae02 : MethodName := ⟨RJ0, "isLatin1", "()Z"⟩
abbrev cJ0_checkIndex_df160 : ByteArray := prog_9_method_155_code
def yJ0_checkIndex_df160 : MethodName := ⟨RJ0, "checkIndex", "(II)V"⟩
abbrev cJ0_checkBoundsBeginEnd_23922 : ByteArray := prog_9_method_158_code
def yJ0_checkBoundsBeginEnd_23922 : MethodName := ⟨RJ0, "checkBoundsBeginEnd", "(III)V"⟩
def RJ1 : String := "java/lang/StringLatin1"
def TJ1 : u_T := fun k => match k with
  | _ => ("", "", "", false)
def tyJ1 : Nat → FieldType := fun k => match k with
  | _ => .int
abbrev wsJ10 : List Cond := u_ws RJ1 TJ1 0
theorem nmJ1 : ∀ a, a < 0 → ∀ b, b < 0 → a ≠ b → (TJ1 a).2.1 ≠ (TJ1 b).2.1 := by decide +kernel
theorem tyJ1_ok : ∀ k, k < 0 → parseFieldDescriptor (TJ1 k).2.2.1 = some (tyJ1 k) := by decide +kernel
abbrev cJ1_charAt_3b067 : ByteArray := prog_10_method_2_code
def yJ1_charAt_3b067 : MethodName := ⟨RJ1, "charAt", "([BI)C"⟩
abbrev cJ1_canEncode_9a6ad : ByteArray := prog_10_method_4_code
def yJ1_canEncode_9a6ad : MethodName := ⟨RJ1, "canEncode", "(I)Z"⟩
abbrev cJ1_indexOf_4cfef : ByteArray := prog_10_method_22_code
def yJ1_indexOf_4cfef : MethodName := ⟨RJ1, "indexOf", "([BIII)I"⟩
abbrev cJ1_indexOfChar_4cfef : ByteArray := prog_10_method_23_code
def yJ1_indexOfChar_4cfef : MethodName := ⟨RJ1, "indexOfChar", "([BIII)I"⟩
def RJ2 : String := "java/lang/StringUTF16"
def TJ2 : u_T := fun k => match k with
  | _ => ("", "", "", false)
def tyJ2 : Nat → FieldType := fun k => match k with
  | _ => .int
abbrev wsJ20 : List Cond := u_ws RJ2 TJ2 0
theorem nmJ2 : ∀ a, a < 0 → ∀ b, b < 0 → a ≠ b → (TJ2 a).2.1 ≠ (TJ2 b).2.1 := by decide +kernel
theorem tyJ2_ok : ∀ k, k < 0 → parseFieldDescriptor (TJ2 k).2.2.1 = some (tyJ2 k) := by decide +kernel
abbrev cJ2_getChar_3b067 : ByteArray := prog_11_method_5_code
def yJ2_getChar_3b067 : MethodName := ⟨RJ2, "getChar", "([BI)C"⟩
abbrev cJ2_length_9d52b : ByteArray := prog_11_method_6_code
def yJ2_length_9d52b : MethodName := ⟨RJ2, "length", "([B)I"⟩
abbrev cJ2_indexOf_4cfef : ByteArray := prog_11_method_40_code
def yJ2_indexOf_4cfef : MethodName := ⟨RJ2, "indexOf", "([BIII)I"⟩
abbrev cJ2_indexOfChar_4cfef : ByteArray := prog_11_method_47_code
def yJ2_indexOfChar_4cfef : MethodName := ⟨RJ2, "indexOfChar", "([BIII)I"⟩
abbrev cJ2_indexOfCharUnsafe_4cfef : ByteArray := prog_11_method_48_code
def yJ2_indexOfCharUnsafe_4cfef : MethodName := ⟨RJ2, "indexOfCharUnsafe", "([BIII)I"⟩
abbrev cJ2_indexOfSupplementary_4cfef : ByteArray := prog_11_method_49_code
def yJ2_indexOfSupplementary_4cfef : MethodName := ⟨RJ2, "indexOfSupplementary", "([BIII)I"⟩
abbrev cJ2_charAt_3b067 : ByteArray := prog_11_method_83_code
def yJ2_charAt_3b067 : MethodName := ⟨RJ2, "charAt", "([BI)C"⟩
abbrev cJ2_checkIndex_2214a : ByteArray := prog_11_method_91_code
def yJ2_checkIndex_2214a : MethodName := ⟨RJ2, "checkIndex", "(I[B)V"⟩
abbrev cJ2_checkBoundsBeginEnd_d044e : ByteArray := prog_11_method_93_code
def yJ2_checkBoundsBeginEnd_d044e : MethodName := ⟨RJ2, "checkBoundsBeginEnd", "(II[B)V"⟩
def RJ10 : String := "java/lang/System"
def TJ10 : u_T := fun k => match k with
  | _ => ("", "", "", false)
def tyJ10 : Nat → FieldType := fun k => match k with
  | _ => .int
abbrev wsJ100 : List Cond := u_ws RJ10 TJ10 0
theorem nmJ10 : ∀ a, a < 0 → ∀ b, b < 0 → a ≠ b → (TJ10 a).2.1 ≠ (TJ10 b).2.1 := by decide +kernel
theorem tyJ10_ok : ∀ k, k < 0 → parseFieldDescriptor (TJ10 k).2.2.1 = some (tyJ10 k) := by decide +kernel
def RJ3 : String := "jdk/internal/util/Preconditions"
def TJ3 : u_T := fun k => match k with
  | _ => ("", "", "", false)
def tyJ3 : Nat → FieldType := fun k => match k with
  | _ => .int
abbrev wsJ30 : List Cond := u_ws RJ3 TJ3 0
theorem nmJ3 : ∀ a, a < 0 → ∀ b, b < 0 → a ≠ b → (TJ3 a).2.1 ≠ (TJ3 b).2.1 := by decide +kernel
theorem tyJ3_ok : ∀ k, k < 0 → parseFieldDescriptor (TJ3 k).2.2.1 = some (tyJ3 k) := by decide +kernel
abbrev cJ3_checkIndex_8e157 : ByteArray := prog_13_method_11_code
def yJ3_checkIndex_8e157 : MethodName := ⟨RJ3, "checkIndex", "(IILjava/util/function/BiFunction;)I"⟩
abbrev cJ3_checkFromToIndex_8c36e : ByteArray := prog_13_method_12_code
def yJ3_checkFromToIndex_8c36e : MethodName := ⟨RJ3, "checkFromToIndex", "(IIILjava/util/function/BiFunction;)I"⟩
def RL : String := "TouchedAndStandsLaw"
abbrev cL_law : ByteArray := code
def yL_law : MethodName := ⟨RL, "law", "([I)Z"⟩
abbrev vwCl : List vw_C := [(RX0, TX0, 3), (RX1, TX1, 11), (RX2, TX2, 9), (RX3, TX3, 30)]
end
section
/-! ===== THE MINI MACHINE: values (int, long, reference by tag and instance), worlds (int fields, int arrays), layout ===== -/
abbrev mV : Type := Int32 ⊕ (Int64 ⊕ (Nat × Nat))
abbrev mI (x : Int32) : mV := Sum.inl x
abbrev mJ (x : Int64) : mV := Sum.inr (Sum.inl x)
abbrev mR (t i : Nat) : mV := Sum.inr (Sum.inr (t, i))
abbrev mW : Type := (Nat → Nat → Nat → Int32) × (Nat → Nat → Nat → Int32)
def mgf (w : mW) (t i k : Nat) : Int32 := w.1 t i k
def mga (w : mW) (t i : Nat) : Nat → Int32 := w.2 t i
def mpf (w : mW) (t i k : Nat) (v : Int32) : mW := (fun t' i' k' => if t' = t ∧ i' = i ∧ k' = k then v else w.1 t' i' k', w.2)
def mpA (w : mW) (t i : Nat) (f : Nat → Int32) : mW := (w.1, fun t' i' => if t' = t ∧ i' = i then f else w.2 t' i')
/-- tags: 0 the class, 1 a yard, 2 .. 6 its rows, 7 letters, 8 their signs, 9 numbers, 10 refused, 11 the model, 12 .. 24 its rows, 30 a String constant, 31 its bytes, 32 the formatter, 40 the script -/
def oC : Nat → Option (Nat × Nat)
  | 0 => some (2, 9)
  | 1 => some (1, 11)
  | 7 => some (0, 3)
  | 11 => some (3, 30)
  | _ => none
def oR : Nat → Nat → Nat → Option (Nat × Nat)
  | 0, _, 0 => some (1, 0)
  | 0, _, 1 => some (1, 1)
  | 0, _, 2 => some (1, 2)
  | 0, _, 3 => some (1, 3)
  | 0, _, 5 => some (7, 0)
  | 0, _, 6 => some (9, 0)
  | 0, _, 8 => some (10, 0)
  | 1, i, 0 => some (2, i)
  | 1, i, 1 => some (3, i)
  | 1, i, 2 => some (4, i)
  | 1, i, 3 => some (5, i)
  | 1, i, 4 => some (6, i)
  | 7, _, 0 => some (8, 0)
  | 11, _, 0 => some (12, 0)
  | 11, _, 1 => some (13, 0)
  | 11, _, 2 => some (14, 0)
  | 11, _, 3 => some (15, 0)
  | 11, _, 4 => some (16, 0)
  | 11, _, 5 => some (17, 0)
  | 11, _, 6 => some (18, 0)
  | 11, _, 10 => some (19, 0)
  | 11, _, 11 => some (20, 0)
  | 11, _, 12 => some (21, 0)
  | 11, _, 13 => some (22, 0)
  | 11, _, 17 => some (23, 0)
  | 11, _, 28 => some (24, 0)
  | _, _, _ => none
/-- the length of an array of ints, by its tag -/
def oA : Nat → Nat
  | 2 => 8
  | 3 => 8
  | 4 => 8
  | 5 => 8
  | 6 => 64
  | 8 => 96
  | 9 => 20
  | 10 => 7
  | 12 => 7
  | 13 => 8
  | 14 => 8
  | 15 => 8
  | 16 => 8
  | 17 => 8
  | 18 => 64
  | 19 => 96
  | 20 => 48
  | 21 => 48
  | 22 => 144
  | 23 => 220
  | 24 => 20
  | _ => 0
def oT : Nat → u_T
  | 0 => TX0
  | 1 => TX1
  | 2 => TX2
  | _ => TX3
def oY : Nat → Nat → FieldType
  | 0 => tyX0
  | 1 => tyX1
  | 2 => tyX2
  | _ => tyX3
def oN : Nat → String
  | 0 => RX0
  | 1 => RX1
  | 2 => RX2
  | _ => RX3
def mYd (i : Nat) : List (Nat × Nat) := [(1, i), (2, i), (3, i), (4, i), (5, i), (6, i)]
def mCells : List (Nat × Nat) := (0, 0) :: (mYd 0 ++ (mYd 1 ++ (mYd 2 ++ (mYd 3 ++ [(7, 0), (8, 0), (9, 0), (10, 0), (11, 0), (12, 0), (13, 0), (14, 0), (15, 0), (16, 0), (17, 0), (18, 0), (19, 0), (20, 0), (21, 0), (22, 0), (23, 0), (24, 0)]))))
def mStrs : List (Nat × Nat) := [(30, 0), (30, 1), (30, 2), (30, 3), (30, 4), (30, 5), (31, 0), (31, 1), (31, 2), (31, 3), (31, 4), (31, 5), (32, 0)]
def mRefs : List (Nat × Nat) := mCells ++ mStrs
/-- the Strings: lengths and bytes -/
def sLen : List Nat := [0, 6, 3, 3, 5, 8]
def sByt : List (List Int32) := [[], [107, 75, 68, 68, 68, 59], [116, 68, 59], [108, 68, 59], [103, 68, 68, 68, 59], [114, 102, 112, 104, 99, 103, 119, 98]]
def sTab : List (String × Nat × String × Nat) := [(RX0, 26, "", 0), (RX0, 86, "kKDDD;", 1), (RX0, 88, "tD;", 2), (RX0, 90, "lD;", 3), (RX0, 92, "gDDD;", 4), (RX0, 94, "\x72fphcgwb", 5), (RX1, 70, "\x72fphcgwb", 5)]
def GW : List Cond := lw_tbl.filter goodWord
/-- dictionary of class ids and slots; the class of int arrays; addresses; the formatter -/
abbrev mEnv : Type := va_G × ClassId × (Nat → Nat → Nat) × Value
abbrev mAd (E : mEnv) : Nat → Nat → Nat := E.2.2.1
def cv (E : mEnv) : mV → Value
  | .inl x => .int x
  | .inr (.inl x) => .long x
  | .inr (.inr r) => if r.1 = 32 then E.2.2.2 else .ref (mAd E r.1 r.2)
def mFd (E : mEnv) (w : mW) (q : Nat × Nat) (k : Nat) : Value := match oR q.1 q.2 k with
  | some r => .ref (mAd E r.1 r.2)
  | none => .int (mgf w q.1 q.2 k)
def mE (E : mEnv) (w : mW) (q : Nat × Nat) : va_E := match oC q.1 with
  | some (ci, n) => .inr (ci, (List.range n).map (mFd E w q))
  | none => .inl (E.2.1, oA q.1, .inl (mga w q.1 q.2))
def mWs (E : mEnv) (w : mW) : va_W := mCells.map (fun q => (mAd E q.1 q.2, mE E w q))
def mA (E : mEnv) : Nat → Prop := fun a => ∃ q, q ∈ mCells ∧ mAd E q.1 q.2 = a
def mHold (E : mEnv) (A : Nat → Prop) (w : mW) (H : Heap) : Prop := va_P E.1 vwCl (mWs E w) H ∧ va_D A (mWs E w)
def mOk : mV → Prop
  | .inl _ => True
  | .inr (.inl _) => True
  | .inr (.inr r) => r ∈ mRefs
def mLoc (E : mEnv) (ls : Array Slot) (nL : Nat) (L : List (Option mV)) : Prop := (ls.size = nL ∧ L.length = nL) ∧ lv_wf ls ∧ ∀ (i : Nat) (v : mV), L[i]? = some (some v) → mOk v ∧ ls[i]? = some (.val (cv E v))
/-- what is said of Strings and statics at a state -/
def mStr (E : mEnv) (A : Nat → Prop) (s : State) : Prop :=
  vk_S 6 sLen sByt (mAd E 30) (mAd E 31) A s s.heap ∧ (∀ q ∈ sTab, vk_R q.1 q.2.1 q.2.2.1 (mAd E 30 q.2.2.2) s) ∧ va_Z "java/lang/String" "COMPACT_STRINGS" "Z" (.int 1) A s s.heap ∧ va_Z "jdk/internal/util/Preconditions" "SIOOBE_FORMATTER" "Ljava/util/function/BiFunction;" E.2.2.2 A s s.heap ∧ (E.2.2.2 = .null ∨ ∃ a, E.2.2.2 = .ref a)
/-- a method: its name, bytes, locals, answer -/
abbrev mM : Type := MethodName × ByteArray × Nat × Option FieldType
def mCtx (E : mEnv) (A : Nat → Prop) (p : Program) (s : State) (m : MethodId) (args : Array Value) (c : Code) (M : mM) : Prop :=
  p.tables.exec = Jvm.exec ∧ c.code = M.2.1 ∧ c.maxLocals = M.2.2.1 ∧ s.vm.findClass M.1.cls = some m.cls ∧ (∀ w ∈ GW, w.before args s = true) ∧ va_K E.1 vwCl [(E.2.1, .int)] s ∧ mStr E A s
def mRm (d : Nat) : Room := { frames := d, cells := 0, slots := 0, locals := 38 * d }
/-- the machine stands at a frame of the method M, with a world, and comes to Z -/
def mG (E : mEnv) (A : Nat → Prop) (p : Program) (l : Launch) (e : Env) (R : Room) (s : State) (m : MethodId) (args : Array Value) (below : List Frame) (meth : Method) (c : Code) (cells slots : Nat) (Z : State → Prop) (M : mM) (pc : Nat) (L : List (Option mV)) (S : List mV) (w : mW) : Prop :=
  ∀ (H : Heap) (locs : List Loc) (ls : Array Slot), mHold E A w H → va_S A s.heap H locs → mLoc E ls M.2.2.1 L → (∀ v ∈ S, mOk v) → W p l e R s m args below meth c H locs cells slots Z (F0 m pc ls (S.map (cv E)))
def mQc (E : mEnv) (Q : Option mV → mW → Prop) : Array Value → State → Outcome → State → Prop := fun _ st oc t =>
  (∃ (r : Option mV) (u : mW), oc = .returned (r.map (cv E)) ∧ (∀ v, r = some v → mOk v) ∧ Q r u ∧ mHold E (mA E) u t.heap) ∧ va_F (mA E) st t
/-- a method's frame, from any state where it stands, comes to its end with Q -/
def Ev (l : Launch) (d : Nat) (M : mM) (pc : Nat) (L : List (Option mV)) (S : List mV) (w : mW) (Q : Option mV → mW → Prop) : Prop :=
  ∀ (E : mEnv) (p : Program) (e : Env) (s : State) (m : MethodId) (args : Array Value) (below : List Frame) (meth : Method) (c : Code), mCtx E (mA E) p s m args c M → meth.locks = false → meth.sig.returnType = M.2.2.2 →
    mG E (mA E) p l e (mRm d) s m args below meth c 0 0 (MQ below (mQc E Q) args s 0 0 (mA E)) M pc L S w
end
section
/-! ===== one instruction that neither branches nor calls; what a program checks of a stretch of code ===== -/
def mrem (x y : Int32) : Int32 := x - x / y * y
def mremL (x y : Int64) : Int64 := x - x / y * y
def mshl (x y : Int32) : Int32 := x <<< (y &&& 31)
def mshr (x y : Int32) : Int32 := x >>> (y &&& 31)
def mushr (x y : Int32) : Int32 := (x.toUInt32 >>> (y.toUInt32 &&& Int32.toUInt32 31)).toInt32
def mchr (x : Int32) : Int32 := (x.toUInt32 % 65536).toInt32
def mbyt (x : Int32) : Int32 := x.toInt8.toInt32
/-- an instruction, and what it carries: a constant; a class and the place of a field -/
abbrev mB : Type := Instr × mV
def ilen : Instr → Nat
  | .bipush _ => 2
  | .sipush _ => 3
  | .ldc _ => 2
  | .ldc_w _ => 3
  | .ldc2_w _ => 3
  | .iload _ => 2
  | .aload _ => 2
  | .lload _ => 2
  | .istore _ => 2
  | .astore _ => 2
  | .lstore _ => 2
  | .iinc _ _ => 3
  | .getfield _ => 3
  | .putfield _ => 3
  | .getstatic _ => 3
  | _ => 1
/-- a value of one word into a local; not where it would cut a long -/
def mset1 : List (Option mV) → Nat → mV → Option (List (Option mV))
  | [], _, _ => none
  | _ :: l, 0, v => some (some v :: l)
  | a :: l, i + 1, v => match a, i with
    | some (.inr (.inl _)), 0 => none
    | a, i => match mset1 l i v with
      | some l' => some (a :: l')
      | none => none
def mset2 : List (Option mV) → Nat → mV → Option (List (Option mV))
  | [], _, _ => none
  | [_], _, _ => none
  | _ :: _ :: l, 0, v => some (some v :: none :: l)
  | a :: b :: l, i + 1, v => match a, i with
    | some (.inr (.inl _)), 0 => none
    | a, i => match mset2 (b :: l) i v with
      | some l' => some (a :: l')
      | none => none
abbrev mO : Type := Option (Option Prop × List (Option mV) × List mV × mW)
def mldI (L : List (Option mV)) (i : Nat) (S : List mV) (w : mW) : mO := match L[i]? with
  | some (some (.inl x)) => some (none, L, mI x :: S, w)
  | _ => none
def mldA (L : List (Option mV)) (i : Nat) (S : List mV) (w : mW) : mO := match L[i]? with
  | some (some (.inr (.inr (t, j)))) => if t = 32 then none else some (none, L, mR t j :: S, w)
  | _ => none
def mldJ (L : List (Option mV)) (i : Nat) (S : List mV) (w : mW) : mO := match L[i]? with
  | some (some (.inr (.inl x))) => some (none, L, mJ x :: S, w)
  | _ => none
def mstI (L : List (Option mV)) (i : Nat) (S : List mV) (w : mW) : mO := match S with
  | .inl x :: S => match mset1 L i (mI x) with
    | some L1 => some (none, L1, S, w)
    | none => none
  | _ => none
def mstA (L : List (Option mV)) (i : Nat) (S : List mV) (w : mW) : mO := match S with
  | .inr (.inr (t, j)) :: S => if t = 32 then none else match mset1 L i (mR t j) with
    | some L1 => some (none, L1, S, w)
    | none => none
  | _ => none
def mstJ (L : List (Option mV)) (i : Nat) (S : List mV) (w : mW) : mO := match S with
  | .inr (.inl x) :: S => match mset2 L i (mJ x) with
    | some L1 => some (none, L1, S, w)
    | none => none
  | _ => none
def mgetf (ci k : Nat) (t i : Nat) (L : List (Option mV)) (S : List mV) (w : mW) : mO := match oC t with
  | some (cj, n) => if cj = ci then (if k < n then (match oR t i k with
      | some (t', i') => some (none, L, mR t' i' :: S, w)
      | none => some (none, L, mI (mgf w t i k) :: S, w)) else none) else none
  | none => if t = 30 then (if ci = 9 then (if k = 0 then some (none, L, mR 31 i :: S, w) else some (none, L, mI 0 :: S, w)) else none) else none
def mputf (ci k : Nat) (v : Int32) (t i : Nat) (L : List (Option mV)) (S : List mV) (w : mW) : mO := match oC t with
  | some (cj, n) => if cj = ci then (if k < n then (match oR t i k with
      | some _ => none
      | none => match oY ci k with
        | .int => some (none, L, S, mpf w t i k v)
        | .boolean => some (some (v = 0 ∨ v = 1), L, S, mpf w t i k v)
        | _ => none) else none) else none
  | none => none
def mstep (i : Instr) (pay : mV) (L : List (Option mV)) (S : List mV) (w : mW) : mO := match i with
  | .iconst _ => some (none, L, pay :: S, w)
  | .bipush _ => some (none, L, pay :: S, w)
  | .sipush _ => some (none, L, pay :: S, w)
  | .ldc _ => some (none, L, pay :: S, w)
  | .ldc_w _ => some (none, L, pay :: S, w)
  | .ldc2_w _ => some (none, L, pay :: S, w)
  | .lconst _ => some (none, L, pay :: S, w)
  | .getstatic _ => some (none, L, pay :: S, w)
  | .iload_n k => mldI L k.val S w
  | .iload k => mldI L k S w
  | .aload_n k => mldA L k.val S w
  | .aload k => mldA L k S w
  | .lload_n k => mldJ L k.val S w
  | .lload k => mldJ L k S w
  | .istore_n k => mstI L k.val S w
  | .istore k => mstI L k S w
  | .astore_n k => mstA L k.val S w
  | .astore k => mstA L k S w
  | .lstore_n k => mstJ L k.val S w
  | .lstore k => mstJ L k S w
  | .iinc k _ => match pay, L[k]? with
    | .inl n, some (some (.inl x)) => (match mset1 L k (mI (x + n)) with
      | some L1 => some (none, L1, S, w)
      | none => none)
    | _, _ => none
  | .iadd => match S with
    | .inl y :: .inl x :: S => some (none, L, mI (x + y) :: S, w)
    | _ => none
  | .isub => match S with
    | .inl y :: .inl x :: S => some (none, L, mI (x - y) :: S, w)
    | _ => none
  | .imul => match S with
    | .inl y :: .inl x :: S => some (none, L, mI (x * y) :: S, w)
    | _ => none
  | .idiv => match S with
    | .inl y :: .inl x :: S => some (some (¬ y = 0), L, mI (x / y) :: S, w)
    | _ => none
  | .irem => match S with
    | .inl y :: .inl x :: S => some (some (¬ y = 0), L, mI (mrem x y) :: S, w)
    | _ => none
  | .iand => match S with
    | .inl y :: .inl x :: S => some (none, L, mI (x &&& y) :: S, w)
    | _ => none
  | .ior => match S with
    | .inl y :: .inl x :: S => some (none, L, mI (x ||| y) :: S, w)
    | _ => none
  | .ixor => match S with
    | .inl y :: .inl x :: S => some (none, L, mI (x ^^^ y) :: S, w)
    | _ => none
  | .ishl => match S with
    | .inl y :: .inl x :: S => some (none, L, mI (mshl x y) :: S, w)
    | _ => none
  | .ishr => match S with
    | .inl y :: .inl x :: S => some (none, L, mI (mshr x y) :: S, w)
    | _ => none
  | .iushr => match S with
    | .inl y :: .inl x :: S => some (none, L, mI (mushr x y) :: S, w)
    | _ => none
  | .ineg => match S with
    | .inl x :: S => some (none, L, mI (-x) :: S, w)
    | _ => none
  | .i2l => match S with
    | .inl x :: S => some (none, L, mJ x.toInt64 :: S, w)
    | _ => none
  | .i2b => match S with
    | .inl x :: S => some (none, L, mI (mbyt x) :: S, w)
    | _ => none
  | .i2c => match S with
    | .inl x :: S => some (none, L, mI (mchr x) :: S, w)
    | _ => none
  | .lsub => match S with
    | .inr (.inl y) :: .inr (.inl x) :: S => some (none, L, mJ (x - y) :: S, w)
    | _ => none
  | .ldiv => match S with
    | .inr (.inl y) :: .inr (.inl x) :: S => some (some (¬ y = 0), L, mJ (x / y) :: S, w)
    | _ => none
  | .lrem => match S with
    | .inr (.inl y) :: .inr (.inl x) :: S => some (some (¬ y = 0), L, mJ (mremL x y) :: S, w)
    | _ => none
  | .lcmp => match S with
    | .inr (.inl y) :: .inr (.inl x) :: S => some (none, L, mI (lg_cmp x y) :: S, w)
    | _ => none
  | .dup => match S with
    | .inl x :: S => some (none, L, mI x :: mI x :: S, w)
    | .inr (.inr (t, i)) :: S => if t = 32 then none else some (none, L, mR t i :: mR t i :: S, w)
    | _ => none
  | .pop => match S with
    | .inl _ :: S => some (none, L, S, w)
    | _ => none
  | .dup2 => match S with
    | .inl x :: .inr (.inr (t, i)) :: S => if t = 32 then none else some (none, L, mI x :: mR t i :: mI x :: mR t i :: S, w)
    | _ => none
  | .getfield _ => match pay, S with
    | .inr (.inr (ci, k)), .inr (.inr (t, i)) :: S => mgetf ci k t i L S w
    | _, _ => none
  | .putfield _ => match pay, S with
    | .inr (.inr (ci, k)), .inl v :: .inr (.inr (t, i)) :: S => mputf ci k v t i L S w
    | _, _ => none
  | .iaload => match S with
    | .inl j :: .inr (.inr (t, i)) :: S => if 30 ≤ t then none else (match oC t with
      | none => some (some (vp_in j (oA t)), L, mI (mga w t i j.toNatClampNeg) :: S, w)
      | some _ => none)
    | _ => none
  | .iastore => match S with
    | .inl v :: .inl j :: .inr (.inr (t, i)) :: S => if 30 ≤ t then none else (match oC t with
      | none => some (some (vp_in j (oA t)), L, S, mpA w t i (upd (mga w t i) j.toNatClampNeg v))
      | some _ => none)
    | _ => none
  | .baload => match S with
    | .inl j :: .inr (.inr (t, i)) :: S => if t = 31 then some (some (vp_in j (sLen.getD i 0)), L, mI ((sByt.getD i []).getD j.toNatClampNeg 0) :: S, w) else none
    | _ => none
  | .arraylength => match S with
    | .inr (.inr (t, i)) :: S => if t = 31 then some (none, L, mI (nI (sLen.getD i 0)) :: S, w) else if 30 ≤ t then none else (match oC t with
      | none => some (none, L, mI (nI (oA t)) :: S, w)
      | some _ => none)
    | _ => none
  | _ => none
def mrun : List mB → Prop → List (Option mV) → List mV → mW → Option (Prop × List (Option mV) × List mV × mW)
  | [], P, L, S, w => some (P, L, S, w)
  | b :: is, P, L, S, w => match mstep b.1 b.2 L S w with
    | some (none, L1, S1, w1) => mrun is P L1 S1 w1
    | some (some C, L1, S1, w1) => mrun is (P ∧ C) L1 S1 w1
    | none => none
/-- a word of the tables, of those that stay -/
def inW (w : Cond) : Bool := decide (w ∈ lw_tbl) && goodWord w
theorem inW_ok {w : Cond} (h : inW w = true) : w ∈ GW := by
  unfold inW at h
  simp only [Bool.and_eq_true, decide_eq_true_eq] at h
  exact List.mem_filter.mpr h
def mchkP (M : mM) (i : Instr) (pay : mV) : Bool := match i, pay with
  | .iconst n, .inl v => decide (Int32.ofInt n = v)
  | .iconst _, _ => false
  | .bipush n, .inl v => decide ((Int8.ofInt n).toInt32 = v)
  | .bipush _, _ => false
  | .sipush n, .inl v => decide ((Int16.ofInt n).toInt32 = v)
  | .sipush _, _ => false
  | .lconst n, .inr (.inl v) => decide (Int64.ofNat n.val = v)
  | .lconst _, _ => false
  | .ldc k, .inl v => inW (.constant M.1.cls k v)
  | .ldc k, .inr (.inr (t, j)) => decide (t = 30) && sTab.any (fun q => decide (q.1 = M.1.cls) && (decide (q.2.1 = k) && decide (q.2.2.2 = j)))
  | .ldc _, _ => false
  | .ldc_w k, .inl v => inW (.constant M.1.cls k v)
  | .ldc_w _, _ => false
  | .ldc2_w k, .inr (.inl v) => inW (.constantLong M.1.cls k v)
  | .ldc2_w _, _ => false
  | .getstatic k, .inl v => decide (v = 1) && inW (.fieldLink M.1.cls k "java/lang/String" "COMPACT_STRINGS" "Z")
  | .getstatic k, .inr (.inr (t, j)) => decide (t = 32) && decide (j = 0) && inW (.fieldLink M.1.cls k "jdk/internal/util/Preconditions" "SIOOBE_FORMATTER" "Ljava/util/function/BiFunction;")
  | .getstatic _, _ => false
  | .iinc _ n, .inl v => decide (Int32.ofInt n = v)
  | .iinc _ _, _ => false
  | .getfield x, .inr (.inr (ci, k)) => if ci = 9 then (if k = 0 then inW (.fieldLink M.1.cls x "java/lang/String" "value" "[B") else inW (.fieldLink M.1.cls x "java/lang/String" "coder" "B")) else decide (ci < 4) && inW (.fieldLink M.1.cls x (oT ci k).1 (oT ci k).2.1 (oT ci k).2.2.1)
  | .getfield _, _ => false
  | .putfield x, .inr (.inr (ci, k)) => decide (ci < 4) && (decide ((oT ci k).2.2.2 = false) && inW (.fieldLink M.1.cls x (oT ci k).1 (oT ci k).2.1 (oT ci k).2.2.1))
  | .putfield _, _ => false
  | _, _ => true
def mchk (M : mM) : Nat → List mB → Nat → Bool
  | pc, [], pc' => decide (pc = pc')
  | pc, b :: is, pc' => decide (decode M.2.1 pc = .ok (b.1, ilen b.1)) && (mchkP M b.1 b.2 && mchk M (pc + ilen b.1) is pc')
end
section
/-! ===== the mini machine's instructions are the machine's: worlds and locals ===== -/
theorem mCells_inj : ∀ (i j : Nat) (q : Nat × Nat), mCells[i]? = some q → mCells[j]? = some q → i = j := by
  have hn : mCells.Nodup := by decide
  intro i j q h1 h2
  have hi : i < mCells.length := (List.getElem?_eq_some_iff.mp h1).1
  exact (List.getElem?_inj hi hn).mp (h1.trans h2.symm)
theorem mWs_get (E : mEnv) (w : mW) {pl : Nat} {q : Nat × Nat} (h : mCells[pl]? = some q) : (mWs E w)[pl]? = some (mAd E q.1 q.2, mE E w q) := by
  unfold mWs
  rw [List.getElem?_map, h]
  rfl
theorem mWs_set {E : mEnv} {w w1 : mW} {pl : Nat} {q : Nat × Nat} {x : va_E} (h : mCells[pl]? = some q) (hx : x = mE E w1 q) (ho : ∀ q', q' ≠ q → mE E w1 q' = mE E w q') : (mWs E w).set pl (mAd E q.1 q.2, x) = mWs E w1 := by
  subst hx
  have hl : pl < mCells.length := (List.getElem?_eq_some_iff.mp h).1
  apply List.ext_getElem?
  intro j
  by_cases hj : j = pl
  · subst hj
    rw [List.getElem?_set_self (by unfold mWs; rw [List.length_map]; exact hl), mWs_get E w1 h]
  · rw [List.getElem?_set_ne (Ne.symm hj)]
    unfold mWs
    rw [List.getElem?_map, List.getElem?_map]
    cases hq : mCells[j]? with
    | none => rfl
    | some q' =>
      have hne : q' ≠ q := fun e => hj (mCells_inj j pl q (by rw [hq, e]) h)
      show some (_, _) = some (_, _)
      rw [ho q' hne]
theorem mE_mpf {E : mEnv} {w : mW} {t i k : Nat} {v : Int32} {q : Nat × Nat} (h : q ≠ (t, i)) : mE E (mpf w t i k v) q = mE E w q := by
  have hf : mFd E (mpf w t i k v) q = mFd E w q := by
    funext k'
    unfold mFd mgf mpf
    have : ¬ (q.1 = t ∧ q.2 = i ∧ k' = k) := fun ⟨a, b, _⟩ => h (Prod.ext a b)
    simp only [this, if_false]
  unfold mE
  rw [hf]
  rfl
theorem mE_mpA {E : mEnv} {w : mW} {t i : Nat} {f : Nat → Int32} {q : Nat × Nat} (h : q ≠ (t, i)) : mE E (mpA w t i f) q = mE E w q := by
  have hf : mga (mpA w t i f) q.1 q.2 = mga w q.1 q.2 := by
    unfold mga mpA
    have : ¬ (q.1 = t ∧ q.2 = i) := fun ⟨a, b⟩ => h (Prod.ext a b)
    simp only [this, if_false]
  unfold mE
  rw [hf]
  rfl
theorem mE_obj {E : mEnv} {w : mW} {t i ci n : Nat} (h : oC t = some (ci, n)) : mE E w (t, i) = .inr (ci, (List.range n).map (mFd E w (t, i))) := by
  unfold mE
  simp only [h]
theorem mE_arr {E : mEnv} {w : mW} {t i : Nat} (h : oC t = none) : mE E w (t, i) = .inl (E.2.1, oA t, .inl (mga w t i)) := by
  unfold mE
  simp only [h]
theorem mFd_get {E : mEnv} {w : mW} {q : Nat × Nat} {n k : Nat} (h : k < n) : ((List.range n).map (mFd E w q))[k]? = some (mFd E w q k) := by
  rw [List.getElem?_map, List.getElem?_range h]
  rfl
theorem mFd_set {E : mEnv} {w : mW} {t i n k : Nat} {v : Int32} (h : k < n) (hr : oR t i k = none) : ((List.range n).map (mFd E w (t, i))).set k (.int v) = (List.range n).map (mFd E (mpf w t i k v) (t, i)) := by
  apply List.ext_getElem?
  intro j
  by_cases hj : j = k
  · subst hj
    rw [List.getElem?_set_self (by simpa using h), mFd_get h]
    unfold mFd mgf mpf
    simp [hr]
  · rw [List.getElem?_set_ne (Ne.symm hj), List.getElem?_map, List.getElem?_map]
    cases hq : (List.range n)[j]? with
    | none => rfl
    | some j' =>
      have : j' = j := by
        have := (List.getElem?_eq_some_iff.mp hq).2
        simpa using this.symm
      subst this
      show some _ = some _
      unfold mFd mgf mpf
      simp [hj]
theorem mRef_cell : ∀ q ∈ mRefs, q.1 < 30 → q ∈ mCells := by decide
theorem mRef_obj : ∀ q ∈ mRefs, oC q.1 ≠ none → q.1 < 30 := by decide
theorem mRef_32 : ∀ q ∈ mRefs, q.1 = 32 → q = (32, 0) := by decide
theorem mRef_str : ∀ q ∈ mRefs, q.1 = 30 → q.2 < 6 := by decide
theorem mRef_byt : ∀ q ∈ mRefs, q.1 = 31 → q.2 < 6 := by decide
theorem mRef_val : ∀ q ∈ mRefs, q.1 = 30 → (31, q.2) ∈ mRefs := by decide
theorem mRef_fldB : ∀ q ∈ mCells, ∀ k, k < 30 → (oR q.1 q.2 k).all (fun r => decide (r ∈ mRefs) && decide (r.1 ≠ 32)) = true := by decide +kernel
theorem mRef_fld {q r : Nat × Nat} {k : Nat} (hq : q ∈ mCells) (hk : k < 30) (h : oR q.1 q.2 k = some r) : r ∈ mRefs ∧ r.1 ≠ 32 := by
  have h1 := mRef_fldB q hq k hk
  rw [h] at h1
  simpa using h1
theorem oC_ltB : ∀ q ∈ mCells, (oC q.1).all (fun r => decide (r.1 < 4) && (decide (r.2 ≤ 30) && decide (vwCl[r.1]?.map (fun z => (z.1, z.2.2)) = some (oN r.1, r.2)))) = true := by decide +kernel
theorem mok_cons {x : mV} {S : List mV} (hx : mOk x) (h : ∀ v ∈ S, mOk v) : ∀ v ∈ x :: S, mOk v := fun v hv => (List.mem_cons.mp hv).elim (fun e => e ▸ hx) (h v)
theorem mok_head {x : mV} {S : List mV} (h : ∀ v ∈ x :: S, mOk v) : mOk x := h x List.mem_cons_self
theorem mok_tail {x : mV} {S : List mV} (h : ∀ v ∈ x :: S, mOk v) : ∀ v ∈ S, mOk v := fun v hv => h v (List.mem_cons_of_mem _ hv)
theorem cv_ref {E : mEnv} {t i : Nat} (h : t ≠ 32) : cv E (mR t i) = .ref (mAd E t i) := by
  show (if t = 32 then _ else _) = _
  rw [if_neg h]
theorem cv_refS {E : mEnv} {t i : Nat} {S : List mV} (h : t ≠ 32) : (mR t i :: S).map (cv E) = .ref (mAd E t i) :: S.map (cv E) := by
  rw [List.map_cons, cv_ref h]
theorem mset1_spec {v : mV} : ∀ {L L1 : List (Option mV)} {i : Nat}, mset1 L i v = some L1 → (i < L.length ∧ L1.length = L.length ∧ L1[i]? = some (some v)) ∧ (∀ j, j ≠ i → L1[j]? = L[j]?) ∧ ∀ j x, j + 1 = i → L[j]? ≠ some (some (.inr (.inl x)))
  | [], _, _, h => by simp [mset1] at h
  | a :: l, L1, 0, h => by
    simp only [mset1, Option.some.injEq] at h
    subst h
    refine ⟨⟨by simp, by simp, by simp⟩, fun j hj => ?_, fun j x hj => by omega⟩
    cases j with
    | zero => exact absurd rfl hj
    | succ j => simp
  | a :: l, L1, i + 1, h => by
    have hk : (∀ x, i = 0 → a ≠ some (.inr (.inl x))) ∧ ∃ l', mset1 l i v = some l' ∧ L1 = a :: l' := by
      unfold mset1 at h
      split at h
      · cases h
      · rename_i hne
        split at h
        · rename_i l' e1
          refine ⟨fun x hi ha => hne x ha hi, l', e1, by simpa using h.symm⟩
        · cases h
    obtain ⟨h1, l', h2, rfl⟩ := hk
    obtain ⟨⟨g1, g2, g3⟩, g4, g5⟩ := mset1_spec h2
    refine ⟨⟨by simpa using g1, by simpa using g2, by simpa using g3⟩, fun j hj => ?_, fun j x hj => ?_⟩
    · cases j with
      | zero => simp
      | succ j => simpa using g4 j (by omega)
    · cases j with
      | zero => simpa using h1 x (by omega)
      | succ j => simpa using g5 j x (by omega)
theorem mset2_spec {v : mV} : ∀ {L L1 : List (Option mV)} {i : Nat}, mset2 L i v = some L1 → (i + 1 < L.length ∧ L1.length = L.length ∧ L1[i]? = some (some v) ∧ L1[i + 1]? = some none) ∧ (∀ j, j ≠ i → j ≠ i + 1 → L1[j]? = L[j]?) ∧ ∀ j x, j + 1 = i → L[j]? ≠ some (some (.inr (.inl x)))
  | [], _, _, h => by simp [mset2] at h
  | [_], _, _, h => by simp [mset2] at h
  | a :: b :: l, L1, 0, h => by
    simp only [mset2, Option.some.injEq] at h
    subst h
    refine ⟨⟨by simp, by simp, by simp, by simp⟩, fun j hj hj2 => ?_, fun j x hj => by omega⟩
    match j with
    | 0 => exact absurd rfl hj
    | 1 => exact absurd rfl hj2
    | j + 2 => simp
  | a :: b :: l, L1, i + 1, h => by
    have hk : (∀ x, i = 0 → a ≠ some (.inr (.inl x))) ∧ ∃ l', mset2 (b :: l) i v = some l' ∧ L1 = a :: l' := by
      unfold mset2 at h
      split at h
      · cases h
      · rename_i hne
        split at h
        · rename_i l' e1
          refine ⟨fun x hi ha => hne x ha hi, l', e1, by simpa using h.symm⟩
        · cases h
    obtain ⟨h1, l', h2, rfl⟩ := hk
    obtain ⟨⟨g1, g2, g3, g6⟩, g4, g5⟩ := mset2_spec h2
    refine ⟨⟨by simpa using g1, by simpa using g2, by simpa using g3, by simpa using g6⟩, fun j hj hj2 => ?_, fun j x hj => ?_⟩
    · cases j with
      | zero => simp
      | succ j => simpa using g4 j (by omega) (by omega)
    · cases j with
      | zero => simpa using h1 x (by omega)
      | succ j => simpa using g5 j x (by omega)
def mPairs (E : mEnv) (L : List (Option mV)) : List (Nat × Value) := (List.range L.length).filterMap (fun i => match L[i]? with
  | some (some v) => some (i, cv E v)
  | _ => none)
theorem mPairs_mem {E : mEnv} {L : List (Option mV)} {i : Nat} {v : mV} (h : L[i]? = some (some v)) : (i, cv E v) ∈ mPairs E L := by
  refine List.mem_filterMap.mpr ⟨i, List.mem_range.mpr (List.getElem?_eq_some_iff.mp h).1, ?_⟩
  simp only [h]
theorem mLoc.has {E : mEnv} {ls : Array Slot} {nL : Nat} {L : List (Option mV)} (h : mLoc E ls nL L) : lv_has ls nL (mPairs E L) := by
  refine ⟨h.1.1, h.2.1, fun q hq => ?_⟩
  obtain ⟨i, -, hi⟩ := List.mem_filterMap.mp hq
  split at hi
  · rename_i v hv
    cases hi
    exact (h.2.2 i v hv).2
  · cases hi
theorem cv_cat {E : mEnv} {v : mV} (h : (E.2.2.2 = .null ∨ ∃ a, E.2.2.2 = .ref a)) : (cv E v).category = (match v with | .inr (.inl _) => 2 | _ => 1) := by
  rcases v with x | x | r
  · rfl
  · rfl
  · show (if r.1 = 32 then E.2.2.2 else .ref (mAd E r.1 r.2)).category = 1
    split
    · rcases h with h | ⟨a, h⟩ <;> rw [h] <;> rfl
    · rfl
theorem mset1_loc {E : mEnv} {ls ls' : Array Slot} {nL i : Nat} {L L1 : List (Option mV)} {v : mV} (hF : (E.2.2.2 = .null ∨ ∃ a, E.2.2.2 = .ref a)) (h : mLoc E ls nL L) (hs : mset1 L i v = some L1) (hv : mOk v) (hl : lv_has ls' nL ((i, cv E v) :: (mPairs E L).filter (fun q => !(q.1 == i) && !(q.1 + 1 == i && q.2.category == 2)))) : mLoc E ls' nL L1 := by
  obtain ⟨⟨g1, g2, g3⟩, g4, g5⟩ := mset1_spec hs
  refine ⟨⟨hl.1, by rw [g2]; exact h.1.2⟩, hl.2.1, fun j u hj => ?_⟩
  by_cases hji : j = i
  · subst hji
    rw [g3] at hj
    cases hj
    exact ⟨hv, hl.2.2 _ List.mem_cons_self⟩
  · rw [g4 j hji] at hj
    refine ⟨(h.2.2 j u hj).1, hl.2.2 (j, cv E u) (List.mem_cons_of_mem _ (List.mem_filter.mpr ⟨mPairs_mem hj, ?_⟩))⟩
    simp only [Bool.and_eq_true, Bool.not_eq_true', beq_eq_false_iff_ne, ne_eq, Bool.and_eq_false_iff]
    refine ⟨hji, ?_⟩
    by_cases hk : j + 1 = i
    · right
      rw [cv_cat hF]
      rcases u with x | x | r
      · simp
      · exact absurd hj (g5 j x hk)
      · simp
    · exact Or.inl hk
theorem mset2_loc {E : mEnv} {ls ls' : Array Slot} {nL i : Nat} {L L1 : List (Option mV)} {v : mV} (hF : (E.2.2.2 = .null ∨ ∃ a, E.2.2.2 = .ref a)) (h : mLoc E ls nL L) (hs : mset2 L i v = some L1) (hv : mOk v) (hl : lv_has ls' nL ((i, cv E v) :: (mPairs E L).filter (fun q => !(q.1 == i) && (!(q.1 == i + 1) && !(q.1 + 1 == i && q.2.category == 2))))) : mLoc E ls' nL L1 := by
  obtain ⟨⟨g1, g2, g3, g6⟩, g4, g5⟩ := mset2_spec hs
  refine ⟨⟨hl.1, by rw [g2]; exact h.1.2⟩, hl.2.1, fun j u hj => ?_⟩
  by_cases hji : j = i
  · subst hji
    rw [g3] at hj
    cases hj
    exact ⟨hv, hl.2.2 _ List.mem_cons_self⟩
  · by_cases hji2 : j = i + 1
    · subst hji2
      rw [g6] at hj
      cases hj
    · rw [g4 j hji hji2] at hj
      refine ⟨(h.2.2 j u hj).1, hl.2.2 (j, cv E u) (List.mem_cons_of_mem _ (List.mem_filter.mpr ⟨mPairs_mem hj, ?_⟩))⟩
      simp only [Bool.and_eq_true, Bool.not_eq_true', beq_eq_false_iff_ne, ne_eq, Bool.and_eq_false_iff]
      refine ⟨hji, hji2, ?_⟩
      by_cases hk : j + 1 = i
      · right
        rw [cv_cat hF]
        rcases u with x | x | r
        · simp
        · exact absurd hj (g5 j x hk)
        · simp
      · exact Or.inl hk
end
section
/-! ===== each instruction of the mini machine is the machine's ===== -/
section MS
variable {E : mEnv} {A : Nat → Prop} {p : Program} {l : Launch} {e : Env} {R : Room} {s : State} {m : MethodId} {args : Array Value} {below : List Frame} {meth : Method} {c : Code} {cells slots : Nat} {Z : State → Prop} {M : mM} {pc : Nat} {L L1 : List (Option mV)} {S S1 : List mV} {w w1 : mW}
theorem mldI_spec {i : Nat} {r : Option Prop × List (Option mV) × List mV × mW} (h : mldI L i S w = some r) : ∃ x, L[i]? = some (some (.inl x)) ∧ r = (none, L, mI x :: S, w) := by
  unfold mldI at h
  split at h
  · exact ⟨_, ‹_›, by simpa using h.symm⟩
  · cases h
theorem mldJ_spec {i : Nat} {r : Option Prop × List (Option mV) × List mV × mW} (h : mldJ L i S w = some r) : ∃ x, L[i]? = some (some (.inr (.inl x))) ∧ r = (none, L, mJ x :: S, w) := by
  unfold mldJ at h
  split at h
  · exact ⟨_, ‹_›, by simpa using h.symm⟩
  · cases h
theorem mldA_spec {i : Nat} {r : Option Prop × List (Option mV) × List mV × mW} (h : mldA L i S w = some r) : ∃ t j, t ≠ 32 ∧ L[i]? = some (some (.inr (.inr (t, j)))) ∧ r = (none, L, mR t j :: S, w) := by
  unfold mldA at h
  split at h
  · split at h
    · cases h
    · exact ⟨_, _, ‹_›, ‹_›, by simpa using h.symm⟩
  · cases h
theorem mstI_spec {i : Nat} {r : Option Prop × List (Option mV) × List mV × mW} (h : mstI L i S w = some r) : ∃ x S0 L0, S = .inl x :: S0 ∧ mset1 L i (mI x) = some L0 ∧ r = (none, L0, S0, w) := by
  unfold mstI at h
  split at h
  · split at h
    · exact ⟨_, _, _, rfl, ‹_›, by simpa using h.symm⟩
    · cases h
  · cases h
theorem mstJ_spec {i : Nat} {r : Option Prop × List (Option mV) × List mV × mW} (h : mstJ L i S w = some r) : ∃ x S0 L0, S = .inr (.inl x) :: S0 ∧ mset2 L i (mJ x) = some L0 ∧ r = (none, L0, S0, w) := by
  unfold mstJ at h
  split at h
  · split at h
    · exact ⟨_, _, _, rfl, ‹_›, by simpa using h.symm⟩
    · cases h
  · cases h
theorem mstA_spec {i : Nat} {r : Option Prop × List (Option mV) × List mV × mW} (h : mstA L i S w = some r) : ∃ t j S0 L0, t ≠ 32 ∧ S = .inr (.inr (t, j)) :: S0 ∧ mset1 L i (mR t j) = some L0 ∧ r = (none, L0, S0, w) := by
  unfold mstA at h
  split at h
  · split at h
    · cases h
    · split at h
      · exact ⟨_, _, _, _, ‹_›, rfl, ‹_›, by simpa using h.symm⟩
      · cases h
  · cases h
theorem mCtx.F (hc : mCtx E A p s m args c M) : (E.2.2.2 = .null ∨ ∃ a, E.2.2.2 = .ref a) := hc.2.2.2.2.2.2.2.2.2.2
theorem mCtx.K (hc : mCtx E A p s m args c M) : va_K E.1 vwCl [(E.2.1, .int)] s := hc.2.2.2.2.2.1
theorem mCtx.own (hc : mCtx E A p s m args c M) : s.vm.findClass M.1.cls = some m.cls := hc.2.2.2.1
theorem mCtx.ts (hc : mCtx E A p s m args c M) : ∀ w ∈ GW, w.before args s = true := hc.2.2.2.2.1
theorem mCtx.word (hc : mCtx E A p s m args c M) {w : Cond} (h : inW w = true) : w.before args s = true := hc.2.2.2.2.1 w (inW_ok h)
/-- the field table of a class, and its words -/
theorem oW_in0 : ∀ w ∈ u_ws RX0 TX0 3, inW w = true := by decide +kernel
theorem oW_in1 : ∀ w ∈ u_ws RX1 TX1 11, inW w = true := by decide +kernel
theorem oW_in2 : ∀ w ∈ u_ws RX2 TX2 9, inW w = true := by decide +kernel
theorem oW_in3 : ∀ w ∈ u_ws RX3 TX3 30, inW w = true := by decide +kernel
def oF : Nat → Nat
  | 0 => 3
  | 1 => 11
  | 2 => 9
  | _ => 30
theorem oTab {ci : Nat} (h : ci < 4) : vwCl[ci]? = some (oN ci, oT ci, oF ci) ∧ (∀ w ∈ u_ws (oN ci) (oT ci) (oF ci), w ∈ GW) ∧ (∀ k, k < oF ci → parseFieldDescriptor (oT ci k).2.2.1 = some (oY ci k)) ∧ (∀ a, a < oF ci → ∀ b, b < oF ci → a ≠ b → (oT ci a).2.1 ≠ (oT ci b).2.1) := by
  match ci, h with
  | 0, _ => exact ⟨rfl, fun w hw => inW_ok (oW_in0 w hw), tyX0_ok, nmX0⟩
  | 1, _ => exact ⟨rfl, fun w hw => inW_ok (oW_in1 w hw), tyX1_ok, nmX1⟩
  | 2, _ => exact ⟨rfl, fun w hw => inW_ok (oW_in2 w hw), tyX2_ok, nmX2⟩
  | 3, _ => exact ⟨rfl, fun w hw => inW_ok (oW_in3 w hw), tyX3_ok, nmX3⟩
theorem oC_F {t ci n : Nat} (h : oC t = some (ci, n)) : ci < 4 ∧ n = oF ci := by
  unfold oC at h
  split at h <;> first | (cases h; exact ⟨by decide, rfl⟩) | cases h
theorem ms_getf (hc : mCtx E A p s m args c M) {x : Nat} {pay : mV} {C : Option Prop} (hd : decode M.2.1 pc = .ok (.getfield x, 3)) (hp : mchkP M (.getfield x) pay = true) (hs : mstep (.getfield x) pay L S w = some (C, L1, S1, w1))
    (k : mG E A p l e R s m args below meth c cells slots Z M (pc + 3) L1 S1 w1) : mG E A p l e R s m args below meth c cells slots Z M pc L S w := by
  have hs0 : ∃ ci kk t i S0, pay = .inr (.inr (ci, kk)) ∧ S = .inr (.inr (t, i)) :: S0 ∧ mgetf ci kk t i L S0 w = some (C, L1, S1, w1) := by
    simp only [mstep] at hs
    split at hs
    · exact ⟨_, _, _, _, _, rfl, rfl, hs⟩
    · cases hs
  obtain ⟨ci, kk, t, i, S0, rfl, rfl, hg⟩ := hs0
  intro H locs ls hH hS hL hO
  have hok : (t, i) ∈ mRefs := mok_head hO
  have hO0 := mok_tail hO
  cases ho : oC t with
  | some q =>
    obtain ⟨cj, n⟩ := q
    unfold mgetf at hg
    simp only [ho] at hg
    split at hg
    · rename_i hcj
      subst hcj
      split at hg
      · rename_i hk
        obtain ⟨hc4, rfl⟩ := oC_F ho
        obtain ⟨t1, t2, t3, t4⟩ := oTab hc4
        have hlt : t < 30 := mRef_obj (t, i) hok (by rw [ho]; exact fun z => by cases z)
        have hcell : (t, i) ∈ mCells := mRef_cell (t, i) hok hlt
        obtain ⟨pl, hpl⟩ := List.getElem?_of_mem hcell
        have hk30 : kk < 30 := Nat.lt_of_lt_of_le hk (by match cj, hc4 with | 0, _ => decide | 1, _ => decide | 2, _ => decide | 3, _ => decide)
        have hlink : inW (.fieldLink M.1.cls x (oT cj kk).1 (oT cj kk).2.1 (oT cj kk).2.2.1) = true := by
          have h9 : ¬ cj = 9 := by omega
          simp only [mchkP, h9, if_false, Bool.and_eq_true] at hp
          exact hp.2
        have hget := mWs_get E w hpl
        rw [mE_obj ho] at hget
        rw [cv_refS (by omega)]
        have goal : ∀ v : mV, cv E v = mFd E w (t, i) kk → mOk v → (C, L1, S1, w1) = (none, L, v :: S0, w) → W p l e R s m args below meth c H locs cells slots Z (F0 m pc ls (.ref (mAd E t i) :: S0.map (cv E))) := by
          intro v hv hvo he
          cases he
          refine va_get (D := E.1) (ci := cj) (v := mFd E w (t, i) kk) hc.1 hc.2.1 hc.ts t2 hc.own hc.K hH.1 pl hget t1 kk hk (hc.word hlink) (fun _ h => h) (mFd_get hk) hd ?_
          have h9 := k H locs ls hH hS hL (mok_cons hvo hO0)
          rw [List.map_cons, hv] at h9
          exact h9
        split at hg
        · rename_i t' i' hr
          refine goal (mR t' i') ?_ (mRef_fld hcell hk30 hr).1 (by simpa using hg.symm)
          rw [cv_ref (mRef_fld hcell hk30 hr).2]
          unfold mFd
          rw [hr]
        · rename_i hr
          refine goal (mI (mgf w t i kk)) ?_ trivial (by simpa using hg.symm)
          unfold mFd
          rw [hr]
          rfl
      · cases hg
    · cases hg
  | none =>
    unfold mgetf at hg
    simp only [ho] at hg
    split at hg
    · rename_i ht
      subst ht
      split at hg
      · rename_i hci
        subst hci
        have hi6 : i < 6 := mRef_str (30, i) hok rfl
        have hstr := hc.2.2.2.2.2.2.1.1 i hi6
        rw [cv_refS (by decide)]
        split at hg
        · rename_i hk
          subst hk
          cases hg
          have hlink : inW (.fieldLink M.1.cls x "java/lang/String" "value" "[B") = true := by
            simpa [mchkP] using hp
          obtain ⟨cf, k', fi, f, cell, h1, h2, h3, h4, h5, h6⟩ := hstr.2.2.1.kept hS.2.1
          refine W.getf hc.1 hc.2.1 hc.own (hc.word hlink) h1 h2 h3 h4 h5 rfl rfl hd ?_
          exact k H locs ls hH hS hL (mok_cons (mRef_val (30, i) hok rfl) hO0)
        · rename_i hk
          cases hg
          have hlink : inW (.fieldLink M.1.cls x "java/lang/String" "coder" "B") = true := by
            simpa [mchkP, hk] using hp
          obtain ⟨cf, k', fi, f, cell, h1, h2, h3, h4, h5, h6⟩ := hstr.2.1.kept hS.2.1
          refine W.getf hc.1 hc.2.1 hc.own (hc.word hlink) h1 h2 h3 h4 h5 rfl rfl hd ?_
          exact k H locs ls hH hS hL (mok_cons trivial hO0)
      · cases hg
    · cases hg
theorem ms_putf (hc : mCtx E A p s m args c M) {x : Nat} {pay : mV} {C : Option Prop} (hd : decode M.2.1 pc = .ok (.putfield x, 3)) (hp : mchkP M (.putfield x) pay = true) (hs : mstep (.putfield x) pay L S w = some (C, L1, S1, w1)) (hC : ∀ z, C = some z → z)
    (k : mG E A p l e R s m args below meth c cells slots Z M (pc + 3) L1 S1 w1) : mG E A p l e R s m args below meth c cells slots Z M pc L S w := by
  have hs0 : ∃ ci kk v t i S0, pay = .inr (.inr (ci, kk)) ∧ S = .inl v :: .inr (.inr (t, i)) :: S0 ∧ mputf ci kk v t i L S0 w = some (C, L1, S1, w1) := by
    simp only [mstep] at hs
    split at hs
    · exact ⟨_, _, _, _, _, _, rfl, rfl, hs⟩
    · cases hs
  obtain ⟨ci, kk, v, t, i, S0, rfl, rfl, hg⟩ := hs0
  intro H locs ls hH hS hL hO
  have hok : (t, i) ∈ mRefs := mok_head (mok_tail hO)
  have hO0 := mok_tail (mok_tail hO)
  unfold mputf at hg
  split at hg
  · rename_i cj n ho
    split at hg
    · rename_i hcj
      subst hcj
      split at hg
      · rename_i hk
        obtain ⟨hc4, rfl⟩ := oC_F ho
        obtain ⟨t1, t2, t3, t4⟩ := oTab hc4
        have hlt : t < 30 := mRef_obj (t, i) hok (by rw [ho]; exact fun z => by cases z)
        have hcell : (t, i) ∈ mCells := mRef_cell (t, i) hok hlt
        obtain ⟨pl, hpl⟩ := List.getElem?_of_mem hcell
        simp only [mchkP, Bool.and_eq_true, decide_eq_true_eq] at hp
        split at hg
        · cases hg
        · rename_i hr
          have hget := mWs_get E w hpl
          rw [mE_obj ho] at hget
          have goal : ∀ ty, oY cj kk = ty → narrow ty (.int v) = .int v → fits ty (.int v) = true → (L1, S1, w1) = (L, S0, mpf w t i kk v) → W p l e R s m args below meth c H locs cells slots Z (F0 m pc ls ((.inl v :: .inr (.inr (t, i)) :: S0).map (cv E))) := by
            intro ty hty hn hf he
            cases he
            rw [List.map_cons, cv_refS (by omega)]
            refine va_put (D := E.1) (ci := cj) (v := .int v) (ty := ty) hc.1 hc.2.1 hc.ts t2 (oY cj) t3 t4 hc.own hc.K hH.1 hH.2 hS pl hget t1 kk hk (hc.word hp.2.2) (fun _ h => h) hp.2.1 (by rw [t3 kk hk, hty]) hn hf (by simpa using hk) hd (fun H1 locs1 hP hD hS1 => ?_)
            have hset : (mWs E w).set pl (mAd E t i, .inr (cj, ((List.range (oF cj)).map (mFd E w (t, i))).set kk (.int v))) = mWs E (mpf w t i kk v) := mWs_set hpl (by rw [mE_obj ho, mFd_set hk hr]) (fun q' hq' => mE_mpf hq')
            rw [hset] at hP hD
            exact k H1 locs1 ls ⟨hP, hD⟩ hS1 hL hO0
          split at hg
          · rename_i hty
            cases hg
            exact goal .int hty rfl rfl rfl
          · rename_i hty
            cases hg
            have hv := hC _ rfl
            exact goal .boolean hty (by rcases hv with rfl | rfl <;> rfl) (by rcases hv with rfl | rfl <;> rfl) rfl
          · cases hg
      · cases hg
    · cases hg
  · cases hg
theorem ms_iald (hc : mCtx E A p s m args c M) {j : Int32} {t i : Nat} (ht : t < 30) (ho : oC t = none) (hd : decode M.2.1 pc = .ok (.iaload, 1)) (hin : vp_in j (oA t))
    (k : mG E A p l e R s m args below meth c cells slots Z M (pc + 1) L (mI (mga w t i j.toNatClampNeg) :: S) w) : mG E A p l e R s m args below meth c cells slots Z M pc L (.inl j :: .inr (.inr (t, i)) :: S) w := by
  intro H locs ls hH hS hL hO
  have hok : (t, i) ∈ mRefs := mok_head (mok_tail hO)
  have hO0 := mok_tail (mok_tail hO)
  obtain ⟨pl, hpl⟩ := List.getElem?_of_mem (mRef_cell (t, i) hok ht)
  have hget := mWs_get E w hpl
  rw [mE_arr ho] at hget
  rw [List.map_cons, cv_refS (by omega)]
  exact va_iald hc.1 hc.2.1 hc.K hH.1 pl 0 hget rfl hin hd (k H locs ls hH hS hL (mok_cons trivial hO0))
theorem ms_iast (hc : mCtx E A p s m args c M) {j v : Int32} {t i : Nat} (ht : t < 30) (ho : oC t = none) (hd : decode M.2.1 pc = .ok (.iastore, 1)) (hin : vp_in j (oA t))
    (k : mG E A p l e R s m args below meth c cells slots Z M (pc + 1) L S (mpA w t i (upd (mga w t i) j.toNatClampNeg v))) : mG E A p l e R s m args below meth c cells slots Z M pc L (.inl v :: .inl j :: .inr (.inr (t, i)) :: S) w := by
  intro H locs ls hH hS hL hO
  have hok : (t, i) ∈ mRefs := mok_head (mok_tail (mok_tail hO))
  have hO0 := mok_tail (mok_tail (mok_tail hO))
  obtain ⟨pl, hpl⟩ := List.getElem?_of_mem (mRef_cell (t, i) hok ht)
  have hget := mWs_get E w hpl
  rw [mE_arr ho] at hget
  rw [List.map_cons, List.map_cons, cv_refS (by omega)]
  refine va_iast hc.1 hc.2.1 hc.K hH.1 hH.2 hS pl 0 hget rfl hin hd (fun H1 locs1 hP hD hS1 => ?_)
  have hset : (mWs E w).set pl (mAd E t i, .inl (E.2.1, oA t, .inl (upd (mga w t i) j.toNatClampNeg v))) = mWs E (mpA w t i (upd (mga w t i) j.toNatClampNeg v)) := mWs_set hpl (by rw [mE_arr ho]; simp [mga, mpA]) (fun q' hq' => mE_mpA hq')
  rw [hset] at hP hD
  exact k H1 locs1 ls ⟨hP, hD⟩ hS1 hL hO0
theorem ms_alen (hc : mCtx E A p s m args c M) {t i : Nat} (ht : t < 30) (ho : oC t = none) (hd : decode M.2.1 pc = .ok (.arraylength, 1))
    (k : mG E A p l e R s m args below meth c cells slots Z M (pc + 1) L (mI (nI (oA t)) :: S) w) : mG E A p l e R s m args below meth c cells slots Z M pc L (.inr (.inr (t, i)) :: S) w := by
  intro H locs ls hH hS hL hO
  have hok : (t, i) ∈ mRefs := mok_head hO
  have hO0 := mok_tail hO
  obtain ⟨pl, hpl⟩ := List.getElem?_of_mem (mRef_cell (t, i) hok ht)
  have hget := mWs_get E w hpl
  rw [mE_arr ho] at hget
  rw [cv_refS (by omega)]
  exact va_alen (v := nI (oA t)) hc.1 hc.2.1 hc.K hH.1 pl 0 hget (ty := .int) rfl rfl hd (k H locs ls hH hS hL (mok_cons trivial hO0))
theorem ms_bald (hc : mCtx E A p s m args c M) {j : Int32} {i : Nat} (hd : decode M.2.1 pc = .ok (.baload, 1)) (hin : vp_in j (sLen.getD i 0))
    (k : mG E A p l e R s m args below meth c cells slots Z M (pc + 1) L (mI ((sByt.getD i []).getD j.toNatClampNeg 0) :: S) w) : mG E A p l e R s m args below meth c cells slots Z M pc L (.inl j :: .inr (.inr (31, i)) :: S) w := by
  intro H locs ls hH hS hL hO
  have hok : (31, i) ∈ mRefs := mok_head (mok_tail hO)
  have hO0 := mok_tail (mok_tail hO)
  have hstr := hc.2.2.2.2.2.2.1.1 i (mRef_byt (31, i) hok rfl)
  rw [List.map_cons, cv_refS (by decide)]
  exact va_tb hc.1 hc.2.1 hstr.2.2.2 hS hin rfl hd (k H locs ls hH hS hL (mok_cons trivial hO0))
theorem ms_blen (hc : mCtx E A p s m args c M) {i : Nat} (hd : decode M.2.1 pc = .ok (.arraylength, 1))
    (k : mG E A p l e R s m args below meth c cells slots Z M (pc + 1) L (mI (nI (sLen.getD i 0)) :: S) w) : mG E A p l e R s m args below meth c cells slots Z M pc L (.inr (.inr (31, i)) :: S) w := by
  intro H locs ls hH hS hL hO
  have hok : (31, i) ∈ mRefs := mok_head hO
  have hO0 := mok_tail hO
  have hstr := hc.2.2.2.2.2.2.1.1 i (mRef_byt (31, i) hok rfl)
  rw [cv_refS (by decide)]
  exact va_tlen hc.1 hc.2.1 hstr.2.2.2 hS rfl hd (k H locs ls hH hS hL (mok_cons trivial hO0))
end MS
end
section
/-! ===== a stretch of code ===== -/
section MS
variable {E : mEnv} {A : Nat → Prop} {p : Program} {l : Launch} {e : Env} {R : Room} {s : State} {m : MethodId} {args : Array Value} {below : List Frame} {meth : Method} {c : Code} {cells slots : Nat} {Z : State → Prop} {M : mM} {pc : Nat} {L L1 : List (Option mV)} {S S1 : List mV} {w w1 : mW}
theorem ms_ldstr (hc : mCtx E A p s m args c M) {x j : Nat} (hd : decode M.2.1 pc = .ok (.ldc x, 2)) (h : sTab.any (fun q => decide (q.1 = M.1.cls) && (decide (q.2.1 = x) && decide (q.2.2.2 = j))) = true)
    (k : mG E A p l e R s m args below meth c cells slots Z M (pc + 2) L (mR 30 j :: S) w) : mG E A p l e R s m args below meth c cells slots Z M pc L S w := by
  intro H locs ls hH hS hL hO
  obtain ⟨q, hq, hb⟩ := List.any_eq_true.mp h
  simp only [Bool.and_eq_true, decide_eq_true_eq] at hb
  obtain ⟨h1, h2, h3⟩ := hb
  have hr := hc.2.2.2.2.2.2.2.1 q hq
  rw [h1, h2, h3] at hr
  have hj : ∀ z ∈ sTab, (30, z.2.2.2) ∈ mRefs := by decide
  have hjj := hj q hq
  rw [h3] at hjj
  have h9 := k H locs ls hH hS hL (mok_cons hjj hO)
  rw [cv_refS (by decide)] at h9
  exact va_ldcS hc.1 hc.2.1 hc.own hr hd h9
theorem ms_gets1 (hc : mCtx E A p s m args c M) {x : Nat} (hd : decode M.2.1 pc = .ok (.getstatic x, 3)) (h : inW (.fieldLink M.1.cls x "java/lang/String" "COMPACT_STRINGS" "Z") = true)
    (k : mG E A p l e R s m args below meth c cells slots Z M (pc + 3) L (mI 1 :: S) w) : mG E A p l e R s m args below meth c cells slots Z M pc L S w := by
  intro H locs ls hH hS hL hO
  exact va_gets hc.1 hc.2.1 hc.2.2.2.2.2.2.2.2.1 hS hc.own (hc.word h) (fun _ h => h) hd (k H locs ls hH hS hL (mok_cons trivial hO))
theorem ms_gets2 (hc : mCtx E A p s m args c M) {x : Nat} (hd : decode M.2.1 pc = .ok (.getstatic x, 3)) (h : inW (.fieldLink M.1.cls x "jdk/internal/util/Preconditions" "SIOOBE_FORMATTER" "Ljava/util/function/BiFunction;") = true)
    (k : mG E A p l e R s m args below meth c cells slots Z M (pc + 3) L (mR 32 0 :: S) w) : mG E A p l e R s m args below meth c cells slots Z M pc L S w := by
  intro H locs ls hH hS hL hO
  exact va_gets hc.1 hc.2.1 hc.2.2.2.2.2.2.2.2.2.1 hS hc.own (hc.word h) (fun _ h => h) hd (k H locs ls hH hS hL (mok_cons (by decide : (32, 0) ∈ mRefs) hO))
theorem ms_iinc (hc : mCtx E A p s m args c M) {x : Nat} {n : Int} {v y : Int32} (hd : decode M.2.1 pc = .ok (.iinc x n, 3)) (hv : Int32.ofInt n = v) (hx : L[x]? = some (some (.inl y))) (hm : mset1 L x (mI (y + v)) = some L1)
    (k : mG E A p l e R s m args below meth c cells slots Z M (pc + 3) L1 S w) : mG E A p l e R s m args below meth c cells slots Z M pc L S w := by
  intro H locs ls hH hS hL hO
  have hh := hL.has
  obtain ⟨k0, hk0⟩ := List.getElem?_of_mem (mPairs_mem (E := E) hx)
  have hlt : x < M.2.2.1 := by rw [← hL.1.2]; exact (mset1_spec hm).1.1
  refine lv_iinc (v := y + v) hc.1 hc.2.1 hd hh (k := k0) hk0 (by rw [hv]) hlt rfl (fun ls' hl' => ?_)
  exact k H locs ls' hH hS (mset1_loc hc.F hL hm trivial hl') hO
theorem mstep_ok (hc : mCtx E A p s m args c M) {i : Instr} {pay : mV} {C : Option Prop} (hd : decode M.2.1 pc = .ok (i, ilen i)) (hp : mchkP M i pay = true) (hs : mstep i pay L S w = some (C, L1, S1, w1)) (hC : ∀ z, C = some z → z)
    (k : mG E A p l e R s m args below meth c cells slots Z M (pc + ilen i) L1 S1 w1) : mG E A p l e R s m args below meth c cells slots Z M pc L S w := by
  cases i with
  | iconst n =>
    cases hs
    cases pay with
    | inr z => simp [mchkP] at hp
    | inl v => exact fun H locs ls hH hS hL hO => lv_iconst hc.1 hc.2.1 hd (of_decide_eq_true hp) (k H locs ls hH hS hL (mok_cons trivial hO))
  | bipush n =>
    cases hs
    cases pay with
    | inr z => simp [mchkP] at hp
    | inl v => exact fun H locs ls hH hS hL hO => lv_bipush hc.1 hc.2.1 hd (of_decide_eq_true hp) (k H locs ls hH hS hL (mok_cons trivial hO))
  | sipush n =>
    cases hs
    cases pay with
    | inr z => simp [mchkP] at hp
    | inl v => exact fun H locs ls hH hS hL hO => lv_sipush hc.1 hc.2.1 hd (of_decide_eq_true hp) (k H locs ls hH hS hL (mok_cons trivial hO))
  | lconst n =>
    cases hs
    rcases pay with v | v | v
    · simp [mchkP] at hp
    · exact fun H locs ls hH hS hL hO => lv_lconst hc.1 hc.2.1 hd (of_decide_eq_true hp) (k H locs ls hH hS hL (mok_cons trivial hO))
    · simp [mchkP] at hp
  | ldc x =>
    cases hs
    rcases pay with v | v | ⟨t, j⟩
    · exact fun H locs ls hH hS hL hO => lv_ldc hc.1 hc.2.1 hc.own (hc.word hp) hd (k H locs ls hH hS hL (mok_cons trivial hO))
    · simp [mchkP] at hp
    · have hp2 : decide (t = 30) = true ∧ sTab.any (fun q => decide (q.1 = M.1.cls) && (decide (q.2.1 = x) && decide (q.2.2.2 = j))) = true := by
        have h9 := hp
        unfold mchkP at h9
        exact Bool.and_eq_true_iff.mp h9
      have ht : t = 30 := of_decide_eq_true hp2.1
      subst ht
      exact ms_ldstr hc hd hp2.2 k
  | ldc_w x =>
    cases hs
    rcases pay with v | v | v
    · exact fun H locs ls hH hS hL hO => lv_ldcw hc.1 hc.2.1 hc.own (hc.word hp) hd (k H locs ls hH hS hL (mok_cons trivial hO))
    · simp [mchkP] at hp
    · simp [mchkP] at hp
  | ldc2_w x =>
    cases hs
    rcases pay with v | v | v
    · simp [mchkP] at hp
    · exact fun H locs ls hH hS hL hO => lv_ldc2 hc.1 hc.2.1 hc.own (hc.word hp) hd (k H locs ls hH hS hL (mok_cons trivial hO))
    · simp [mchkP] at hp
  | getstatic x =>
    cases hs
    rcases pay with v | v | ⟨t, j⟩
    · have h9 := hp
      unfold mchkP at h9
      obtain ⟨h1, h2⟩ := Bool.and_eq_true_iff.mp h9
      have hv : v = 1 := of_decide_eq_true h1
      subst hv
      exact ms_gets1 hc hd h2 k
    · simp [mchkP] at hp
    · have h9 := hp
      unfold mchkP at h9
      obtain ⟨h1, h2⟩ := Bool.and_eq_true_iff.mp h9
      obtain ⟨h3, h4⟩ := Bool.and_eq_true_iff.mp h1
      have ht : t = 32 := of_decide_eq_true h3
      have hj : j = 0 := of_decide_eq_true h4
      subst ht
      subst hj
      exact ms_gets2 hc hd h2 k
  | iload_n x =>
    obtain ⟨v, hv, he⟩ := mldI_spec hs
    cases he
    exact fun H locs ls hH hS hL hO => lv_iload_n hc.1 hc.2.1 hd rfl (hL.2.2 _ _ hv).2 (k H locs ls hH hS hL (mok_cons trivial hO))
  | iload x =>
    obtain ⟨v, hv, he⟩ := mldI_spec hs
    cases he
    exact fun H locs ls hH hS hL hO => lv_iload hc.1 hc.2.1 hd (hL.2.2 _ _ hv).2 (k H locs ls hH hS hL (mok_cons trivial hO))
  | lload_n x =>
    obtain ⟨v, hv, he⟩ := mldJ_spec hs
    cases he
    exact fun H locs ls hH hS hL hO => lv_lload_n hc.1 hc.2.1 hd rfl (hL.2.2 _ _ hv).2 (k H locs ls hH hS hL (mok_cons trivial hO))
  | lload x =>
    obtain ⟨v, hv, he⟩ := mldJ_spec hs
    cases he
    exact fun H locs ls hH hS hL hO => lv_lload hc.1 hc.2.1 hd (hL.2.2 _ _ hv).2 (k H locs ls hH hS hL (mok_cons trivial hO))
  | aload_n x =>
    obtain ⟨t, j, ht, hv, he⟩ := mldA_spec hs
    cases he
    intro H locs ls hH hS hL hO
    have h9 := (hL.2.2 _ _ hv).2
    rw [cv_ref ht] at h9
    have h8 := k H locs ls hH hS hL (mok_cons (hL.2.2 _ _ hv).1 hO)
    rw [cv_refS ht] at h8
    exact lv_aload_n hc.1 hc.2.1 hd rfl h9 h8
  | aload x =>
    obtain ⟨t, j, ht, hv, he⟩ := mldA_spec hs
    cases he
    intro H locs ls hH hS hL hO
    have h9 := (hL.2.2 _ _ hv).2
    rw [cv_ref ht] at h9
    have h8 := k H locs ls hH hS hL (mok_cons (hL.2.2 _ _ hv).1 hO)
    rw [cv_refS ht] at h8
    exact lv_aload hc.1 hc.2.1 hd h9 h8
  | istore_n x =>
    obtain ⟨v, S0, L0, rfl, hm, he⟩ := mstI_spec hs
    cases he
    exact fun H locs ls hH hS hL hO => lv_istore_n hc.1 hc.2.1 hd rfl hL.has (by rw [← hL.1.2]; exact (mset1_spec hm).1.1) rfl (fun ls' hl' => k H locs ls' hH hS (mset1_loc hc.F hL hm trivial hl') (mok_tail hO))
  | istore x =>
    obtain ⟨v, S0, L0, rfl, hm, he⟩ := mstI_spec hs
    cases he
    exact fun H locs ls hH hS hL hO => lv_istore hc.1 hc.2.1 hd hL.has (by rw [← hL.1.2]; exact (mset1_spec hm).1.1) rfl (fun ls' hl' => k H locs ls' hH hS (mset1_loc hc.F hL hm trivial hl') (mok_tail hO))
  | lstore_n x =>
    obtain ⟨v, S0, L0, rfl, hm, he⟩ := mstJ_spec hs
    cases he
    exact fun H locs ls hH hS hL hO => lv_lstore_n hc.1 hc.2.1 hd rfl hL.has (by rw [← hL.1.2]; exact (mset2_spec hm).1.1) rfl (fun ls' hl' => k H locs ls' hH hS (mset2_loc hc.F hL hm trivial hl') (mok_tail hO))
  | lstore x =>
    obtain ⟨v, S0, L0, rfl, hm, he⟩ := mstJ_spec hs
    cases he
    exact fun H locs ls hH hS hL hO => lv_lstore hc.1 hc.2.1 hd hL.has (by rw [← hL.1.2]; exact (mset2_spec hm).1.1) rfl (fun ls' hl' => k H locs ls' hH hS (mset2_loc hc.F hL hm trivial hl') (mok_tail hO))
  | astore_n x =>
    obtain ⟨t, j, S0, L0, ht, rfl, hm, he⟩ := mstA_spec hs
    cases he
    intro H locs ls hH hS hL hO
    rw [cv_refS ht]
    refine lv_astore_n hc.1 hc.2.1 hd rfl hL.has (by rw [← hL.1.2]; exact (mset1_spec hm).1.1) rfl (fun ls' hl' => k H locs ls' hH hS (mset1_loc hc.F hL hm (mok_head hO) ?_) (mok_tail hO))
    rw [cv_ref ht]
    exact hl'
  | astore x =>
    obtain ⟨t, j, S0, L0, ht, rfl, hm, he⟩ := mstA_spec hs
    cases he
    intro H locs ls hH hS hL hO
    rw [cv_refS ht]
    refine lv_astore hc.1 hc.2.1 hd hL.has (by rw [← hL.1.2]; exact (mset1_spec hm).1.1) rfl (fun ls' hl' => k H locs ls' hH hS (mset1_loc hc.F hL hm (mok_head hO) ?_) (mok_tail hO))
    rw [cv_ref ht]
    exact hl'
  | iinc x n =>
    simp only [mstep] at hs
    split at hs
    · rename_i v y hx
      split at hs
      · rename_i L0 hm
        cases hs
        exact ms_iinc hc hd (of_decide_eq_true hp) hx hm k
      · cases hs
    · cases hs
  | iadd =>
    simp only [mstep] at hs
    split at hs
    · cases hs
      exact fun H locs ls hH hS hL hO => lv_iadd hc.1 hc.2.1 hd (k H locs ls hH hS hL (mok_cons trivial (mok_tail (mok_tail hO))))
    · cases hs
  | isub =>
    simp only [mstep] at hs
    split at hs
    · cases hs
      exact fun H locs ls hH hS hL hO => lv_isub hc.1 hc.2.1 hd (k H locs ls hH hS hL (mok_cons trivial (mok_tail (mok_tail hO))))
    · cases hs
  | imul =>
    simp only [mstep] at hs
    split at hs
    · cases hs
      exact fun H locs ls hH hS hL hO => lv_imul hc.1 hc.2.1 hd (k H locs ls hH hS hL (mok_cons trivial (mok_tail (mok_tail hO))))
    · cases hs
  | idiv =>
    simp only [mstep] at hs
    split at hs
    · cases hs
      exact fun H locs ls hH hS hL hO => lv_idiv hc.1 hc.2.1 hd (hC _ rfl) (k H locs ls hH hS hL (mok_cons trivial (mok_tail (mok_tail hO))))
    · cases hs
  | irem =>
    simp only [mstep] at hs
    split at hs
    · cases hs
      exact fun H locs ls hH hS hL hO => lv_irem hc.1 hc.2.1 hd (hC _ rfl) (k H locs ls hH hS hL (mok_cons trivial (mok_tail (mok_tail hO))))
    · cases hs
  | iand =>
    simp only [mstep] at hs
    split at hs
    · cases hs
      exact fun H locs ls hH hS hL hO => lv_iand hc.1 hc.2.1 hd (k H locs ls hH hS hL (mok_cons trivial (mok_tail (mok_tail hO))))
    · cases hs
  | ior =>
    simp only [mstep] at hs
    split at hs
    · cases hs
      exact fun H locs ls hH hS hL hO => lv_ior hc.1 hc.2.1 hd (k H locs ls hH hS hL (mok_cons trivial (mok_tail (mok_tail hO))))
    · cases hs
  | ixor =>
    simp only [mstep] at hs
    split at hs
    · cases hs
      exact fun H locs ls hH hS hL hO => lv_ixor hc.1 hc.2.1 hd (k H locs ls hH hS hL (mok_cons trivial (mok_tail (mok_tail hO))))
    · cases hs
  | ishl =>
    simp only [mstep] at hs
    split at hs
    · cases hs
      exact fun H locs ls hH hS hL hO => lv_ishl hc.1 hc.2.1 hd (k H locs ls hH hS hL (mok_cons trivial (mok_tail (mok_tail hO))))
    · cases hs
  | ishr =>
    simp only [mstep] at hs
    split at hs
    · cases hs
      exact fun H locs ls hH hS hL hO => lv_ishr hc.1 hc.2.1 hd (k H locs ls hH hS hL (mok_cons trivial (mok_tail (mok_tail hO))))
    · cases hs
  | iushr =>
    simp only [mstep] at hs
    split at hs
    · cases hs
      exact fun H locs ls hH hS hL hO => lv_iushr hc.1 hc.2.1 hd rfl (k H locs ls hH hS hL (mok_cons trivial (mok_tail (mok_tail hO))))
    · cases hs
  | ineg =>
    simp only [mstep] at hs
    split at hs
    · cases hs
      exact fun H locs ls hH hS hL hO => lv_ineg hc.1 hc.2.1 hd (k H locs ls hH hS hL (mok_cons trivial (mok_tail hO)))
    · cases hs
  | i2l =>
    simp only [mstep] at hs
    split at hs
    · cases hs
      exact fun H locs ls hH hS hL hO => lv_i2l hc.1 hc.2.1 hd rfl (k H locs ls hH hS hL (mok_cons trivial (mok_tail hO)))
    · cases hs
  | i2b =>
    simp only [mstep] at hs
    split at hs
    · cases hs
      exact fun H locs ls hH hS hL hO => lv_i2b hc.1 hc.2.1 hd rfl (k H locs ls hH hS hL (mok_cons trivial (mok_tail hO)))
    · cases hs
  | i2c =>
    simp only [mstep] at hs
    split at hs
    · cases hs
      exact fun H locs ls hH hS hL hO => lv_i2c hc.1 hc.2.1 hd rfl (k H locs ls hH hS hL (mok_cons trivial (mok_tail hO)))
    · cases hs
  | lsub =>
    simp only [mstep] at hs
    split at hs
    · cases hs
      exact fun H locs ls hH hS hL hO => lv_lsub hc.1 hc.2.1 hd (k H locs ls hH hS hL (mok_cons trivial (mok_tail (mok_tail hO))))
    · cases hs
  | ldiv =>
    simp only [mstep] at hs
    split at hs
    · cases hs
      exact fun H locs ls hH hS hL hO => lv_ldiv hc.1 hc.2.1 hd (hC _ rfl) (k H locs ls hH hS hL (mok_cons trivial (mok_tail (mok_tail hO))))
    · cases hs
  | lrem =>
    simp only [mstep] at hs
    split at hs
    · cases hs
      exact fun H locs ls hH hS hL hO => lv_lrem hc.1 hc.2.1 hd (hC _ rfl) (k H locs ls hH hS hL (mok_cons trivial (mok_tail (mok_tail hO))))
    · cases hs
  | lcmp =>
    simp only [mstep] at hs
    split at hs
    · cases hs
      exact fun H locs ls hH hS hL hO => W.lcmp hc.1 hc.2.1 hd (k H locs ls hH hS hL (mok_cons trivial (mok_tail (mok_tail hO))))
    · cases hs
  | dup =>
    simp only [mstep] at hs
    split at hs
    · cases hs
      exact fun H locs ls hH hS hL hO => lv_dup hc.1 hc.2.1 hd rfl (k H locs ls hH hS hL (mok_cons trivial hO))
    · split at hs
      · cases hs
      · rename_i ht
        cases hs
        intro H locs ls hH hS hL hO
        have h8 := k H locs ls hH hS hL (mok_cons (mok_head hO) hO)
        rw [cv_refS ht, cv_refS ht] at h8
        rw [cv_refS ht]
        exact lv_dup hc.1 hc.2.1 hd rfl h8
    · cases hs
  | pop =>
    simp only [mstep] at hs
    split at hs
    · cases hs
      exact fun H locs ls hH hS hL hO => lv_pop hc.1 hc.2.1 hd rfl (k H locs ls hH hS hL (mok_tail hO))
    · cases hs
  | dup2 =>
    simp only [mstep] at hs
    split at hs
    · split at hs
      · cases hs
      · rename_i ht
        cases hs
        intro H locs ls hH hS hL hO
        have h8 := k H locs ls hH hS hL (mok_cons (mok_head hO) (mok_cons (mok_head (mok_tail hO)) hO))
        rw [List.map_cons, cv_refS ht, List.map_cons, cv_refS ht] at h8
        rw [List.map_cons, cv_refS ht]
        exact lv_dup2_11 hc.1 hc.2.1 hd rfl rfl h8
    · cases hs
  | getfield x => exact ms_getf hc hd hp hs k
  | putfield x => exact ms_putf hc hd hp hs hC k
  | iaload =>
    simp only [mstep] at hs
    split at hs
    · split at hs
      · cases hs
      · rename_i ht
        split at hs
        · rename_i ho
          cases hs
          exact ms_iald hc (by omega) ho hd (hC _ rfl) k
        · cases hs
    · cases hs
  | iastore =>
    simp only [mstep] at hs
    split at hs
    · split at hs
      · cases hs
      · rename_i ht
        split at hs
        · rename_i ho
          cases hs
          exact ms_iast hc (by omega) ho hd (hC _ rfl) k
        · cases hs
    · cases hs
  | baload =>
    simp only [mstep] at hs
    split at hs
    · split at hs
      · rename_i ht
        subst ht
        cases hs
        exact ms_bald hc hd (hC _ rfl) k
      · cases hs
    · cases hs
  | arraylength =>
    simp only [mstep] at hs
    split at hs
    · split at hs
      · rename_i ht
        subst ht
        cases hs
        exact ms_blen hc hd k
      · split at hs
        · cases hs
        · rename_i ht
          split at hs
          · rename_i ho
            cases hs
            exact ms_alen hc (by omega) ho hd k
          · cases hs
    · cases hs
  | _ => cases hs
theorem mrun_P {P P1 : Prop} : ∀ {is : List mB} {P : Prop} {L : List (Option mV)} {S : List mV} {w : mW}, mrun is P L S w = some (P1, L1, S1, w1) → P1 → P := by
  intro is
  induction is with
  | nil =>
    intro P L S w h hP
    simp only [mrun, Option.some.injEq, Prod.mk.injEq] at h
    rw [h.1]
    exact hP
  | cons b is ih =>
    intro P L S w h hP
    simp only [mrun] at h
    split at h
    · exact ih h hP
    · exact (ih h hP).1
    · cases h
theorem mrun_ok (hc : mCtx E A p s m args c M) {P1 : Prop} {pc1 : Nat} (hP : P1) (k : mG E A p l e R s m args below meth c cells slots Z M pc1 L1 S1 w1) : ∀ {is : List mB} {pc : Nat} {P : Prop} {L : List (Option mV)} {S : List mV} {w : mW}, mchk M pc is pc1 = true → mrun is P L S w = some (P1, L1, S1, w1) → mG E A p l e R s m args below meth c cells slots Z M pc L S w := by
  intro is
  induction is with
  | nil =>
    intro pc P L S w hk h
    simp only [mrun, Option.some.injEq, Prod.mk.injEq] at h
    obtain ⟨-, rfl, rfl, rfl⟩ := h
    have : pc = pc1 := of_decide_eq_true hk
    rw [this]
    exact k
  | cons b is ih =>
    intro pc P L S w hk h
    simp only [mchk, Bool.and_eq_true, decide_eq_true_eq] at hk
    obtain ⟨hd, hp, hk⟩ := hk
    simp only [mrun] at h
    split at h
    · rename_i hs
      exact mstep_ok hc hd hp hs (fun z hz => by cases hz) (ih hk h)
    · rename_i hs
      exact mstep_ok hc hd hp hs (fun z hz => by cases hz; exact (mrun_P (P := True) h hP).2) (ih hk h)
    · cases h
end MS
end
section
/-! ===== branches, answers, calls ===== -/
def mcnd (i : Instr) (S : List mV) : Option (Prop × List mV) := match i, S with
  | .ifCond .eq _, .inl x :: S => some (x = 0, S)
  | .ifCond .ne _, .inl x :: S => some (¬ x = 0, S)
  | .ifCond .lt _, .inl x :: S => some (x < 0, S)
  | .ifCond .ge _, .inl x :: S => some (0 ≤ x, S)
  | .ifCond .gt _, .inl x :: S => some (0 < x, S)
  | .ifCond .le _, .inl x :: S => some (x ≤ 0, S)
  | .if_icmp .eq _, .inl y :: .inl x :: S => some (x = y, S)
  | .if_icmp .ne _, .inl y :: .inl x :: S => some (¬ x = y, S)
  | .if_icmp .lt _, .inl y :: .inl x :: S => some (x < y, S)
  | .if_icmp .ge _, .inl y :: .inl x :: S => some (y ≤ x, S)
  | .if_icmp .gt _, .inl y :: .inl x :: S => some (y < x, S)
  | .if_icmp .le _, .inl y :: .inl x :: S => some (x ≤ y, S)
  | _, _ => none
def moff : Instr → Int
  | .ifCond _ o => o
  | .if_icmp _ o => o
  | .goto o => o
  | _ => 0
/-- a branch, a jump of three bytes, to a place -/
def mbk (M : mM) (pc : Nat) (i : Instr) (tgt : Nat) : Bool := decide (decode M.2.1 pc = .ok (i, 3)) && decide ((pc : Int) + moff i = (tgt : Int))
/-- an instruction of one byte -/
def mrk (M : mM) (pc : Nat) (i : Instr) : Bool := decide (decode M.2.1 pc = .ok (i, 1))
def mexp : List mV → List (Option mV)
  | [] => []
  | .inl x :: vs => some (.inl x) :: mexp vs
  | .inr (.inl x) :: vs => some (.inr (.inl x)) :: none :: mexp vs
  | .inr (.inr r) :: vs => some (.inr (.inr r)) :: mexp vs
def ment (n : Nat) (as : List mV) : List (Option mV) := mexp as ++ List.replicate (n - (mexp as).length) none
def mcs : List mV → Nat
  | [] => 0
  | .inr (.inl _) :: vs => 2 + mcs vs
  | _ :: vs => 1 + mcs vs
/-- what the tables say of a call of M at an entry of a class's pool -/
def mlk (own : String) (idx : Nat) (M : mM) (st : Bool) (n : Nat) : Bool :=
  inW (.methodLink own idx M.1) && (inW (.initialized M.1.cls) && (inW (.code M.1 M.2.1 M.2.2.1 M.2.2.2) && (decide ((parseMethodDescriptor M.1.desc).map (fun d => d.parameters.length) = some n) && (decide (M.1.cls ≠ "java/lang/invoke/MethodHandle" ∧ M.1.cls ≠ "java/lang/invoke/VarHandle") && (plainName M.1.cls && (decide (M.2.2.1 ≤ 19) && (if st then inW (.static M.1) else inW (.instanceMethod M.1) && inW (.selects M.1.cls M.1 M.1))))))))
def mrcv (t : Nat) : String := match oC t with
  | some (ci, _) => oN ci
  | none => if t = 30 then "java/lang/String" else ""
theorem mWs_mA {E : mEnv} {w : mW} {k : Nat} {q : Nat × va_E} (h : (mWs E w)[k]? = some q) : mA E q.1 := by
  unfold mWs at h
  rw [List.getElem?_map] at h
  cases hq : mCells[k]? with
  | none => rw [hq] at h; cases h
  | some z =>
    rw [hq] at h
    cases h
    exact ⟨z, List.mem_of_getElem? hq, rfl⟩
theorem mA_sub {E : mEnv} {A : Nat → Prop} {w : mW} (hD : va_D A (mWs E w)) : ∀ a, mA E a → A a := by
  rintro a ⟨q, hq, rfl⟩
  obtain ⟨k, hk⟩ := List.getElem?_of_mem hq
  exact hD.2 k _ (mWs_get E w hk)
theorem mHold.self {E : mEnv} {A : Nat → Prop} {w : mW} {H : Heap} (h : mHold E A w H) : mHold E (mA E) w H := ⟨h.1, h.2.weaken fun _ _ hk _ => mWs_mA hk⟩
theorem mHold.to {E : mEnv} {A : Nat → Prop} {w : mW} {H : Heap} (hA : ∀ a, mA E a → A a) (h : mHold E (mA E) w H) : mHold E A w H := ⟨h.1, h.2.weaken fun _ _ _ ha => hA _ ha⟩
theorem mStr.go {E : mEnv} {A : Nat → Prop} {s U : State} {H : Heap} {locs : List Loc} (h : mStr E A s) (hS : va_S A s.heap H locs) (hA : ∀ a, mA E a → A a) (hU : U.heap = H) (hW : s.WarmedH U.vm) : mStr E (mA E) U := by
  obtain ⟨h1, h2, h3, h4, h5⟩ := h
  refine ⟨?_, fun q hq => vk_R.warm hW (h2 q hq), ?_, ?_, h5⟩
  · rw [hU]
    exact ((h1.kept hS.2.1).narrow hA).moved hW.alike
  · rw [hU]
    exact ((h3.kept hS.2.1).narrow hA).moved hW.alike
  · rw [hU]
    exact ((h4.kept hS.2.1).narrow hA).moved hW.alike
def mPc (E : mEnv) (as : List mV) (w : mW) : Array Value → State → Prop := va_Pc (as.map (cv E)) (fun U => va_K E.1 vwCl [(E.2.1, .int)] U ∧ mStr E (mA E) U ∧ mHold E (mA E) w U.heap)
theorem mPc_blind (E : mEnv) (as : List mV) (w : mW) : FrameBlind (mPc E as w) := by
  intro a U g mk ⟨q0, qK, qS, qH⟩
  obtain ⟨h1, h2, h3, h4, h5⟩ := qS
  exact ⟨q0, va_K.moved (u := U) (U := U.calling g mk a) (Vm.Alike.refl U.vm) qK, ⟨vk_S.moved (u := U) (U := U.calling g mk a) (Vm.Alike.refl U.vm) h1, fun q hq => vk_R.same (u := U) (U := U.calling g mk a) rfl (h2 q hq), va_Z.moved (u := U) (U := U.calling g mk a) (Vm.Alike.refl U.vm) h3, va_Z.moved (u := U) (U := U.calling g mk a) (Vm.Alike.refl U.vm) h4, h5⟩, qH⟩
theorem mexp_args {E : mEnv} (hF : (E.2.2.2 = .null ∨ ∃ a, E.2.2.2 = .ref a)) : ∀ (as : List mV) (b i : Nat) (v : mV), (mexp as)[i]? = some (some v) → (b + i, cv E v) ∈ lv_args b (as.map (cv E)) ∧ v ∈ as
  | [], b, i, v, h => by simp [mexp] at h
  | .inl x :: as, b, i, v, h => by
    cases i with
    | zero =>
      simp only [mexp, List.getElem?_cons_zero, Option.some.injEq] at h
      subst h
      exact ⟨List.mem_cons_self, List.mem_cons_self⟩
    | succ i =>
      simp only [mexp, List.getElem?_cons_succ] at h
      obtain ⟨h1, h2⟩ := mexp_args hF as (b + 1) i v h
      refine ⟨List.mem_cons_of_mem _ ?_, List.mem_cons_of_mem _ h2⟩
      rw [if_neg (by show ¬ (Value.int x).category = 2; exact fun z => by cases z)]
      rw [show b + (i + 1) = b + 1 + i by omega]
      exact h1
  | .inr (.inl x) :: as, b, i, v, h => by
    match i, h with
    | 0, h =>
      simp only [mexp, List.getElem?_cons_zero, Option.some.injEq] at h
      subst h
      exact ⟨List.mem_cons_self, List.mem_cons_self⟩
    | 1, h => simp [mexp] at h
    | i + 2, h =>
      simp only [mexp, List.getElem?_cons_succ] at h
      obtain ⟨h1, h2⟩ := mexp_args hF as (b + 2) i v h
      refine ⟨List.mem_cons_of_mem _ ?_, List.mem_cons_of_mem _ h2⟩
      rw [if_pos (by show (Value.long x).category = 2; rfl)]
      rw [show b + (i + 2) = b + 2 + i by omega]
      exact h1
  | .inr (.inr r) :: as, b, i, v, h => by
    cases i with
    | zero =>
      simp only [mexp, List.getElem?_cons_zero, Option.some.injEq] at h
      subst h
      exact ⟨List.mem_cons_self, List.mem_cons_self⟩
    | succ i =>
      simp only [mexp, List.getElem?_cons_succ] at h
      obtain ⟨h1, h2⟩ := mexp_args hF as (b + 1) i v h
      refine ⟨List.mem_cons_of_mem _ ?_, List.mem_cons_of_mem _ h2⟩
      rw [if_neg (by rw [cv_cat hF]; exact fun z => by cases z)]
      rw [show b + (i + 1) = b + 1 + i by omega]
      exact h1
theorem mexp_len {E : mEnv} (hF : (E.2.2.2 = .null ∨ ∃ a, E.2.2.2 = .ref a)) : ∀ (as : List mV), (lg_sl (as.map (cv E))).length = (mexp as).length
  | [] => rfl
  | .inl x :: as => by
    have h := mexp_len hF as
    unfold lg_sl at h ⊢
    rw [List.map_cons, List.flatMap_cons, List.length_append, h, if_neg (by rw [cv_cat hF]; exact fun z => by cases z)]
    simp [mexp]; omega
  | .inr (.inl x) :: as => by
    have h := mexp_len hF as
    unfold lg_sl at h ⊢
    rw [List.map_cons, List.flatMap_cons, List.length_append, h, if_pos (by rw [cv_cat hF])]
    simp [mexp]; omega
  | .inr (.inr r) :: as => by
    have h := mexp_len hF as
    unfold lg_sl at h ⊢
    rw [List.map_cons, List.flatMap_cons, List.length_append, h, if_neg (by rw [cv_cat hF]; exact fun z => by cases z)]
    simp [mexp]; omega
theorem ment_loc {E : mEnv} (hF : (E.2.2.2 = .null ∨ ∃ a, E.2.2.2 = .ref a)) {as : List mV} {n : Nat} (hn : (mexp as).length ≤ n) (hok : ∀ v ∈ as, mOk v) : mLoc E ((lg_sl (as.map (cv E)) ++ List.replicate (n - (lg_sl (as.map (cv E))).length) Slot.unset).toArray) n (ment n as) := by
  have hl := lv_entry (as.map (cv E)) (n := n) (by rw [mexp_len hF]; exact hn)
  refine ⟨⟨hl.1, by unfold ment; simp; omega⟩, hl.2.1, fun i v hi => ?_⟩
  have hi2 : (mexp as)[i]? = some (some v) := by
    unfold ment at hi
    by_cases h : i < (mexp as).length
    · rw [List.getElem?_append_left h] at hi
      exact hi
    · rw [List.getElem?_append_right (by omega)] at hi
      have := List.mem_of_getElem? hi
      have := List.eq_of_mem_replicate this
      cases this
  obtain ⟨h1, h2⟩ := mexp_args (E := E) hF as 0 i v hi2
  rw [Nat.zero_add] at h1
  exact ⟨hok v h2, hl.2.2 _ h1⟩
theorem GW_good : ∀ w ∈ GW, w ∈ GW ∧ ((w.onTables && w.keeps) = true ∨ ∃ ty, w = .arrayClass ty) := fun w h => ⟨h, good_of_word (List.mem_filter.mp h).2⟩
theorem Ev.met {l : Launch} {d : Nat} {M : mM} {as : List mV} {w : mW} {Q : Option mV → mW → Prop} (h : Ev l d M 0 (ment M.2.2.1 as) [] w Q) (hy : plainName M.1.cls = true) (hn : (mexp as).length ≤ M.2.2.1) (hok : ∀ v ∈ as, mOk v) (E : mEnv) :
    Met l M.1 (.code M.1 M.2.1 M.2.2.1 M.2.2.2 :: GW) (mRm d) (mPc E as w) (mQc E Q) 0 0 (mA E) := by
  refine Met.ofW (cc := M.2.1) (maxL := M.2.2.1) (ret := M.2.2.2) hy rfl ?_
  intro p e s m args below meth c s₁ B hml hv
  obtain ⟨rfl, hK, hStr, hH⟩ := hv
  have hts := atoms_spec (ws := .code M.1 M.2.1 M.2.2.1 M.2.2.2 :: GW) B.pre
  have hown : s.vm.findClass M.1.cls = some m.cls := findClass_of_methodNamed B.named
  rw [lg_entry_eq]
  exact h E p e s m _ below meth c ⟨B.exec, B.bytes, hml, hown, fun w hw => hts w (List.mem_cons_of_mem _ hw), hK, hStr⟩ B.notSynchronized B.returns s.heap [] _ hH va_S.rf (ment_loc hStr.2.2.2.2 hn hok) (fun v hv => by cases hv)
section MC
variable {E : mEnv} {A : Nat → Prop} {p : Program} {l : Launch} {e : Env} {R : Room} {s : State} {m : MethodId} {args : Array Value} {below : List Frame} {meth : Method} {c : Code} {cells slots : Nat} {Z : State → Prop} {M : mM} {pc : Nat} {L : List (Option mV)} {S : List mV} {w : mW}
theorem mbr_ok (hc : mCtx E A p s m args c M) {i : Instr} {tgt : Nat} {C : Prop} {S0 : List mV} (hk : mbk M pc i tgt = true) (hb : mcnd i S = some (C, S0))
    (kt : C → mG E A p l e R s m args below meth c cells slots Z M tgt L S0 w) (kf : ¬ C → mG E A p l e R s m args below meth c cells slots Z M (pc + 3) L S0 w) : mG E A p l e R s m args below meth c cells slots Z M pc L S w := by
  unfold mbk at hk
  simp only [Bool.and_eq_true, decide_eq_true_eq] at hk
  obtain ⟨hd, ht⟩ := hk
  intro H locs ls hH hS hL hO
  unfold mcnd at hb
  split at hb
  all_goals first
    | (cases hb; exact lv_if_eq hc.1 hc.2.1 hd ht (fun h => kt h H locs ls hH hS hL (mok_tail hO)) (fun h => kf h H locs ls hH hS hL (mok_tail hO)))
    | (cases hb; exact lv_if_ne hc.1 hc.2.1 hd ht (fun h => kt h H locs ls hH hS hL (mok_tail hO)) (fun h => kf (fun z => z h) H locs ls hH hS hL (mok_tail hO)))
    | (cases hb; exact lv_if_lt hc.1 hc.2.1 hd ht (fun h => kt h H locs ls hH hS hL (mok_tail hO)) (fun h => kf h H locs ls hH hS hL (mok_tail hO)))
    | (cases hb; exact lv_if_ge hc.1 hc.2.1 hd ht (fun h => kt h H locs ls hH hS hL (mok_tail hO)) (fun h => kf h H locs ls hH hS hL (mok_tail hO)))
    | (cases hb; exact lv_if_gt hc.1 hc.2.1 hd ht (fun h => kt h H locs ls hH hS hL (mok_tail hO)) (fun h => kf h H locs ls hH hS hL (mok_tail hO)))
    | (cases hb; exact lv_if_le hc.1 hc.2.1 hd ht (fun h => kt h H locs ls hH hS hL (mok_tail hO)) (fun h => kf h H locs ls hH hS hL (mok_tail hO)))
    | (cases hb; exact lv_icmp_eq hc.1 hc.2.1 hd ht (fun h => kt h H locs ls hH hS hL (mok_tail (mok_tail hO))) (fun h => kf h H locs ls hH hS hL (mok_tail (mok_tail hO))))
    | (cases hb; exact lv_icmp_ne hc.1 hc.2.1 hd ht (fun h => kt h H locs ls hH hS hL (mok_tail (mok_tail hO))) (fun h => kf (fun z => z h) H locs ls hH hS hL (mok_tail (mok_tail hO))))
    | (cases hb; exact lv_icmp_lt hc.1 hc.2.1 hd ht (fun h => kt h H locs ls hH hS hL (mok_tail (mok_tail hO))) (fun h => kf h H locs ls hH hS hL (mok_tail (mok_tail hO))))
    | (cases hb; exact lv_icmp_ge hc.1 hc.2.1 hd ht (fun h => kt h H locs ls hH hS hL (mok_tail (mok_tail hO))) (fun h => kf h H locs ls hH hS hL (mok_tail (mok_tail hO))))
    | (cases hb; exact lv_icmp_gt hc.1 hc.2.1 hd ht (fun h => kt h H locs ls hH hS hL (mok_tail (mok_tail hO))) (fun h => kf h H locs ls hH hS hL (mok_tail (mok_tail hO))))
    | (cases hb; exact lv_icmp_le hc.1 hc.2.1 hd ht (fun h => kt h H locs ls hH hS hL (mok_tail (mok_tail hO))) (fun h => kf h H locs ls hH hS hL (mok_tail (mok_tail hO))))
    | cases hb
theorem mjmp_ok (hc : mCtx E A p s m args c M) {o : Int} {tgt : Nat} (hk : mbk M pc (.goto o) tgt = true) (k : mG E A p l e R s m args below meth c cells slots Z M tgt L S w) : mG E A p l e R s m args below meth c cells slots Z M pc L S w := by
  unfold mbk at hk
  simp only [Bool.and_eq_true, decide_eq_true_eq] at hk
  exact fun H locs ls hH hS hL hO => lv_goto hc.1 hc.2.1 hk.1 hk.2 (k H locs ls hH hS hL hO)
theorem mcs_sum (hF : (E.2.2.2 = .null ∨ ∃ a, E.2.2.2 = .ref a)) : ∀ (S : List mV), ((S.map (cv E)).map fun v => v.category).sum = mcs S
  | [] => rfl
  | .inl x :: S => by rw [List.map_cons, List.map_cons, List.sum_cons, mcs_sum hF S, cv_cat hF]; rfl
  | .inr (.inl x) :: S => by rw [List.map_cons, List.map_cons, List.sum_cons, mcs_sum hF S, cv_cat hF]; rfl
  | .inr (.inr r) :: S => by rw [List.map_cons, List.map_cons, List.sum_cons, mcs_sum hF S, cv_cat hF]; rfl
/-- behind a call -/
theorem mcalled {H : Heap} {locs : List Loc} {ls : Array Slot} {st0 rest : List Value} {Q : Option mV → mW → Prop} {a : Array Value} (hr : va_Run p l e R s m args below meth c H locs cells slots 0 0 (F0 m pc ls st0) rest (mQc E Q a) (mA E)) (hS : va_S A s.heap H locs) (hA : ∀ a, mA E a → A a)
    (kk : ∀ (r : Option mV) (u : mW) (H1 : Heap) (locs1 : List Loc), (∀ v, r = some v → mOk v) → Q r u → mHold E (mA E) u H1 → va_S A s.heap H1 locs1 → W p l e R s m args below meth c H1 locs1 cells slots Z (F0 m (pc + 3) ls ((r.map (cv E)).toList ++ rest))) : W p l e R s m args below meth c H locs cells slots Z (F0 m pc ls st0) := by
  intro T hT X
  obtain ⟨v, st₀, t, T', L9, h0, X', hL, e1, e2, ⟨⟨r, u, hv, hok, hq, hh⟩, hz, hk⟩, st⟩ := hr T hT X
  cases hv
  rw [h0] at hz hk
  obtain ⟨t2, a1, b1⟩ := kk r u T'.heap (locs ++ L9) hok hq (by rw [e1]; exact hh)
    ⟨Nat.le_trans hS.1 (by rw [e1]; exact hz), fun q h1 h2 => by rw [e1, hk q (Nat.lt_of_lt_of_le h1 hS.1) (fun z => h2 (hA q z))]; exact hS.2.1 q h1 h2, fun q hq => by
      rcases List.mem_append.mp hq with h | h
      · exact hS.2.2 q h
      · exact hA _ (hL q h)⟩ T' rfl X'
  exact ⟨t2, st t2 a1, b1⟩
theorem mlk_B (hc : mCtx E A p s m args c M) {M1 : mM} {idx n d : Nat} {st : Bool} (h : mlk M.1.cls idx M1 st n = true) (hR : d + 1 ≤ R.frames ∧ 38 * d + 38 ≤ R.locals) : CallB R s args M.1.cls idx M1.1 M1.2.1 M1.2.2.1 M1.2.2.2 (.code M1.1 M1.2.1 M1.2.2.1 M1.2.2.2 :: GW) (mRm d) 0 0 n := by
  unfold mlk at h
  simp only [Bool.and_eq_true, decide_eq_true_eq] at h
  obtain ⟨h1, h2, h3, h4, h5, h6, h7, h8⟩ := h
  have hg : GoodIn GW (.code M1.1 M1.2.1 M1.2.2.1 M1.2.2.2 :: GW) := by
    intro w hw
    rcases List.mem_cons.mp hw with rfl | hw
    · exact GW_good _ (inW_ok h3)
    · exact GW_good w hw
  exact callB_of n hc.ts hg rfl rfl rfl (hc.word h2) (hc.word h1) ⟨h5.1, h5.2, h4⟩ ⟨hR.1, by show 8 + (M1.2.2.1 + 11) + 38 * d ≤ R.locals; omega⟩
theorem mr_list (r : Option mV) (S : List mV) : (r.map (cv E)).toList ++ S.map (cv E) = (r.toList ++ S).map (cv E) := by cases r <;> rfl
theorem mcallS_ok (hc : mCtx E A p s m args c M) {M1 : mM} {idx n d : Nat} {as : List mV} {Q : Option mV → mW → Prop} (hd : decode M.2.1 pc = .ok (.invokestatic idx, 3)) (hl : mlk M.1.cls idx M1 true n = true) (hn : as.length = n) (hent : (mexp as).length ≤ M1.2.2.1) (hst : mcs S ≤ 8) (hR : d + 1 ≤ R.frames ∧ 38 * d + 38 ≤ R.locals) (hcs : cells ≤ R.cells ∧ slots ≤ R.slots)
    (hE : Ev l d M1 0 (ment M1.2.2.1 as) [] w Q) (k : ∀ r u, Q r u → mG E A p l e R s m args below meth c cells slots Z M (pc + 3) L (r.toList ++ S) u) : mG E A p l e R s m args below meth c cells slots Z M pc L (as.reverse ++ S) w := by
  intro H locs ls hH hS hL hO
  have hB := mlk_B (R := R) hc hl hR
  unfold mlk at hl
  simp only [Bool.and_eq_true, decide_eq_true_eq, if_true] at hl
  obtain ⟨h1, h2, h3, h4, h5, h6, h7, h8⟩ := hl
  have hA := mA_sub hH.2
  have hok : ∀ v ∈ as, mOk v := fun v hv => hO v (List.mem_append_left _ (List.mem_reverse.mpr hv))
  have hO0 : ∀ v ∈ S, mOk v := fun v hv => hO v (List.mem_append_right _ hv)
  have hM := hE.met h6 hent hok E
  refine mcalled (Q := Q) (rest := S.map (cv E)) (va_runS (As := as.map (cv E)) (rest := S.map (cv E)) (cc := M.2.1) (Ts := GW) ⟨hc.1, hc.2.1, hc.2.2.1, hc.own, hc.ts⟩ hM ⟨hB, hc.word h8⟩ ⟨mPc_blind E as w, fun U hU hW => ⟨rfl, va_K.moved hW.alike hc.K, mStr.go hc.2.2.2.2.2.2 hS hA hU hW, by rw [hU]; exact hH.self⟩⟩ rfl (by rw [List.length_map]; exact hn) hL.1.1 (by show (as.reverse ++ S).map (cv E) = _; rw [List.map_append, List.map_reverse]) (lv_room (by rw [mcs_sum hc.F]; exact hst)) hd ⟨hcs.1, hcs.2⟩) hS hA (fun r u H1 locs1 hrok hq hh hS1 => ?_)
  rw [mr_list]
  exact k r u hq H1 locs1 ls (hh.to hA) hS1 hL (fun v hv => by
    rcases List.mem_append.mp hv with h | h
    · cases r with
      | none => cases h
      | some z =>
        have : v = z := by simpa using h
        exact this ▸ hrok z rfl
    · exact hO0 v h)
theorem mrcv_ok (hc : mCtx E A p s m args c M) {H : Heap} {locs : List Loc} {t i : Nat} {C : String} (hH : mHold E A w H) (hS : va_S A s.heap H locs) (ho : (t, i) ∈ mRefs) (ht : mrcv t = C) (hC : C ≠ "") : t ≠ 32 ∧ ∃ cell : Cell, H[mAd E t i]? = some cell ∧ cell.vm.isStatics = false ∧ s.vm.findClass C = some cell.cls := by
  unfold mrcv at ht
  cases hoc : oC t with
  | some q =>
    obtain ⟨ci, n⟩ := q
    rw [hoc] at ht
    subst ht
    obtain ⟨hc4, rfl⟩ := oC_F hoc
    have hlt : t < 30 := mRef_obj (t, i) ho (by rw [hoc]; exact fun z => by cases z)
    obtain ⟨pl, hpl⟩ := List.getElem?_of_mem (mRef_cell (t, i) ho hlt)
    have hget := mWs_get E w hpl
    rw [mE_obj hoc] at hget
    exact ⟨by omega, va_recv hc.K hH.1 (oTab hc4).1 hget⟩
  | none =>
    rw [hoc] at ht
    by_cases h30 : t = 30
    · subst h30
      simp only [if_true] at ht
      subst ht
      exact ⟨by decide, va_Orecv (hc.2.2.2.2.2.2.1.1 i (mRef_str (30, i) ho rfl)).1 hS⟩
    · simp only [h30, if_false] at ht
      exact absurd ht.symm hC
theorem mcallV_ok (hc : mCtx E A p s m args c M) {M1 : mM} {idx n d t i : Nat} {as : List mV} {Q : Option mV → mW → Prop} (hd : decode M.2.1 pc = .ok (.invokevirtual idx, 3)) (hl : mlk M.1.cls idx M1 false n = true) (ht : mrcv t = M1.1.cls) (hC : M1.1.cls ≠ "") (hn : as.length = n) (hent : (mexp (mR t i :: as)).length ≤ M1.2.2.1) (hst : mcs S ≤ 8) (hR : d + 1 ≤ R.frames ∧ 38 * d + 38 ≤ R.locals) (hcs : cells ≤ R.cells ∧ slots ≤ R.slots)
    (hE : Ev l d M1 0 (ment M1.2.2.1 (mR t i :: as)) [] w Q) (k : ∀ r u, Q r u → mG E A p l e R s m args below meth c cells slots Z M (pc + 3) L (r.toList ++ S) u) : mG E A p l e R s m args below meth c cells slots Z M pc L (as.reverse ++ mR t i :: S) w := by
  intro H locs ls hH hS hL hO
  have hB := mlk_B (R := R) hc hl hR
  unfold mlk at hl
  simp only [Bool.and_eq_true, decide_eq_true_eq, Bool.false_eq_true, if_false] at hl
  obtain ⟨h1, h2, h3, h4, h5, h6, h7, h8, h9⟩ := hl
  have hA := mA_sub hH.2
  have hO1 : ∀ v ∈ mR t i :: S, mOk v := fun v hv => hO v (List.mem_append_right _ hv)
  have hok : ∀ v ∈ mR t i :: as, mOk v := mok_cons (mok_head hO1) (fun v hv => hO v (List.mem_append_left _ (List.mem_reverse.mpr hv)))
  have hO0 : ∀ v ∈ S, mOk v := mok_tail hO1
  have hM := hE.met h6 hent hok E
  obtain ⟨ht32, hrc⟩ := mrcv_ok hc hH hS (mok_head hO1) ht hC
  refine mcalled (Q := Q) (rest := S.map (cv E)) (va_runV (C := M1.1.cls) (b := mAd E t i) (As := as.map (cv E)) (rest := S.map (cv E)) (cc := M.2.1) (Ts := GW) ⟨hc.1, hc.2.1, hc.2.2.1, hc.own, hc.ts⟩ hM ⟨hB, hc.word h8, hc.word h9⟩ ⟨mPc_blind E _ w, hrc, fun U hU hW => ⟨by rw [List.map_cons, cv_ref ht32], va_K.moved hW.alike hc.K, mStr.go hc.2.2.2.2.2.2 hS hA hU hW, by rw [hU]; exact hH.self⟩⟩ rfl (by rw [List.length_map]; exact hn) hL.1.1 (by show (as.reverse ++ mR t i :: S).map (cv E) = _; rw [List.map_append, List.map_reverse, cv_refS ht32]) (lv_room (by rw [mcs_sum hc.F]; exact hst)) hd ⟨hcs.1, hcs.2⟩) hS hA (fun r u H1 locs1 hrok hq hh hS1 => ?_)
  rw [mr_list]
  exact k r u hq H1 locs1 ls (hh.to hA) hS1 hL (fun v hv => by
    rcases List.mem_append.mp hv with h | h
    · cases r with
      | none => cases h
      | some z =>
        have : v = z := by simpa using h
        exact this ▸ hrok z rfl
    · exact hO0 v h)
end MC
end
section
/-! ===== the rules of a method's frame ===== -/
section EV
variable {l : Launch} {d d1 : Nat} {M M1 : mM} {pc pc1 tgt idx n : Nat} {L L1 : List (Option mV)} {S S1 S0 : List mV} {w w1 : mW} {Q Q1 : Option mV → mW → Prop} {is : List mB} {P1 C : Prop} {i : Instr}
theorem Ev.blk (hk : mchk M pc is pc1 = true) (hr : mrun is True L S w = some (P1, L1, S1, w1)) (hP : P1) (k : Ev l d M pc1 L1 S1 w1 Q) : Ev l d M pc L S w Q :=
  fun E p e s m args below meth c hc hlk hrt => mrun_ok hc hP (k E p e s m args below meth c hc hlk hrt) hk hr
theorem Ev.br (hk : mbk M pc i tgt = true) (hb : mcnd i S = some (C, S0)) (kt : C → Ev l d M tgt L S0 w Q) (kf : ¬ C → Ev l d M (pc + 3) L S0 w Q) : Ev l d M pc L S w Q :=
  fun E p e s m args below meth c hc hlk hrt => mbr_ok hc hk hb (fun h => kt h E p e s m args below meth c hc hlk hrt) (fun h => kf h E p e s m args below meth c hc hlk hrt)
theorem Ev.jmp {o : Int} (hk : mbk M pc (.goto o) tgt = true) (k : Ev l d M tgt L S w Q) : Ev l d M pc L S w Q :=
  fun E p e s m args below meth c hc hlk hrt => mjmp_ok hc hk (k E p e s m args below meth c hc hlk hrt)
/-- a stretch, then a branch -/
theorem Ev.bb (hk : mchk M pc is pc1 = true) (hk2 : mbk M pc1 i tgt = true) (hr : mrun is True L S w = some (P1, L1, S1, w1)) (hb : mcnd i S1 = some (C, S0)) (hP : P1) (kt : C → Ev l d M tgt L1 S0 w1 Q) (kf : ¬ C → Ev l d M (pc1 + 3) L1 S0 w1 Q) : Ev l d M pc L S w Q :=
  Ev.blk hk hr hP (Ev.br hk2 hb kt kf)
theorem Ev.bj {o : Int} (hk : mchk M pc is pc1 = true) (hk2 : mbk M pc1 (.goto o) tgt = true) (hr : mrun is True L S w = some (P1, L1, S1, w1)) (hP : P1) (k : Ev l d M tgt L1 S1 w1 Q) : Ev l d M pc L S w Q :=
  Ev.blk hk hr hP (Ev.jmp hk2 k)
theorem Ev.iret {ty : FieldType} {v : Int32} (hk : mrk M pc .ireturn = true) (hty : M.2.2.2 = some ty) (hn : narrow ty (.int v) = .int v) (hq : Q (some (mI v)) w) : Ev l d M pc L [mI v] w Q :=
  fun E p e s m args below meth c hc hlk hrt H locs ls hH hS hL hO => W.zret (v := v) (ty := ty) hc.1 hc.2.1 (hrt.trans hty) hn (fun t ht hW => ⟨⟨some (mI v), w, rfl, (fun z hz => by cases hz; trivial), hq, by rw [ht]; exact hH⟩, hS.F ht⟩) hS.2.2 (of_decide_eq_true hk) hlk
theorem Ev.lret {v : Int64} (hk : mrk M pc .lreturn = true) (hty : M.2.2.2 = some .long) (hq : Q (some (mJ v)) w) : Ev l d M pc L [mJ v] w Q :=
  fun E p e s m args below meth c hc hlk hrt H locs ls hH hS hL hO => W.lret (v := v) hc.1 hc.2.1 (hrt.trans hty) (fun t ht hW => ⟨⟨some (mJ v), w, rfl, (fun z hz => by cases hz; trivial), hq, by rw [ht]; exact hH⟩, hS.F ht⟩) hS.2.2 (of_decide_eq_true hk) hlk
theorem Ev.vret (hk : mrk M pc .return_ = true) (hty : M.2.2.2 = none) (hq : Q none w) : Ev l d M pc L [] w Q :=
  fun E p e s m args below meth c hc hlk hrt H locs ls hH hS hL hO => W.vret hc.1 hc.2.1 (hrt.trans hty) (fun t ht hW => ⟨⟨none, w, rfl, (fun z hz => by cases hz), hq, by rw [ht]; exact hH⟩, hS.F ht⟩) hS.2.2 (of_decide_eq_true hk) hlk
theorem Ev.aret {t j : Nat} {nm : String} (hk : mrk M pc .areturn = true) (ht32 : t ≠ 32) (hty : M.2.2.2 = some (.object nm)) (hq : Q (some (mR t j)) w) : Ev l d M pc L [mR t j] w Q := by
  intro E p e s m args below meth c hc hlk hrt H locs ls hH hS hL hO
  rw [cv_refS ht32]
  exact W.aret (v := .ref (mAd E t j)) hc.1 hc.2.1 (hrt.trans hty) (Or.inl ⟨nm, rfl⟩) (Or.inr ⟨_, rfl⟩) (fun t0 ht hW => ⟨⟨some (mR t j), w, (by rw [Option.map_some, cv_ref ht32]), (fun z hz => by cases hz; exact mok_head hO), hq, by rw [ht]; exact hH⟩, hS.F ht⟩) hS.2.2 (of_decide_eq_true hk) hlk
/-- a call, with the contract of the method that is called -/
abbrev Cl (l : Launch) (d : Nat) (M : mM) (as : List mV) (w : mW) (Q : Option mV → mW → Prop) : Prop := Ev l d M 0 (ment M.2.2.1 as) [] w Q
/-- an instruction of three bytes -/
def mdk (M : mM) (pc : Nat) (i : Instr) : Bool := decide (decode M.2.1 pc = .ok (i, 3))
theorem Ev.calS {as : List mV} (hk : mdk M pc (.invokestatic idx) = true) (hl : mlk M.1.cls idx M1 true n = true) (hS : S = as.reverse ++ S0) (hn : as.length = n ∧ (mexp as).length ≤ M1.2.2.1 ∧ mcs S0 ≤ 8) (hd : d1 + 1 ≤ d) (hE : Cl l d1 M1 as w Q1) (k : ∀ r u, Q1 r u → Ev l d M (pc + 3) L (r.toList ++ S0) u Q) : Ev l d M pc L S w Q := by
  subst hS
  have hk := of_decide_eq_true hk
  intro E p e s m args below meth c hc hlk hrt
  exact mcallS_ok hc hk hl hn.1 hn.2.1 hn.2.2 ⟨hd, by show 38 * d1 + 38 ≤ 38 * d; omega⟩ ⟨Nat.zero_le _, Nat.zero_le _⟩ hE (fun r u hq => k r u hq E p e s m args below meth c hc hlk hrt)
theorem Ev.calV {as : List mV} {t j : Nat} (hk : mdk M pc (.invokevirtual idx) = true) (hl : mlk M.1.cls idx M1 false n = true) (hS : S = as.reverse ++ mR t j :: S0) (ht : mrcv t = M1.1.cls) (hC : M1.1.cls ≠ "") (hn : as.length = n ∧ (mexp (mR t j :: as)).length ≤ M1.2.2.1 ∧ mcs S0 ≤ 8) (hd : d1 + 1 ≤ d) (hE : Cl l d1 M1 (mR t j :: as) w Q1) (k : ∀ r u, Q1 r u → Ev l d M (pc + 3) L (r.toList ++ S0) u Q) : Ev l d M pc L S w Q := by
  subst hS
  have hk := of_decide_eq_true hk
  intro E p e s m args below meth c hc hlk hrt
  exact mcallV_ok hc hk hl ht hC hn.1 hn.2.1 hn.2.2 ⟨hd, by show 38 * d1 + 38 ≤ 38 * d; omega⟩ ⟨Nat.zero_le _, Nat.zero_le _⟩ hE (fun r u hq => k r u hq E p e s m args below meth c hc hlk hrt)
theorem Ev.mono {Q2 : Option mV → mW → Prop} (h : Ev l d M pc L S w Q) (hQ : ∀ r u, Q r u → Q2 r u) : Ev l d M pc L S w Q2 := by
  intro E p e s m args below meth c hc hlk hrt H locs ls hH hS hL hO T hT X
  obtain ⟨t, h1, o, b1, b2, b3, b4⟩ := h E p e s m args below meth c hc hlk hrt H locs ls hH hS hL hO T hT X
  obtain ⟨⟨r, u, c1, c2, c3, c4⟩, c5⟩ := b3
  exact ⟨t, h1, o, b1, b2, ⟨⟨r, u, c1, c2, hQ r u c3, c4⟩, c5⟩, b4⟩
/-- the row of a switch -/
def mswo (i : Instr) (x : Int32) : Int := match i with
  | .tableswitch dflt lo hi offs => if x.toInt < lo ∨ hi < x.toInt then dflt else (offs[(x.toInt - lo).toNat]?).getD 0
  | .lookupswitch dflt ps => Op.lookupswitch.offset ps.toList dflt x.toInt
  | _ => 0
def mswk (M : mM) (pc : Nat) (i : Instr) (len : Nat) : Bool := decide (decode M.2.1 pc = .ok (i, len)) && (match i with
  | .tableswitch _ lo hi offs => decide (offs.size = (hi - lo + 1).toNat) && decide (lo ≤ hi)
  | .lookupswitch _ ps => (ps.toList.zip (ps.toList.drop 1)).all (fun (a, next) => a.1 < next.1)
  | _ => false)
theorem Ev.sw {len : Nat} {x : Int32} {off : Int} (hk : mswk M pc i len = true) (hx : mswo i x = off) (ht : (pc : Int) + off = (tgt : Int)) (k : Ev l d M tgt L S w Q) : Ev l d M pc L (.inl x :: S) w Q := by
  intro E p e s m args below meth c hc hlk hrt H locs ls hH hS hL hO
  unfold mswk at hk
  simp only [Bool.and_eq_true, decide_eq_true_eq] at hk
  obtain ⟨hd, hk⟩ := hk
  have h9 := k E p e s m args below meth c hc hlk hrt H locs ls hH hS hL (mok_tail hO)
  split at hk
  · rename_i dflt lo hi offs
    simp only [Bool.and_eq_true, decide_eq_true_eq] at hk
    unfold mswo at hx
    dsimp only at hx
    by_cases hr : x.toInt < lo ∨ hi < x.toInt
    · rw [if_pos hr] at hx
      exact lv_tableOut hc.1 hc.2.1 hd hr (by rw [hx]; exact ht) h9
    · rw [if_neg hr] at hx
      have hlt : (x.toInt - lo).toNat < offs.size := by rw [hk.1]; omega
      have hg : offs[(x.toInt - lo).toNat]? = some off := by
        rw [Array.getElem?_eq_getElem hlt] at hx ⊢
        simpa using hx
      exact lv_tableIn hc.1 hc.2.1 hd (fun z => hr (Or.inl z)) (fun z => hr (Or.inr z)) hg ht h9
  · rename_i dflt ps
    exact lv_lookup hc.1 hc.2.1 hd hk hx ht h9
  · cases hk
/-- Math.max and Math.min, which the machine has of its own -/
def mmk (own : String) (idx : Nat) (y : MethodName) (cc : ByteArray) : Bool := inW (.methodLink own idx y) && (inW (.static y) && (inW (.initialized "java/lang/Math") && inW (.code y cc 2 (some .int))))
def imx (x y : Int32) : Int32 := if x < y then y else x
def imn (x y : Int32) : Int32 := if y < x then y else x
theorem Ev.mmax {x y : Int32} (hk : mdk M pc (.invokestatic idx) = true) (hl : mmk M.1.cls idx Lib.Math.max.name Lib.Math.max.code = true) (hd : 1 ≤ d) (hst : mcs S ≤ 8) (k : Ev l d M (pc + 3) L (mI (imx x y) :: S) w Q) : Ev l d M pc L (mI y :: mI x :: S) w Q := by
  have hk := of_decide_eq_true hk
  unfold mmk at hl
  simp only [Bool.and_eq_true] at hl
  intro E p e s m args below meth c hc hlk hrt H locs ls hH hS hL hO
  exact va_mmax hc.1 hc.2.1 (hc.2.2.1.trans hL.1.1.symm) hc.own (hc.word hl.1) (hc.word hl.2.1) (hc.word hl.2.2.1) (hc.word hl.2.2.2) hd (by rw [mcs_sum hc.F]; show mcs S + 13 ≤ 38 * d; omega) (Nat.zero_le _) (Nat.zero_le _) hk (k E p e s m args below meth c hc hlk hrt H locs ls hH hS hL (mok_cons trivial (mok_tail (mok_tail hO))))
theorem Ev.mmin {x y : Int32} (hk : mdk M pc (.invokestatic idx) = true) (hl : mmk M.1.cls idx Lib.Math.min.name Lib.Math.min.code = true) (hd : 1 ≤ d) (hst : mcs S ≤ 8) (k : Ev l d M (pc + 3) L (mI (imn x y) :: S) w Q) : Ev l d M pc L (mI y :: mI x :: S) w Q := by
  have hk := of_decide_eq_true hk
  unfold mmk at hl
  simp only [Bool.and_eq_true] at hl
  intro E p e s m args below meth c hc hlk hrt H locs ls hH hS hL hO
  exact va_mmin hc.1 hc.2.1 (hc.2.2.1.trans hL.1.1.symm) hc.own (hc.word hl.1) (hc.word hl.2.1) (hc.word hl.2.2.1) (hc.word hl.2.2.2) hd (by rw [mcs_sum hc.F]; show mcs S + 13 ≤ 38 * d; omega) (Nat.zero_le _) (Nat.zero_le _) hk (k E p e s m args below meth c hc hlk hrt H locs ls hH hS hL (mok_cons trivial (mok_tail (mok_tail hO))))
/-- System.arraycopy of ints -/
theorem Ev.acp {sp dp nn : Int32} {ts is0 td id0 : Nat} (hk0 : mdk M pc (.invokestatic idx) = true) (hk : (inW (.methodLink M.1.cls idx arraycopyName) && (inW (.native arraycopyName) && (inW (.static arraycopyName) && inW (.initialized "java/lang/System")))) = true) (h1 : ts < 30 ∧ td < 30 ∧ oC ts = none ∧ oC td = none) (h2 : ¬ sp < 0 ∧ ¬ dp < 0 ∧ ¬ nn < 0 ∧ sp.toNatClampNeg + nn.toNatClampNeg ≤ oA ts ∧ dp.toNatClampNeg + nn.toNatClampNeg ≤ oA td) (hd : 1 ≤ d) (hst : mcs S ≤ 8)
    (k : Ev l d M (pc + 3) L S (mpA w td id0 (va_cpy (mga w ts is0) (mga w td id0) sp.toNatClampNeg dp.toNatClampNeg nn.toNatClampNeg)) Q) : Ev l d M pc L (mI nn :: mI dp :: mR td id0 :: mI sp :: mR ts is0 :: S) w Q := by
  simp only [Bool.and_eq_true] at hk
  have hk0 := of_decide_eq_true hk0
  intro E p e s m args below meth c hc hlk hrt H locs ls hH hS hL hO
  have hok1 : (td, id0) ∈ mRefs := mok_head (mok_tail (mok_tail hO))
  have hok2 : (ts, is0) ∈ mRefs := mok_head (mok_tail (mok_tail (mok_tail (mok_tail hO))))
  have hO0 := mok_tail (mok_tail (mok_tail (mok_tail (mok_tail hO))))
  obtain ⟨p1, hp1⟩ := List.getElem?_of_mem (mRef_cell (td, id0) hok1 h1.2.1)
  obtain ⟨p0, hp0⟩ := List.getElem?_of_mem (mRef_cell (ts, is0) hok2 h1.1)
  have hg1 := mWs_get E w hp1
  rw [mE_arr h1.2.2.2] at hg1
  have hg0 := mWs_get E w hp0
  rw [mE_arr h1.2.2.1] at hg0
  rw [List.map_cons, List.map_cons, cv_refS (by omega), List.map_cons, cv_refS (by omega)]
  refine va_copyi hc.1 hc.2.1 (hc.2.2.1.trans hL.1.1.symm) hc.own (hc.word hk.1) (hc.word hk.2.1) (hc.word hk.2.2.1) (hc.word hk.2.2.2) hc.K hH.1 hH.2 hS p0 p1 0 0 (ty := .int) hg0 hg1 rfl rfl rfl h2.1 h2.2.1 h2.2.2.1 h2.2.2.2.1 h2.2.2.2.2 (fun _ _ => rfl) hd ?_ hk0 (fun H1 locs1 hP hD hS1 => ?_)
  · rw [mcs_sum hc.F]
    show mcs S + (5 + 2 + 11) ≤ 38 * d
    omega
  · have hset : (mWs E w).set p1 (mAd E td id0, .inl (E.2.1, oA td, .inl (va_cpy (mga w ts is0) (mga w td id0) sp.toNatClampNeg dp.toNatClampNeg nn.toNatClampNeg))) = mWs E (mpA w td id0 (va_cpy (mga w ts is0) (mga w td id0) sp.toNatClampNeg dp.toNatClampNeg nn.toNatClampNeg)) := mWs_set hp1 (by rw [mE_arr h1.2.2.2]; simp [mga, mpA]) (fun q' hq' => mE_mpA hq')
    rw [hset] at hP hD
    exact k E p e s m args below meth c hc hlk hrt H1 locs1 ls ⟨hP, hD⟩ hS1 hL hO0
end EV
end
section
def MJ6_bitCount_0f7a4 : mM := (yJ6_bitCount_0f7a4, cJ6_bitCount_0f7a4, 1, (some .int))
def MJ0_length_8abf5 : mM := (yJ0_length_8abf5, cJ0_length_8abf5, 1, (some .int))
def MJ0_charAt_5068e : mM := (yJ0_charAt_5068e, cJ0_charAt_5068e, 2, (some .char))
def MJ0_indexOf_0f7a4 : mM := (yJ0_indexOf_0f7a4, cJ0_indexOf_0f7a4, 2, (some .int))
def MJ0_indexOf_7cf53 : mM := (yJ0_indexOf_7cf53, cJ0_indexOf_7cf53, 3, (some .int))
def MJ0_coder_7d493 : mM := (yJ0_coder_7d493, cJ0_coder_7d493, 1, (some .byte))
def MJ0_isLatin1_aae02 : mM := (yJ0_isLatin1_aae02, cJ0_isLatin1_aae02, 1, (some .boolean))
def MJ0_checkIndex_df160 : mM := (yJ0_checkIndex_df160, cJ0_checkIndex_df160, 2, none)
def MJ1_charAt_3b067 : mM := (yJ1_charAt_3b067, cJ1_charAt_3b067, 2, (some .char))
def MJ1_canEncode_9a6ad : mM := (yJ1_canEncode_9a6ad, cJ1_canEncode_9a6ad, 1, (some .boolean))
def MJ1_indexOf_4cfef : mM := (yJ1_indexOf_4cfef, cJ1_indexOf_4cfef, 4, (some .int))
def MJ1_indexOfChar_4cfef : mM := (yJ1_indexOfChar_4cfef, cJ1_indexOfChar_4cfef, 6, (some .int))
def MJ3_checkIndex_8e157 : mM := (yJ3_checkIndex_8e157, cJ3_checkIndex_8e157, 3, (some .int))
def MX1_copyFrom : mM := (yX1_copyFrom, cX1_copyFrom, 2, none)
def MX1_isCell : mM := (yX1_isCell, cX1_isCell, 1, (some .boolean))
def MX1_apart : mM := (yX1_apart, cX1_apart, 4, (some .int))
def MX1_has : mM := (yX1_has, cX1_has, 2, (some .boolean))
def MX1_kindOf : mM := (yX1_kindOf, cX1_kindOf, 2, (some .int))
def MX1_cellOf : mM := (yX1_cellOf, cX1_cellOf, 2, (some .int))
def MX1_friendOf : mM := (yX1_friendOf, cX1_friendOf, 2, (some .int))
def MX1_tiredOf : mM := (yX1_tiredOf, cX1_tiredOf, 2, (some .int))
def MX1_isStanding : mM := (yX1_isStanding, cX1_isStanding, 2, (some .boolean))
def MX1_isCatcher : mM := (yX1_isCatcher, cX1_isCatcher, 2, (some .boolean))
def MX1_freedBy : mM := (yX1_freedBy, cX1_freedBy, 3, (some .int))
def MX1_childrenCount : mM := (yX1_childrenCount, cX1_childrenCount, 1, (some .int))
def MX1_standingBits : mM := (yX1_standingBits, cX1_standingBits, 1, (some .int))
def MX1_standingCount : mM := (yX1_standingCount, cX1_standingCount, 1, (some .int))
def MX1_lawNow : mM := (yX1_lawNow, cX1_lawNow, 1, (some .int))
def MX1_secondNow : mM := (yX1_secondNow, cX1_secondNow, 1, (some .int))
def MX1_freeingsSinceCopied : mM := (yX1_freeingsSinceCopied, cX1_freeingsSinceCopied, 1, (some .int))
def MX1_catcherCount : mM := (yX1_catcherCount, cX1_catcherCount, 1, (some .int))
def MX1_tiredSum : mM := (yX1_tiredSum, cX1_tiredSum, 3, (some .int))
def MX1_freedSum : mM := (yX1_freedSum, cX1_freedSum, 3, (some .int))
def MX1_hasPlayers : mM := (yX1_hasPlayers, cX1_hasPlayers, 1, (some .boolean))
def MX1_isOver : mM := (yX1_isOver, cX1_isOver, 1, (some .boolean))
def MX1_add : mM := (yX1_add, cX1_add, 5, (some .boolean))
def MX1_turnOver : mM := (yX1_turnOver, cX1_turnOver, 2, (some .boolean))
def MX1_setLaw : mM := (yX1_setLaw, cX1_setLaw, 2, (some .boolean))
def MX1_put : mM := (yX1_put, cX1_put, 3, (some .boolean))
def MX1_setKind : mM := (yX1_setKind, cX1_setKind, 3, none)
def MX1_setAside : mM := (yX1_setAside, cX1_setAside, 2, none)
def MX1_exchange : mM := (yX1_exchange, cX1_exchange, 4, none)
def MX1_scatter : mM := (yX1_scatter, cX1_scatter, 4, (some .int))
def MX1_couldFree : mM := (yX1_couldFree, cX1_couldFree, 3, (some .int))
def MX1_hasFreerFor : mM := (yX1_hasFreerFor, cX1_hasFreerFor, 3, (some .boolean))
def MX1_catcherApart : mM := (yX1_catcherApart, cX1_catcherApart, 4, (some .int))
def MX1_passMany : mM := (yX1_passMany, cX1_passMany, 3, none)
def MX1_pass : mM := (yX1_pass, cX1_pass, 2, none)
def MX1_playerActs : mM := (yX1_playerActs, cX1_playerActs, 4, none)
def MX1_tire : mM := (yX1_tire, cX1_tire, 3, none)
def MX1_freesOrFetches : mM := (yX1_freesOrFetches, cX1_freesOrFetches, 5, (some .boolean))
def MX1_setFree : mM := (yX1_setFree, cX1_setFree, 6, none)
def MX1_catcherActs : mM := (yX1_catcherActs, cX1_catcherActs, 5, none)
def MX1_guards : mM := (yX1_guards, cX1_guards, 3, none)
def MX1_letRun : mM := (yX1_letRun, cX1_letRun, 2, none)
def MX1_leastBeside : mM := (yX1_leastBeside, cX1_leastBeside, 4, (some .int))
def MX1_nearest : mM := (yX1_nearest, cX1_nearest, 7, (some .int))
def MX1_playerBits : mM := (yX1_playerBits, cX1_playerBits, 3, (some .int))
def MX1_runningBits : mM := (yX1_runningBits, cX1_runningBits, 1, (some .int))
def MX1_safeBits : mM := (yX1_safeBits, cX1_safeBits, 3, (some .int))
def MX1_freeableBits : mM := (yX1_freeableBits, cX1_freeableBits, 2, (some .int))
def MX1_isEdge : mM := (yX1_isEdge, cX1_isEdge, 3, (some .boolean))
def MX1_stepAway : mM := (yX1_stepAway, cX1_stepAway, 6, none)
def MX1_stepToward : mM := (yX1_stepToward, cX1_stepToward, 7, none)
def MX1_cellBehind : mM := (yX1_cellBehind, cX1_cellBehind, 4, (some .int))
def MX0_hasRoom : mM := (yX0_hasRoom, cX0_hasRoom, 1, (some .boolean))
def MX0_size : mM := (yX0_size, cX0_size, 1, (some .int))
def MX0_statementCount : mM := (yX0_statementCount, cX0_statementCount, 1, (some .int))
def MX0_hear : mM := (yX0_hear, cX0_hear, 2, (some .int))
def MX0_forget : mM := (yX0_forget, cX0_forget, 1, none)
def MX0_firstMisfit : mM := (yX0_firstMisfit, cX0_firstMisfit, 4, (some .int))
def MX0_tellTo : mM := (yX0_tellTo, cX0_tellTo, 3, (some .int))
def MX0_tellStatement : mM := (yX0_tellStatement, cX0_tellStatement, 3, (some .boolean))
def MX0_shapeAt : mM := (yX0_shapeAt, cX0_shapeAt, 2, (some (.object "java/lang/String")))
def MX0_fitsShape : mM := (yX0_fitsShape, cX0_fitsShape, 2, (some .boolean))
def MX0_signAt : mM := (yX0_signAt, cX0_signAt, 2, (some .int))
def MX0_kindAt : mM := (yX0_kindAt, cX0_kindAt, 2, (some .int))
def MX0_digitAt : mM := (yX0_digitAt, cX0_digitAt, 2, (some .int))
def MX0_cellAt : mM := (yX0_cellAt, cX0_cellAt, 2, (some .int))
def MX2_letter : mM := (yX2_letter, cX2_letter, 2, (some .int))
def MX2_yard : mM := (yX2_yard, cX2_yard, 2, (some .int))
def MX2_child : mM := (yX2_child, cX2_child, 3, (some .int))
def MX2_go : mM := (yX2_go, cX2_go, 4, (some .int))
def MX2_touch : mM := (yX2_touch, cX2_touch, 2, (some .int))
def MX2_law : mM := (yX2_law, cX2_law, 3, (some .int))
def MX2_far : mM := (yX2_far, cX2_far, 3, (some .int))
def MX2_seconds : mM := (yX2_seconds, cX2_seconds, 3, (some .int))
def MX2_stand : mM := (yX2_stand, cX2_stand, 3, (some .int))
def MX2_where : mM := (yX2_where, cX2_where, 4, (some .int))
def MX2_over : mM := (yX2_over, cX2_over, 1, (some .int))
def MX2_mean : mM := (yX2_mean, cX2_mean, 7, (some .long))
def MX2_frees : mM := (yX2_frees, cX2_frees, 3, (some .int))
def MX2_never : mM := (yX2_never, cX2_never, 5, (some .int))
def MX2_mayFree : mM := (yX2_mayFree, cX2_mayFree, 2, (some .int))
def MX2_worth : mM := (yX2_worth, cX2_worth, 4, (some .int))
def MX2_hunt : mM := (yX2_hunt, cX2_hunt, 9, (some .int))
def MX2_enough : mM := (yX2_enough, cX2_enough, 2, (some .int))
def MX2_change : mM := (yX2_change, cX2_change, 8, (some .int))
def MX2_longest : mM := (yX2_longest, cX2_longest, 6, (some .int))
def MX2_owes : mM := (yX2_owes, cX2_owes, 3, (some .int))
def MX2_debt : mM := (yX2_debt, cX2_debt, 4, (some .int))
def MX2_why : mM := (yX2_why, cX2_why, 6, (some .int))
def MX2_row : mM := (yX2_row, cX2_row, 3, (some .int))
def MX2_fits : mM := (yX2_fits, cX2_fits, 4, (some .int))
def MX2_judge : mM := (yX2_judge, cX2_judge, 2, (some .int))
def MX2_lots : mM := (yX2_lots, cX2_lots, 7, (some .int))
def MX2_image : mM := (yX2_image, cX2_image, 1, (some .int))
def MX2_on : mM := (yX2_on, cX2_on, 1, (some .int))
def MX2_count : mM := (yX2_count, cX2_count, 2, (some .int))
def MX2_refuse : mM := (yX2_refuse, cX2_refuse, 3, (some .int))
def MX2_outside : mM := (yX2_outside, cX2_outside, 3, (some .int))
def MX2_readLetters : mM := (yX2_readLetters, cX2_readLetters, 3, (some .int))
def MX2_secondsTillOver : mM := (yX2_secondsTillOver, cX2_secondsTillOver, 2, (some .int))
def MX2_standingOver : mM := (yX2_standingOver, cX2_standingOver, 4, (some .int))
def MX2_othersStanding : mM := (yX2_othersStanding, cX2_othersStanding, 4, (some .int))
def MX2_addCatchers : mM := (yX2_addCatchers, cX2_addCatchers, 3, (some .boolean))
def MX2_firstUntrue : mM := (yX2_firstUntrue, cX2_firstUntrue, 2, (some .int))
def MX2_greatestShared : mM := (yX2_greatestShared, cX2_greatestShared, 3, (some .int))
def MX3_no : mM := (yX3_no, cX3_no, 2, (some .int))
def MX3_lower : mM := (yX3_lower, cX3_lower, 2, (some .int))
def MX3_lowest : mM := (yX3_lowest, cX3_lowest, 2, (some .long))
def MX3_isIn : mM := (yX3_isIn, cX3_isIn, 3, (some .boolean))
def MX3_bound : mM := (yX3_bound, cX3_bound, 3, (some .int))
def MX3_bits : mM := (yX3_bits, cX3_bits, 3, (some .int))
def MX3_apart : mM := (yX3_apart, cX3_apart, 2, (some .int))
def MX3_isCell : mM := (yX3_isCell, cX3_isCell, 1, (some .boolean))
def MX3_farOf : mM := (yX3_farOf, cX3_farOf, 2, (some .int))
def MX3_isEdge : mM := (yX3_isEdge, cX3_isEdge, 1, (some .boolean))
def MX3_isChild : mM := (yX3_isChild, cX3_isChild, 2, (some .boolean))
def MX3_isCatcher : mM := (yX3_isCatcher, cX3_isCatcher, 2, (some .boolean))
def MX3_letter : mM := (yX3_letter, cX3_letter, 3, (some .int))
def MX3_next : mM := (yX3_next, cX3_next, 1, (some .int))
def MX3_readsDigits : mM := (yX3_readsDigits, cX3_readsDigits, 5, (some .boolean))
def MX3_kindOf : mM := (yX3_kindOf, cX3_kindOf, 1, (some .int))
def MX3_readsChild : mM := (yX3_readsChild, cX3_readsChild, 2, (some .boolean))
def MX3_statement : mM := (yX3_statement, cX3_statement, 4, (some .boolean))
def MX3_comesChild : mM := (yX3_comesChild, cX3_comesChild, 5, none)
def MX3_comes : mM := (yX3_comes, cX3_comes, 3, (some .boolean))
def MX3_yard : mM := (yX3_yard, cX3_yard, 3, (some .int))
def MX3_passes : mM := (yX3_passes, cX3_passes, 3, none)
def MX3_passOne : mM := (yX3_passOne, cX3_passOne, 3, (some .int))
def MX3_passesAll : mM := (yX3_passesAll, cX3_passesAll, 3, none)
def MX3_image : mM := (yX3_image, cX3_image, 1, (some .int))
def MX3_on : mM := (yX3_on, cX3_on, 1, (some .int))
def MX3_stepOf : mM := (yX3_stepOf, cX3_stepOf, 2, (some .int))
def MX3_farFromCatchers : mM := (yX3_farFromCatchers, cX3_farFromCatchers, 4, (some .int))
def MX3_away : mM := (yX3_away, cX3_away, 5, (some .int))
def MX3_toward : mM := (yX3_toward, cX3_toward, 5, (some .int))
def MX3_doesMay : mM := (yX3_doesMay, cX3_doesMay, 3, (some .boolean))
def MX3_nearMay : mM := (yX3_nearMay, cX3_nearMay, 3, (some .int))
def MX3_nearestMay : mM := (yX3_nearestMay, cX3_nearestMay, 4, (some .int))
def MX3_free : mM := (yX3_free, cX3_free, 4, none)
def MX3_freesAll : mM := (yX3_freesAll, cX3_freesAll, 4, none)
def MX3_runsTo : mM := (yX3_runsTo, cX3_runsTo, 4, (some .int))
def MX3_isRunner : mM := (yX3_isRunner, cX3_isRunner, 2, (some .boolean))
def MX3_touches : mM := (yX3_touches, cX3_touches, 3, (some .boolean))
def MX3_nearest : mM := (yX3_nearest, cX3_nearest, 5, (some .int))
def MX3_hunts : mM := (yX3_hunts, cX3_hunts, 3, (some .int))
def MX3_catches : mM := (yX3_catches, cX3_catches, 3, none)
def MX3_less : mM := (yX3_less, cX3_less, 1, (some .int))
def MX3_goesOn : mM := (yX3_goesOn, cX3_goesOn, 3, none)
def MX3_goes : mM := (yX3_goes, cX3_goes, 2, none)
def MX3_standBits : mM := (yX3_standBits, cX3_standBits, 3, (some .int))
def MX3_runnersMany : mM := (yX3_runnersMany, cX3_runnersMany, 3, (some .int))
def MX3_child : mM := (yX3_child, cX3_child, 3, (some .int))
def MX3_go : mM := (yX3_go, cX3_go, 4, (some .int))
def MX3_touch : mM := (yX3_touch, cX3_touch, 3, (some .int))
def MX3_law : mM := (yX3_law, cX3_law, 3, (some .int))
def MX3_far : mM := (yX3_far, cX3_far, 3, (some .int))
def MX3_seconds : mM := (yX3_seconds, cX3_seconds, 4, (some .int))
def MX3_goesInMind : mM := (yX3_goesInMind, cX3_goesInMind, 4, none)
def MX3_stand : mM := (yX3_stand, cX3_stand, 3, (some .int))
def MX3_where : mM := (yX3_where, cX3_where, 4, (some .int))
def MX3_overIn : mM := (yX3_overIn, cX3_overIn, 2, (some .int))
def MX3_over : mM := (yX3_over, cX3_over, 1, (some .int))
def MX3_divisor : mM := (yX3_divisor, cX3_divisor, 10, (some .long))
def MX3_mean : mM := (yX3_mean, cX3_mean, 8, (some .long))
def MX3_frees : mM := (yX3_frees, cX3_frees, 3, (some .int))
def MX3_never : mM := (yX3_never, cX3_never, 3, (some .int))
def MX3_mayFree : mM := (yX3_mayFree, cX3_mayFree, 2, (some .int))
def MX3_othersStand : mM := (yX3_othersStand, cX3_othersStand, 4, (some .int))
def MX3_worth : mM := (yX3_worth, cX3_worth, 4, (some .int))
def MX3_hunt : mM := (yX3_hunt, cX3_hunt, 9, (some .int))
def MX3_enough : mM := (yX3_enough, cX3_enough, 4, (some .int))
def MX3_standAfterChange : mM := (yX3_standAfterChange, cX3_standAfterChange, 5, (some .int))
def MX3_changes : mM := (yX3_changes, cX3_changes, 4, none)
def MX3_change : mM := (yX3_change, cX3_change, 9, (some .int))
def MX3_longest : mM := (yX3_longest, cX3_longest, 6, (some .int))
def MX3_owes : mM := (yX3_owes, cX3_owes, 3, (some .int))
def MX3_debt : mM := (yX3_debt, cX3_debt, 4, (some .int))
def MX3_isMayed : mM := (yX3_isMayed, cX3_isMayed, 3, (some .boolean))
def MX3_isWatched : mM := (yX3_isWatched, cX3_isWatched, 5, (some .boolean))
def MX3_why : mM := (yX3_why, cX3_why, 4, (some .int))
def MX3_row : mM := (yX3_row, cX3_row, 3, (some .int))
def MX3_wrongAt : mM := (yX3_wrongAt, cX3_wrongAt, 3, (some .int))
def MX3_fits : mM := (yX3_fits, cX3_fits, 5, (some .int))
def MX3_judge : mM := (yX3_judge, cX3_judge, 2, (some .int))
def MX3_lots : mM := (yX3_lots, cX3_lots, 9, (some .int))
def MX3_count : mM := (yX3_count, cX3_count, 4, (some .int))
theorem qJ0_335 : mlk RJ0 335 MJ0_coder_7d493 false 0 = true := by decide +kernel
theorem qJ0_492 : mlk RJ0 492 MJ0_isLatin1_aae02 false 0 = true := by decide +kernel
theorem qJ0_495 : mlk RJ0 495 MJ1_charAt_3b067 true 2 = true := by decide +kernel
theorem qJ0_505 : mlk RJ0 505 MJ0_length_8abf5 false 0 = true := by decide +kernel
theorem qJ0_633 : mlk RJ0 633 MJ0_indexOf_7cf53 false 2 = true := by decide +kernel
theorem qJ0_637 : mlk RJ0 637 MJ1_indexOf_4cfef true 4 = true := by decide +kernel
theorem qJ0_1059 : mlk RJ0 1059 MJ3_checkIndex_8e157 true 3 = true := by decide +kernel
theorem qJ1_9 : mlk RJ1 9 MJ0_checkIndex_df160 true 2 = true := by decide +kernel
theorem qJ1_38 : mmk RJ1 38 Lib.Math.min.name Lib.Math.min.code = true := by decide +kernel
theorem qJ1_88 : mlk RJ1 88 MJ1_canEncode_9a6ad true 1 = true := by decide +kernel
theorem qJ1_92 : mmk RJ1 92 Lib.Math.max.name Lib.Math.max.code = true := by decide +kernel
theorem qJ1_95 : mlk RJ1 95 MJ1_indexOfChar_4cfef true 4 = true := by decide +kernel
theorem qX0_22 : mlk RX0 22 MX0_hasRoom false 0 = true := by decide +kernel
theorem qX0_28 : mlk RX0 28 MJ0_length_8abf5 false 0 = true := by decide +kernel
theorem qX0_34 : mlk RX0 34 MX0_shapeAt false 1 = true := by decide +kernel
theorem qX0_38 : mlk RX0 38 MJ0_charAt_5068e false 1 = true := by decide +kernel
theorem qX0_42 : mlk RX0 42 MX0_fitsShape true 2 = true := by decide +kernel
theorem qX0_46 : mlk RX0 46 MX0_tellStatement false 2 = true := by decide +kernel
theorem qX0_50 : mmk RX0 50 Lib.Math.max.name Lib.Math.max.code = true := by decide +kernel
theorem qX0_56 : mlk RX0 56 MX0_signAt false 1 = true := by decide +kernel
theorem qX0_60 : mlk RX0 60 MX0_kindAt false 1 = true := by decide +kernel
theorem qX0_63 : mlk RX0 63 MX0_cellAt false 1 = true := by decide +kernel
theorem qX0_66 : mlk RX0 66 MX0_digitAt false 1 = true := by decide +kernel
theorem qX0_69 : mlk RX0 69 MX1_add false 3 = true := by decide +kernel
theorem qX0_75 : mlk RX0 75 MX1_turnOver false 1 = true := by decide +kernel
theorem qX0_79 : mlk RX0 79 MX1_setLaw false 1 = true := by decide +kernel
theorem qX0_82 : mlk RX0 82 MX1_put false 2 = true := by decide +kernel
theorem qX0_96 : mlk RX0 96 MJ0_indexOf_0f7a4 false 1 = true := by decide +kernel
theorem qX1_31 : (inW (.methodLink RX1 31 arraycopyName) && (inW (.native arraycopyName) && (inW (.static arraycopyName) && inW (.initialized "java/lang/System")))) = true := by decide +kernel
theorem qX1_52 : mlk RX1 52 MX1_has false 1 = true := by decide +kernel
theorem qX1_56 : mlk RX1 56 MJ6_bitCount_0f7a4 true 1 = true := by decide +kernel
theorem qX1_62 : mlk RX1 62 MX1_playerBits false 0 = true := by decide +kernel
theorem qX1_66 : mlk RX1 66 MX1_hasPlayers false 0 = true := by decide +kernel
theorem qX1_72 : mlk RX1 72 MJ0_length_8abf5 false 0 = true := by decide +kernel
theorem qX1_77 : mlk RX1 77 MX1_isCell true 1 = true := by decide +kernel
theorem qX1_80 : mlk RX1 80 MX1_isCatcher false 1 = true := by decide +kernel
theorem qX1_83 : mlk RX1 83 MX1_letRun false 1 = true := by decide +kernel
theorem qX1_90 : mlk RX1 90 MX1_isStanding false 1 = true := by decide +kernel
theorem qX1_93 : mlk RX1 93 MX1_freeableBits false 1 = true := by decide +kernel
theorem qX1_96 : mlk RX1 96 MX1_leastBeside false 2 = true := by decide +kernel
theorem qX1_100 : mlk RX1 100 MX1_apart true 2 = true := by decide +kernel
theorem qX1_103 : mmk RX1 103 Lib.Math.min.name Lib.Math.min.code = true := by decide +kernel
theorem qX1_108 : mlk RX1 108 MX1_pass false 0 = true := by decide +kernel
theorem qX1_111 : mlk RX1 111 MX1_catcherActs false 1 = true := by decide +kernel
theorem qX1_114 : mlk RX1 114 MX1_playerActs false 1 = true := by decide +kernel
theorem qX1_117 : mlk RX1 117 MX1_tire false 2 = true := by decide +kernel
theorem qX1_121 : mlk RX1 121 MX1_freesOrFetches false 1 = true := by decide +kernel
theorem qX1_124 : mlk RX1 124 MX1_isEdge true 1 = true := by decide +kernel
theorem qX1_127 : mlk RX1 127 MX1_catcherApart false 1 = true := by decide +kernel
theorem qX1_130 : mlk RX1 130 MX1_stepAway false 1 = true := by decide +kernel
theorem qX1_133 : mmk RX1 133 Lib.Math.max.name Lib.Math.max.code = true := by decide +kernel
theorem qX1_136 : mlk RX1 136 MX1_setFree false 2 = true := by decide +kernel
theorem qX1_139 : mlk RX1 139 MX1_nearest false 2 = true := by decide +kernel
theorem qX1_142 : mlk RX1 142 MX1_stepToward false 2 = true := by decide +kernel
theorem qX1_145 : mlk RX1 145 MX1_runningBits false 0 = true := by decide +kernel
theorem qX1_148 : mlk RX1 148 MX1_safeBits false 0 = true := by decide +kernel
theorem qX1_151 : mlk RX1 151 MX1_guards false 1 = true := by decide +kernel
theorem qX1_154 : mlk RX1 154 MX1_cellBehind true 2 = true := by decide +kernel
theorem qX2_39 : mlk RX2 39 MX2_refuse false 1 = true := by decide +kernel
theorem qX2_43 : mlk RX2 43 MX0_hasRoom false 0 = true := by decide +kernel
theorem qX2_47 : mlk RX2 47 MX0_hear false 1 = true := by decide +kernel
theorem qX2_50 : mlk RX2 50 MX2_readLetters false 0 = true := by decide +kernel
theorem qX2_54 : mlk RX2 54 MX0_forget false 0 = true := by decide +kernel
theorem qX2_57 : mlk RX2 57 MX1_has false 1 = true := by decide +kernel
theorem qX2_61 : mlk RX2 61 MX1_kindOf false 1 = true := by decide +kernel
theorem qX2_64 : mlk RX2 64 MX1_cellOf false 1 = true := by decide +kernel
theorem qX2_67 : mlk RX2 67 MX1_friendOf false 1 = true := by decide +kernel
theorem qX2_70 : mlk RX2 70 MX1_isStanding false 1 = true := by decide +kernel
theorem qX2_73 : mlk RX2 73 MX1_tiredOf false 1 = true := by decide +kernel
theorem qX2_76 : mlk RX2 76 MX1_isCell true 1 = true := by decide +kernel
theorem qX2_79 : mlk RX2 79 MX1_put false 2 = true := by decide +kernel
theorem qX2_83 : mlk RX2 83 MX1_turnOver false 1 = true := by decide +kernel
theorem qX2_86 : mlk RX2 86 MX1_lawNow false 0 = true := by decide +kernel
theorem qX2_89 : mlk RX2 89 MX1_setLaw false 1 = true := by decide +kernel
theorem qX2_92 : mlk RX2 92 MX1_apart true 2 = true := by decide +kernel
theorem qX2_96 : mlk RX2 96 MX2_outside true 3 = true := by decide +kernel
theorem qX2_100 : mlk RX2 100 MX1_secondNow false 0 = true := by decide +kernel
theorem qX2_103 : mlk RX2 103 MX1_passMany false 1 = true := by decide +kernel
theorem qX2_107 : mlk RX2 107 MX1_copyFrom false 1 = true := by decide +kernel
theorem qX2_111 : mlk RX2 111 MX1_standingBits false 0 = true := by decide +kernel
theorem qX2_114 : mlk RX2 114 MX1_hasPlayers false 0 = true := by decide +kernel
theorem qX2_117 : mlk RX2 117 MX2_secondsTillOver false 0 = true := by decide +kernel
theorem qX2_122 : mlk RX2 122 MX1_standingCount false 0 = true := by decide +kernel
theorem qX2_125 : mlk RX2 125 MX2_standingOver false 1 = true := by decide +kernel
theorem qX2_128 : mlk RX2 128 MX2_greatestShared true 2 = true := by decide +kernel
theorem qX2_131 : mlk RX2 131 MX1_freeingsSinceCopied false 0 = true := by decide +kernel
theorem qX2_134 : mlk RX2 134 MX1_pass false 0 = true := by decide +kernel
theorem qX2_137 : mlk RX2 137 MX1_couldFree false 1 = true := by decide +kernel
theorem qX2_140 : mlk RX2 140 MX1_isCatcher false 1 = true := by decide +kernel
theorem qX2_144 : mlk RX2 144 MX2_othersStanding false 1 = true := by decide +kernel
theorem qX2_147 : mlk RX2 147 MX1_setAside false 1 = true := by decide +kernel
theorem qX2_150 : mlk RX2 150 MX1_setKind false 2 = true := by decide +kernel
theorem qX2_154 : mlk RX2 154 MX2_addCatchers false 1 = true := by decide +kernel
theorem qX2_157 : mlk RX2 157 MX1_exchange false 2 = true := by decide +kernel
theorem qX2_160 : mlk RX2 160 MX1_freedBy false 2 = true := by decide +kernel
theorem qX2_163 : mlk RX2 163 MX1_catcherApart false 1 = true := by decide +kernel
theorem qX2_166 : mlk RX2 166 MX1_hasFreerFor false 1 = true := by decide +kernel
theorem qX2_173 : mlk RX2 173 MX2_firstUntrue false 0 = true := by decide +kernel
theorem qX2_176 : mlk RX2 176 MX1_scatter false 1 = true := by decide +kernel
theorem qX2_183 : mlk RX2 183 MX1_childrenCount false 0 = true := by decide +kernel
theorem qX2_186 : mlk RX2 186 MX1_catcherCount false 0 = true := by decide +kernel
theorem qX2_189 : mlk RX2 189 MX1_tiredSum false 0 = true := by decide +kernel
theorem qX2_192 : mlk RX2 192 MX1_freedSum false 0 = true := by decide +kernel
theorem qX2_195 : mlk RX2 195 MX0_size false 0 = true := by decide +kernel
theorem qX2_198 : mlk RX2 198 MX0_firstMisfit false 0 = true := by decide +kernel
theorem qX2_201 : mlk RX2 201 MX0_tellTo false 1 = true := by decide +kernel
theorem qX2_205 : mlk RX2 205 MX0_statementCount false 0 = true := by decide +kernel
theorem qX2_208 : mlk RX2 208 MX1_isOver false 0 = true := by decide +kernel
theorem qX2_211 : mlk RX2 211 MX1_add false 3 = true := by decide +kernel
theorem qX3_56 : mlk RX3 56 MX3_apart true 2 = true := by decide +kernel
theorem qX3_63 : mlk RX3 63 MX3_bound true 3 = true := by decide +kernel
theorem qX3_70 : mlk RX3 70 MX3_no false 1 = true := by decide +kernel
theorem qX3_77 : mlk RX3 77 MX3_next false 0 = true := by decide +kernel
theorem qX3_81 : mlk RX3 81 MX3_isIn true 3 = true := by decide +kernel
theorem qX3_85 : mlk RX3 85 MX3_kindOf true 1 = true := by decide +kernel
theorem qX3_88 : mlk RX3 88 MX3_readsDigits false 2 = true := by decide +kernel
theorem qX3_95 : mlk RX3 95 MX3_readsChild false 1 = true := by decide +kernel
theorem qX3_99 : mlk RX3 99 MX3_isCell true 1 = true := by decide +kernel
theorem qX3_102 : mlk RX3 102 MX3_comesChild false 3 = true := by decide +kernel
theorem qX3_106 : mlk RX3 106 MX3_isChild false 1 = true := by decide +kernel
theorem qX3_109 : mlk RX3 109 MX3_isCatcher false 1 = true := by decide +kernel
theorem qX3_115 : mlk RX3 115 MX3_statement false 0 = true := by decide +kernel
theorem qX3_119 : mlk RX3 119 MX3_passesAll false 2 = true := by decide +kernel
theorem qX3_123 : mlk RX3 123 MX3_comes false 1 = true := by decide +kernel
theorem qX3_133 : mlk RX3 133 MX3_passes false 1 = true := by decide +kernel
theorem qX3_137 : mlk RX3 137 MX3_passOne false 1 = true := by decide +kernel
theorem qX3_146 : mlk RX3 146 MX3_farOf true 2 = true := by decide +kernel
theorem qX3_149 : mlk RX3 149 MX3_stepOf true 2 = true := by decide +kernel
theorem qX3_152 : mlk RX3 152 MX3_farFromCatchers false 1 = true := by decide +kernel
theorem qX3_155 : mlk RX3 155 MX3_doesMay false 2 = true := by decide +kernel
theorem qX3_161 : mlk RX3 161 MX3_free false 2 = true := by decide +kernel
theorem qX3_165 : mlk RX3 165 MX3_isEdge true 1 = true := by decide +kernel
theorem qX3_168 : mlk RX3 168 MX3_away false 1 = true := by decide +kernel
theorem qX3_171 : mlk RX3 171 MX3_nearMay false 1 = true := by decide +kernel
theorem qX3_174 : mlk RX3 174 MX3_freesAll false 2 = true := by decide +kernel
theorem qX3_177 : mlk RX3 177 MX3_nearestMay false 1 = true := by decide +kernel
theorem qX3_180 : mlk RX3 180 MX3_toward true 2 = true := by decide +kernel
theorem qX3_183 : mlk RX3 183 MX3_isRunner false 1 = true := by decide +kernel
theorem qX3_186 : mlk RX3 186 MX3_nearest false 2 = true := by decide +kernel
theorem qX3_189 : mlk RX3 189 MX3_touches false 1 = true := by decide +kernel
theorem qX3_192 : mlk RX3 192 MX3_hunts false 1 = true := by decide +kernel
theorem qX3_195 : mlk RX3 195 MX3_catches false 1 = true := by decide +kernel
theorem qX3_199 : mlk RX3 199 MX3_less true 1 = true := by decide +kernel
theorem qX3_202 : mlk RX3 202 MX3_runsTo false 1 = true := by decide +kernel
theorem qX3_205 : mlk RX3 205 MX3_goesOn false 1 = true := by decide +kernel
theorem qX3_208 : mlk RX3 208 MX3_goes false 0 = true := by decide +kernel
theorem qX3_214 : mlk RX3 214 MX3_standBits false 0 = true := by decide +kernel
theorem qX3_220 : mlk RX3 220 MX3_bits true 1 = true := by decide +kernel
theorem qX3_232 : mlk RX3 232 MX3_goesInMind false 2 = true := by decide +kernel
theorem qX3_235 : mlk RX3 235 MX3_runnersMany false 0 = true := by decide +kernel
theorem qX3_238 : mlk RX3 238 MX3_overIn false 0 = true := by decide +kernel
theorem qX3_241 : mlk RX3 241 MX3_lowest false 1 = true := by decide +kernel
theorem qX3_245 : mlk RX3 245 MX3_divisor true 2 = true := by decide +kernel
theorem qX3_249 : mlk RX3 249 MX3_lower false 1 = true := by decide +kernel
theorem qX3_252 : mlk RX3 252 MX3_othersStand false 1 = true := by decide +kernel
theorem qX3_255 : mlk RX3 255 MX3_changes false 2 = true := by decide +kernel
theorem qX3_258 : mlk RX3 258 MX3_standAfterChange false 3 = true := by decide +kernel
theorem qX3_261 : mlk RX3 261 MX3_isMayed false 1 = true := by decide +kernel
theorem qX3_264 : mlk RX3 264 MX3_isWatched false 2 = true := by decide +kernel
theorem qX3_270 : mlk RX3 270 MX3_wrongAt false 0 = true := by decide +kernel
end
section
def bJ6_bitCount_0f7a4_0 : List mB := [(.iload_n 0, mI 0), (.iload_n 0, mI 0), (.iconst 1, mI 1), (.iushr, mI 0), (.ldc_w 265, mI (1431655765)), (.iand, mI 0), (.isub, mI 0), (.istore_n 0, mI 0), (.iload_n 0, mI 0), (.ldc_w 266, mI (858993459)), (.iand, mI 0), (.iload_n 0, mI 0), (.iconst 2, mI 2), (.iushr, mI 0), (.ldc_w 266, mI (858993459)), (.iand, mI 0), (.iadd, mI 0), (.istore_n 0, mI 0), (.iload_n 0, mI 0), (.iload_n 0, mI 0), (.iconst 4, mI 4), (.iushr, mI 0), (.iadd, mI 0), (.ldc_w 267, mI (252645135)), (.iand, mI 0), (.istore_n 0, mI 0), (.iload_n 0, mI 0), (.iload_n 0, mI 0), (.bipush 8, mI 8), (.iushr, mI 0), (.iadd, mI 0), (.istore_n 0, mI 0), (.iload_n 0, mI 0), (.iload_n 0, mI 0), (.bipush 16, mI 16), (.iushr, mI 0), (.iadd, mI 0), (.istore_n 0, mI 0), (.iload_n 0, mI 0), (.bipush 63, mI 63), (.iand, mI 0)]
theorem kJ6_bitCount_0f7a4_0 : mchk MJ6_bitCount_0f7a4 0 bJ6_bitCount_0f7a4_0 52 = true := by decide +kernel
theorem tJ6_bitCount_0f7a4_52 : mrk MJ6_bitCount_0f7a4 52 .ireturn = true := by decide +kernel
def bJ0_length_8abf5_0 : List mB := [(.aload_n 0, mI 0), (.getfield 9, mR 9 0), (.arraylength, mI 0), (.aload_n 0, mI 0)]
theorem kJ0_length_8abf5_0 : mchk MJ0_length_8abf5 0 bJ0_length_8abf5_0 6 = true := by decide +kernel
theorem tJ0_length_8abf5_6 : mdk MJ0_length_8abf5 6 (.invokevirtual 335) = true := by decide +kernel
def bJ0_length_8abf5_9 : List mB := [(.ishr, mI 0)]
theorem kJ0_length_8abf5_9 : mchk MJ0_length_8abf5 9 bJ0_length_8abf5_9 10 = true := by decide +kernel
theorem tJ0_length_8abf5_10 : mrk MJ0_length_8abf5 10 .ireturn = true := by decide +kernel
def bJ0_charAt_5068e_0 : List mB := [(.aload_n 0, mI 0)]
theorem kJ0_charAt_5068e_0 : mchk MJ0_charAt_5068e 0 bJ0_charAt_5068e_0 1 = true := by decide +kernel
theorem tJ0_charAt_5068e_1 : mdk MJ0_charAt_5068e 1 (.invokevirtual 492) = true := by decide +kernel
theorem tJ0_charAt_5068e_4 : mbk MJ0_charAt_5068e 4 (.ifCond .eq 12) 16 = true := by decide +kernel
def bJ0_charAt_5068e_7 : List mB := [(.aload_n 0, mI 0), (.getfield 9, mR 9 0), (.iload_n 1, mI 0)]
theorem kJ0_charAt_5068e_7 : mchk MJ0_charAt_5068e 7 bJ0_charAt_5068e_7 12 = true := by decide +kernel
theorem tJ0_charAt_5068e_12 : mdk MJ0_charAt_5068e 12 (.invokestatic 495) = true := by decide +kernel
theorem tJ0_charAt_5068e_15 : mrk MJ0_charAt_5068e 15 .ireturn = true := by decide +kernel
def bJ0_charAt_5068e_16 : List mB := [(.aload_n 0, mI 0), (.getfield 9, mR 9 0), (.iload_n 1, mI 0)]
theorem kJ0_charAt_5068e_16 : mchk MJ0_charAt_5068e 16 bJ0_charAt_5068e_16 21 = true := by decide +kernel
theorem tJ0_charAt_5068e_24 : mrk MJ0_charAt_5068e 24 .ireturn = true := by decide +kernel
def bJ0_indexOf_0f7a4_0 : List mB := [(.aload_n 0, mI 0), (.iload_n 1, mI 0), (.iconst 0, mI 0)]
theorem kJ0_indexOf_0f7a4_0 : mchk MJ0_indexOf_0f7a4 0 bJ0_indexOf_0f7a4_0 3 = true := by decide +kernel
theorem tJ0_indexOf_0f7a4_3 : mdk MJ0_indexOf_0f7a4 3 (.invokevirtual 633) = true := by decide +kernel
theorem tJ0_indexOf_0f7a4_6 : mrk MJ0_indexOf_0f7a4 6 .ireturn = true := by decide +kernel
def bJ0_indexOf_7cf53_0 : List mB := [(.aload_n 0, mI 0)]
theorem kJ0_indexOf_7cf53_0 : mchk MJ0_indexOf_7cf53 0 bJ0_indexOf_7cf53_0 1 = true := by decide +kernel
theorem tJ0_indexOf_7cf53_1 : mdk MJ0_indexOf_7cf53 1 (.invokevirtual 492) = true := by decide +kernel
theorem tJ0_indexOf_7cf53_4 : mbk MJ0_indexOf_7cf53 4 (.ifCond .eq 19) 23 = true := by decide +kernel
def bJ0_indexOf_7cf53_7 : List mB := [(.aload_n 0, mI 0), (.getfield 9, mR 9 0), (.iload_n 1, mI 0), (.iload_n 2, mI 0), (.aload_n 0, mI 0)]
theorem kJ0_indexOf_7cf53_7 : mchk MJ0_indexOf_7cf53 7 bJ0_indexOf_7cf53_7 14 = true := by decide +kernel
theorem tJ0_indexOf_7cf53_14 : mdk MJ0_indexOf_7cf53 14 (.invokevirtual 505) = true := by decide +kernel
theorem tJ0_indexOf_7cf53_17 : mdk MJ0_indexOf_7cf53 17 (.invokestatic 637) = true := by decide +kernel
theorem tJ0_indexOf_7cf53_20 : mbk MJ0_indexOf_7cf53 20 (.goto 16) 36 = true := by decide +kernel
def bJ0_indexOf_7cf53_23 : List mB := [(.aload_n 0, mI 0), (.getfield 9, mR 9 0), (.iload_n 1, mI 0), (.iload_n 2, mI 0), (.aload_n 0, mI 0)]
theorem kJ0_indexOf_7cf53_23 : mchk MJ0_indexOf_7cf53 23 bJ0_indexOf_7cf53_23 30 = true := by decide +kernel
theorem tJ0_indexOf_7cf53_30 : mdk MJ0_indexOf_7cf53 30 (.invokevirtual 505) = true := by decide +kernel
theorem tJ0_indexOf_7cf53_36 : mrk MJ0_indexOf_7cf53 36 .ireturn = true := by decide +kernel
def bJ0_coder_7d493_0 : List mB := [(.getstatic 38, mI 1)]
theorem kJ0_coder_7d493_0 : mchk MJ0_coder_7d493 0 bJ0_coder_7d493_0 3 = true := by decide +kernel
theorem tJ0_coder_7d493_3 : mbk MJ0_coder_7d493 3 (.ifCond .eq 10) 13 = true := by decide +kernel
def bJ0_coder_7d493_6 : List mB := [(.aload_n 0, mI 0), (.getfield 15, mR 9 1)]
theorem kJ0_coder_7d493_6 : mchk MJ0_coder_7d493 6 bJ0_coder_7d493_6 10 = true := by decide +kernel
theorem tJ0_coder_7d493_10 : mbk MJ0_coder_7d493 10 (.goto 4) 14 = true := by decide +kernel
def bJ0_coder_7d493_13 : List mB := [(.iconst 1, mI 1)]
theorem kJ0_coder_7d493_13 : mchk MJ0_coder_7d493 13 bJ0_coder_7d493_13 14 = true := by decide +kernel
theorem tJ0_coder_7d493_14 : mrk MJ0_coder_7d493 14 .ireturn = true := by decide +kernel
def bJ0_isLatin1_aae02_0 : List mB := [(.getstatic 38, mI 1)]
theorem kJ0_isLatin1_aae02_0 : mchk MJ0_isLatin1_aae02 0 bJ0_isLatin1_aae02_0 3 = true := by decide +kernel
theorem tJ0_isLatin1_aae02_3 : mbk MJ0_isLatin1_aae02 3 (.ifCond .eq 14) 17 = true := by decide +kernel
def bJ0_isLatin1_aae02_6 : List mB := [(.aload_n 0, mI 0), (.getfield 15, mR 9 1)]
theorem kJ0_isLatin1_aae02_6 : mchk MJ0_isLatin1_aae02 6 bJ0_isLatin1_aae02_6 10 = true := by decide +kernel
theorem tJ0_isLatin1_aae02_10 : mbk MJ0_isLatin1_aae02 10 (.ifCond .ne 7) 17 = true := by decide +kernel
def bJ0_isLatin1_aae02_13 : List mB := [(.iconst 1, mI 1)]
theorem kJ0_isLatin1_aae02_13 : mchk MJ0_isLatin1_aae02 13 bJ0_isLatin1_aae02_13 14 = true := by decide +kernel
theorem tJ0_isLatin1_aae02_14 : mbk MJ0_isLatin1_aae02 14 (.goto 4) 18 = true := by decide +kernel
def bJ0_isLatin1_aae02_17 : List mB := [(.iconst 0, mI 0)]
theorem kJ0_isLatin1_aae02_17 : mchk MJ0_isLatin1_aae02 17 bJ0_isLatin1_aae02_17 18 = true := by decide +kernel
theorem tJ0_isLatin1_aae02_18 : mrk MJ0_isLatin1_aae02 18 .ireturn = true := by decide +kernel
def bJ0_checkIndex_df160_0 : List mB := [(.iload_n 0, mI 0), (.iload_n 1, mI 0), (.getstatic 1053, mR 32 0)]
theorem kJ0_checkIndex_df160_0 : mchk MJ0_checkIndex_df160 0 bJ0_checkIndex_df160_0 5 = true := by decide +kernel
theorem tJ0_checkIndex_df160_5 : mdk MJ0_checkIndex_df160 5 (.invokestatic 1059) = true := by decide +kernel
def bJ0_checkIndex_df160_8 : List mB := [(.pop, mI 0)]
theorem kJ0_checkIndex_df160_8 : mchk MJ0_checkIndex_df160 8 bJ0_checkIndex_df160_8 9 = true := by decide +kernel
theorem tJ0_checkIndex_df160_9 : mrk MJ0_checkIndex_df160 9 .return_ = true := by decide +kernel
def bJ1_charAt_3b067_0 : List mB := [(.iload_n 1, mI 0), (.aload_n 0, mI 0), (.arraylength, mI 0)]
theorem kJ1_charAt_3b067_0 : mchk MJ1_charAt_3b067 0 bJ1_charAt_3b067_0 3 = true := by decide +kernel
theorem tJ1_charAt_3b067_3 : mdk MJ1_charAt_3b067 3 (.invokestatic 9) = true := by decide +kernel
def bJ1_charAt_3b067_6 : List mB := [(.aload_n 0, mI 0), (.iload_n 1, mI 0), (.baload, mI 0), (.sipush 255, mI 255), (.iand, mI 0), (.i2c, mI 0)]
theorem kJ1_charAt_3b067_6 : mchk MJ1_charAt_3b067 6 bJ1_charAt_3b067_6 14 = true := by decide +kernel
theorem tJ1_charAt_3b067_14 : mrk MJ1_charAt_3b067 14 .ireturn = true := by decide +kernel
def bJ1_canEncode_9a6ad_0 : List mB := [(.iload_n 0, mI 0)]
theorem kJ1_canEncode_9a6ad_0 : mchk MJ1_canEncode_9a6ad 0 bJ1_canEncode_9a6ad_0 1 = true := by decide +kernel
theorem tJ1_canEncode_9a6ad_1 : mbk MJ1_canEncode_9a6ad 1 (.ifCond .lt 14) 15 = true := by decide +kernel
def bJ1_canEncode_9a6ad_4 : List mB := [(.iload_n 0, mI 0), (.sipush 255, mI 255)]
theorem kJ1_canEncode_9a6ad_4 : mchk MJ1_canEncode_9a6ad 4 bJ1_canEncode_9a6ad_4 8 = true := by decide +kernel
theorem tJ1_canEncode_9a6ad_8 : mbk MJ1_canEncode_9a6ad 8 (.if_icmp .gt 7) 15 = true := by decide +kernel
def bJ1_canEncode_9a6ad_11 : List mB := [(.iconst 1, mI 1)]
theorem kJ1_canEncode_9a6ad_11 : mchk MJ1_canEncode_9a6ad 11 bJ1_canEncode_9a6ad_11 12 = true := by decide +kernel
theorem tJ1_canEncode_9a6ad_12 : mbk MJ1_canEncode_9a6ad 12 (.goto 4) 16 = true := by decide +kernel
def bJ1_canEncode_9a6ad_15 : List mB := [(.iconst 0, mI 0)]
theorem kJ1_canEncode_9a6ad_15 : mchk MJ1_canEncode_9a6ad 15 bJ1_canEncode_9a6ad_15 16 = true := by decide +kernel
theorem tJ1_canEncode_9a6ad_16 : mrk MJ1_canEncode_9a6ad 16 .ireturn = true := by decide +kernel
def bJ1_indexOf_4cfef_0 : List mB := [(.iload_n 1, mI 0)]
theorem kJ1_indexOf_4cfef_0 : mchk MJ1_indexOf_4cfef 0 bJ1_indexOf_4cfef_0 1 = true := by decide +kernel
theorem tJ1_indexOf_4cfef_1 : mdk MJ1_indexOf_4cfef 1 (.invokestatic 88) = true := by decide +kernel
theorem tJ1_indexOf_4cfef_4 : mbk MJ1_indexOf_4cfef 4 (.ifCond .ne 5) 9 = true := by decide +kernel
def bJ1_indexOf_4cfef_7 : List mB := [(.iconst (-1), mI (-1))]
theorem kJ1_indexOf_4cfef_7 : mchk MJ1_indexOf_4cfef 7 bJ1_indexOf_4cfef_7 8 = true := by decide +kernel
theorem tJ1_indexOf_4cfef_8 : mrk MJ1_indexOf_4cfef 8 .ireturn = true := by decide +kernel
def bJ1_indexOf_4cfef_9 : List mB := [(.iload_n 2, mI 0), (.iconst 0, mI 0)]
theorem kJ1_indexOf_4cfef_9 : mchk MJ1_indexOf_4cfef 9 bJ1_indexOf_4cfef_9 11 = true := by decide +kernel
theorem tJ1_indexOf_4cfef_11 : mdk MJ1_indexOf_4cfef 11 (.invokestatic 92) = true := by decide +kernel
def bJ1_indexOf_4cfef_14 : List mB := [(.istore_n 2, mI 0), (.iload_n 3, mI 0), (.aload_n 0, mI 0), (.arraylength, mI 0)]
theorem kJ1_indexOf_4cfef_14 : mchk MJ1_indexOf_4cfef 14 bJ1_indexOf_4cfef_14 18 = true := by decide +kernel
theorem tJ1_indexOf_4cfef_18 : mdk MJ1_indexOf_4cfef 18 (.invokestatic 38) = true := by decide +kernel
def bJ1_indexOf_4cfef_21 : List mB := [(.istore_n 3, mI 0), (.iload_n 2, mI 0), (.iload_n 3, mI 0)]
theorem kJ1_indexOf_4cfef_21 : mchk MJ1_indexOf_4cfef 21 bJ1_indexOf_4cfef_21 24 = true := by decide +kernel
theorem tJ1_indexOf_4cfef_24 : mbk MJ1_indexOf_4cfef 24 (.if_icmp .lt 5) 29 = true := by decide +kernel
def bJ1_indexOf_4cfef_27 : List mB := [(.iconst (-1), mI (-1))]
theorem kJ1_indexOf_4cfef_27 : mchk MJ1_indexOf_4cfef 27 bJ1_indexOf_4cfef_27 28 = true := by decide +kernel
theorem tJ1_indexOf_4cfef_28 : mrk MJ1_indexOf_4cfef 28 .ireturn = true := by decide +kernel
def bJ1_indexOf_4cfef_29 : List mB := [(.aload_n 0, mI 0), (.iload_n 1, mI 0), (.iload_n 2, mI 0), (.iload_n 3, mI 0)]
theorem kJ1_indexOf_4cfef_29 : mchk MJ1_indexOf_4cfef 29 bJ1_indexOf_4cfef_29 33 = true := by decide +kernel
theorem tJ1_indexOf_4cfef_33 : mdk MJ1_indexOf_4cfef 33 (.invokestatic 95) = true := by decide +kernel
theorem tJ1_indexOf_4cfef_36 : mrk MJ1_indexOf_4cfef 36 .ireturn = true := by decide +kernel
def bJ1_indexOfChar_4cfef_0 : List mB := [(.iload_n 1, mI 0), (.i2b, mI 0), (.istore 4, mI 0), (.iload_n 2, mI 0), (.istore 5, mI 0)]
theorem kJ1_indexOfChar_4cfef_0 : mchk MJ1_indexOfChar_4cfef 0 bJ1_indexOfChar_4cfef_0 7 = true := by decide +kernel
def bJ1_indexOfChar_4cfef_7 : List mB := [(.iload 5, mI 0), (.iload_n 3, mI 0)]
theorem kJ1_indexOfChar_4cfef_7 : mchk MJ1_indexOfChar_4cfef 7 bJ1_indexOfChar_4cfef_7 10 = true := by decide +kernel
theorem tJ1_indexOfChar_4cfef_10 : mbk MJ1_indexOfChar_4cfef 10 (.if_icmp .ge 21) 31 = true := by decide +kernel
def bJ1_indexOfChar_4cfef_13 : List mB := [(.aload_n 0, mI 0), (.iload 5, mI 0), (.baload, mI 0), (.iload 4, mI 0)]
theorem kJ1_indexOfChar_4cfef_13 : mchk MJ1_indexOfChar_4cfef 13 bJ1_indexOfChar_4cfef_13 19 = true := by decide +kernel
theorem tJ1_indexOfChar_4cfef_19 : mbk MJ1_indexOfChar_4cfef 19 (.if_icmp .ne 6) 25 = true := by decide +kernel
def bJ1_indexOfChar_4cfef_22 : List mB := [(.iload 5, mI 0)]
theorem kJ1_indexOfChar_4cfef_22 : mchk MJ1_indexOfChar_4cfef 22 bJ1_indexOfChar_4cfef_22 24 = true := by decide +kernel
theorem tJ1_indexOfChar_4cfef_24 : mrk MJ1_indexOfChar_4cfef 24 .ireturn = true := by decide +kernel
def bJ1_indexOfChar_4cfef_25 : List mB := [(.iinc 5 1, mI 1)]
theorem kJ1_indexOfChar_4cfef_25 : mchk MJ1_indexOfChar_4cfef 25 bJ1_indexOfChar_4cfef_25 28 = true := by decide +kernel
theorem tJ1_indexOfChar_4cfef_28 : mbk MJ1_indexOfChar_4cfef 28 (.goto (-21)) 7 = true := by decide +kernel
def bJ1_indexOfChar_4cfef_31 : List mB := [(.iconst (-1), mI (-1))]
theorem kJ1_indexOfChar_4cfef_31 : mchk MJ1_indexOfChar_4cfef 31 bJ1_indexOfChar_4cfef_31 32 = true := by decide +kernel
theorem tJ1_indexOfChar_4cfef_32 : mrk MJ1_indexOfChar_4cfef 32 .ireturn = true := by decide +kernel
def bJ3_checkIndex_8e157_0 : List mB := [(.iload_n 0, mI 0)]
theorem kJ3_checkIndex_8e157_0 : mchk MJ3_checkIndex_8e157 0 bJ3_checkIndex_8e157_0 1 = true := by decide +kernel
theorem tJ3_checkIndex_8e157_1 : mbk MJ3_checkIndex_8e157 1 (.ifCond .lt 8) 9 = true := by decide +kernel
def bJ3_checkIndex_8e157_4 : List mB := [(.iload_n 0, mI 0), (.iload_n 1, mI 0)]
theorem kJ3_checkIndex_8e157_4 : mchk MJ3_checkIndex_8e157 4 bJ3_checkIndex_8e157_4 6 = true := by decide +kernel
theorem tJ3_checkIndex_8e157_6 : mbk MJ3_checkIndex_8e157 6 (.if_icmp .lt 10) 16 = true := by decide +kernel
def bJ3_checkIndex_8e157_9 : List mB := [(.aload_n 2, mI 0), (.iload_n 0, mI 0), (.iload_n 1, mI 0)]
theorem kJ3_checkIndex_8e157_9 : mchk MJ3_checkIndex_8e157 9 bJ3_checkIndex_8e157_9 12 = true := by decide +kernel
def bJ3_checkIndex_8e157_16 : List mB := [(.iload_n 0, mI 0)]
theorem kJ3_checkIndex_8e157_16 : mchk MJ3_checkIndex_8e157 16 bJ3_checkIndex_8e157_16 17 = true := by decide +kernel
theorem tJ3_checkIndex_8e157_17 : mrk MJ3_checkIndex_8e157 17 .ireturn = true := by decide +kernel
end

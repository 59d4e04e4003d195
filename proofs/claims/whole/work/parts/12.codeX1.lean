def bX1_copyFrom_0 : List mB := [(.aload_n 1, mI 0), (.getfield 11, mR 1 0), (.iconst 0, mI (nI 0)), (.aload_n 0, mI 0), (.getfield 11, mR 1 0), (.iconst 0, mI (nI 0)), (.bipush 8, mI (nI 8))]
theorem kX1_copyFrom_0 : mchk MX1_copyFrom 0 bX1_copyFrom_0 12 = true := by decide +kernel
theorem tX1_copyFrom_12 : mdk MX1_copyFrom 12 (.invokestatic 31) = true := by decide +kernel
def bX1_copyFrom_15 : List mB := [(.aload_n 1, mI 0), (.getfield 15, mR 1 1), (.iconst 0, mI (nI 0)), (.aload_n 0, mI 0), (.getfield 15, mR 1 1), (.iconst 0, mI (nI 0)), (.bipush 8, mI (nI 8))]
theorem kX1_copyFrom_15 : mchk MX1_copyFrom 15 bX1_copyFrom_15 27 = true := by decide +kernel
theorem tX1_copyFrom_27 : mdk MX1_copyFrom 27 (.invokestatic 31) = true := by decide +kernel
def bX1_copyFrom_30 : List mB := [(.aload_n 1, mI 0), (.getfield 18, mR 1 2), (.iconst 0, mI (nI 0)), (.aload_n 0, mI 0), (.getfield 18, mR 1 2), (.iconst 0, mI (nI 0)), (.bipush 8, mI (nI 8))]
theorem kX1_copyFrom_30 : mchk MX1_copyFrom 30 bX1_copyFrom_30 42 = true := by decide +kernel
theorem tX1_copyFrom_42 : mdk MX1_copyFrom 42 (.invokestatic 31) = true := by decide +kernel
def bX1_copyFrom_45 : List mB := [(.aload_n 1, mI 0), (.getfield 21, mR 1 3), (.iconst 0, mI (nI 0)), (.aload_n 0, mI 0), (.getfield 21, mR 1 3), (.iconst 0, mI (nI 0)), (.bipush 8, mI (nI 8))]
theorem kX1_copyFrom_45 : mchk MX1_copyFrom 45 bX1_copyFrom_45 57 = true := by decide +kernel
theorem tX1_copyFrom_57 : mdk MX1_copyFrom 57 (.invokestatic 31) = true := by decide +kernel
def bX1_copyFrom_60 : List mB := [(.aload_n 1, mI 0), (.getfield 24, mR 1 4), (.iconst 0, mI (nI 0)), (.aload_n 0, mI 0), (.getfield 24, mR 1 4), (.iconst 0, mI (nI 0)), (.bipush 64, mI (nI 64))]
theorem kX1_copyFrom_60 : mchk MX1_copyFrom 60 bX1_copyFrom_60 72 = true := by decide +kernel
theorem tX1_copyFrom_72 : mdk MX1_copyFrom 72 (.invokestatic 31) = true := by decide +kernel
def bX1_copyFrom_75 : List mB := [(.aload_n 0, mI 0), (.aload_n 1, mI 0), (.getfield 37, mR 1 5), (.putfield 37, mR 1 5), (.aload_n 0, mI 0), (.aload_n 1, mI 0), (.getfield 40, mR 1 6), (.putfield 40, mR 1 6), (.aload_n 0, mI 0), (.aload_n 1, mI 0), (.getfield 43, mR 1 7), (.putfield 43, mR 1 7), (.aload_n 0, mI 0), (.aload_n 1, mI 0), (.getfield 46, mR 1 8), (.putfield 46, mR 1 8), (.aload_n 0, mI 0), (.iconst 0, mI (nI 0)), (.putfield 49, mR 1 9), (.aload_n 0, mI 0), (.iconst (-1), mI (-1)), (.putfield 27, mR 1 10)]
theorem kX1_copyFrom_75 : mchk MX1_copyFrom 75 bX1_copyFrom_75 117 = true := by decide +kernel
theorem tX1_copyFrom_117 : mrk MX1_copyFrom 117 .return_ = true := by decide +kernel
def bX1_isCell_0 : List mB := [(.iload_n 0, mI 0)]
theorem kX1_isCell_0 : mchk MX1_isCell 0 bX1_isCell_0 1 = true := by decide +kernel
theorem tX1_isCell_1 : mbk MX1_isCell 1 (.ifCond .lt 13) 14 = true := by decide +kernel
def bX1_isCell_4 : List mB := [(.iload_n 0, mI 0), (.bipush 24, mI (nI 24))]
theorem kX1_isCell_4 : mchk MX1_isCell 4 bX1_isCell_4 7 = true := by decide +kernel
theorem tX1_isCell_7 : mbk MX1_isCell 7 (.if_icmp .ge 7) 14 = true := by decide +kernel
def bX1_isCell_10 : List mB := [(.iconst 1, mI (nI 1))]
theorem kX1_isCell_10 : mchk MX1_isCell 10 bX1_isCell_10 11 = true := by decide +kernel
theorem tX1_isCell_11 : mbk MX1_isCell 11 (.goto 4) 15 = true := by decide +kernel
def bX1_isCell_14 : List mB := [(.iconst 0, mI (nI 0))]
theorem kX1_isCell_14 : mchk MX1_isCell 14 bX1_isCell_14 15 = true := by decide +kernel
theorem tX1_isCell_15 : mrk MX1_isCell 15 .ireturn = true := by decide +kernel
def bX1_apart_0 : List mB := [(.iload_n 0, mI 0), (.bipush 6, mI (nI 6)), (.idiv, mI 0), (.iload_n 1, mI 0), (.bipush 6, mI (nI 6)), (.idiv, mI 0), (.isub, mI 0), (.istore_n 2, mI 0), (.iload_n 0, mI 0), (.bipush 6, mI (nI 6)), (.irem, mI 0), (.iload_n 1, mI 0), (.bipush 6, mI (nI 6)), (.irem, mI 0), (.isub, mI 0), (.istore_n 3, mI 0), (.iload_n 2, mI 0)]
theorem kX1_apart_0 : mchk MX1_apart 0 bX1_apart_0 21 = true := by decide +kernel
theorem tX1_apart_21 : mbk MX1_apart 21 (.ifCond .ge 8) 29 = true := by decide +kernel
def bX1_apart_24 : List mB := [(.iload_n 2, mI 0), (.ineg, mI 0)]
theorem kX1_apart_24 : mchk MX1_apart 24 bX1_apart_24 26 = true := by decide +kernel
theorem tX1_apart_26 : mbk MX1_apart 26 (.goto 4) 30 = true := by decide +kernel
def bX1_apart_29 : List mB := [(.iload_n 2, mI 0)]
theorem kX1_apart_29 : mchk MX1_apart 29 bX1_apart_29 30 = true := by decide +kernel
def bX1_apart_30 : List mB := [(.iload_n 3, mI 0)]
theorem kX1_apart_30 : mchk MX1_apart 30 bX1_apart_30 31 = true := by decide +kernel
theorem tX1_apart_31 : mbk MX1_apart 31 (.ifCond .ge 8) 39 = true := by decide +kernel
def bX1_apart_34 : List mB := [(.iload_n 3, mI 0), (.ineg, mI 0)]
theorem kX1_apart_34 : mchk MX1_apart 34 bX1_apart_34 36 = true := by decide +kernel
theorem tX1_apart_36 : mbk MX1_apart 36 (.goto 4) 40 = true := by decide +kernel
def bX1_apart_39 : List mB := [(.iload_n 3, mI 0)]
theorem kX1_apart_39 : mchk MX1_apart 39 bX1_apart_39 40 = true := by decide +kernel
def bX1_apart_40 : List mB := [(.iadd, mI 0)]
theorem kX1_apart_40 : mchk MX1_apart 40 bX1_apart_40 41 = true := by decide +kernel
theorem tX1_apart_41 : mrk MX1_apart 41 .ireturn = true := by decide +kernel
def bX1_has_0 : List mB := [(.iload_n 1, mI 0)]
theorem kX1_has_0 : mchk MX1_has 0 bX1_has_0 1 = true := by decide +kernel
theorem tX1_has_1 : mbk MX1_has 1 (.ifCond .lt 15) 16 = true := by decide +kernel
def bX1_has_4 : List mB := [(.iload_n 1, mI 0), (.aload_n 0, mI 0), (.getfield 37, mR 1 5)]
theorem kX1_has_4 : mchk MX1_has 4 bX1_has_4 9 = true := by decide +kernel
theorem tX1_has_9 : mbk MX1_has 9 (.if_icmp .ge 7) 16 = true := by decide +kernel
def bX1_has_12 : List mB := [(.iconst 1, mI (nI 1))]
theorem kX1_has_12 : mchk MX1_has 12 bX1_has_12 13 = true := by decide +kernel
theorem tX1_has_13 : mbk MX1_has 13 (.goto 4) 17 = true := by decide +kernel
def bX1_has_16 : List mB := [(.iconst 0, mI (nI 0))]
theorem kX1_has_16 : mchk MX1_has 16 bX1_has_16 17 = true := by decide +kernel
theorem tX1_has_17 : mrk MX1_has 17 .ireturn = true := by decide +kernel
def bX1_kindOf_0 : List mB := [(.aload_n 0, mI 0), (.iload_n 1, mI 0)]
theorem kX1_kindOf_0 : mchk MX1_kindOf 0 bX1_kindOf_0 2 = true := by decide +kernel
theorem tX1_kindOf_2 : mdk MX1_kindOf 2 (.invokevirtual 52) = true := by decide +kernel
theorem tX1_kindOf_5 : mbk MX1_kindOf 5 (.ifCond .eq 12) 17 = true := by decide +kernel
def bX1_kindOf_8 : List mB := [(.aload_n 0, mI 0), (.getfield 11, mR 1 0), (.iload_n 1, mI 0), (.iaload, mI 0)]
theorem kX1_kindOf_8 : mchk MX1_kindOf 8 bX1_kindOf_8 14 = true := by decide +kernel
theorem tX1_kindOf_14 : mbk MX1_kindOf 14 (.goto 4) 18 = true := by decide +kernel
def bX1_kindOf_17 : List mB := [(.iconst 0, mI (nI 0))]
theorem kX1_kindOf_17 : mchk MX1_kindOf 17 bX1_kindOf_17 18 = true := by decide +kernel
theorem tX1_kindOf_18 : mrk MX1_kindOf 18 .ireturn = true := by decide +kernel
def bX1_cellOf_0 : List mB := [(.aload_n 0, mI 0), (.iload_n 1, mI 0)]
theorem kX1_cellOf_0 : mchk MX1_cellOf 0 bX1_cellOf_0 2 = true := by decide +kernel
theorem tX1_cellOf_2 : mdk MX1_cellOf 2 (.invokevirtual 52) = true := by decide +kernel
theorem tX1_cellOf_5 : mbk MX1_cellOf 5 (.ifCond .eq 12) 17 = true := by decide +kernel
def bX1_cellOf_8 : List mB := [(.aload_n 0, mI 0), (.getfield 15, mR 1 1), (.iload_n 1, mI 0), (.iaload, mI 0)]
theorem kX1_cellOf_8 : mchk MX1_cellOf 8 bX1_cellOf_8 14 = true := by decide +kernel
theorem tX1_cellOf_14 : mbk MX1_cellOf 14 (.goto 4) 18 = true := by decide +kernel
def bX1_cellOf_17 : List mB := [(.iconst 0, mI (nI 0))]
theorem kX1_cellOf_17 : mchk MX1_cellOf 17 bX1_cellOf_17 18 = true := by decide +kernel
theorem tX1_cellOf_18 : mrk MX1_cellOf 18 .ireturn = true := by decide +kernel
def bX1_friendOf_0 : List mB := [(.aload_n 0, mI 0), (.iload_n 1, mI 0)]
theorem kX1_friendOf_0 : mchk MX1_friendOf 0 bX1_friendOf_0 2 = true := by decide +kernel
theorem tX1_friendOf_2 : mdk MX1_friendOf 2 (.invokevirtual 52) = true := by decide +kernel
theorem tX1_friendOf_5 : mbk MX1_friendOf 5 (.ifCond .eq 12) 17 = true := by decide +kernel
def bX1_friendOf_8 : List mB := [(.aload_n 0, mI 0), (.getfield 18, mR 1 2), (.iload_n 1, mI 0), (.iaload, mI 0)]
theorem kX1_friendOf_8 : mchk MX1_friendOf 8 bX1_friendOf_8 14 = true := by decide +kernel
theorem tX1_friendOf_14 : mbk MX1_friendOf 14 (.goto 4) 18 = true := by decide +kernel
def bX1_friendOf_17 : List mB := [(.iconst 0, mI (nI 0))]
theorem kX1_friendOf_17 : mchk MX1_friendOf 17 bX1_friendOf_17 18 = true := by decide +kernel
theorem tX1_friendOf_18 : mrk MX1_friendOf 18 .ireturn = true := by decide +kernel
def bX1_tiredOf_0 : List mB := [(.aload_n 0, mI 0), (.iload_n 1, mI 0)]
theorem kX1_tiredOf_0 : mchk MX1_tiredOf 0 bX1_tiredOf_0 2 = true := by decide +kernel
theorem tX1_tiredOf_2 : mdk MX1_tiredOf 2 (.invokevirtual 52) = true := by decide +kernel
theorem tX1_tiredOf_5 : mbk MX1_tiredOf 5 (.ifCond .eq 12) 17 = true := by decide +kernel
def bX1_tiredOf_8 : List mB := [(.aload_n 0, mI 0), (.getfield 21, mR 1 3), (.iload_n 1, mI 0), (.iaload, mI 0)]
theorem kX1_tiredOf_8 : mchk MX1_tiredOf 8 bX1_tiredOf_8 14 = true := by decide +kernel
theorem tX1_tiredOf_14 : mbk MX1_tiredOf 14 (.goto 4) 18 = true := by decide +kernel
def bX1_tiredOf_17 : List mB := [(.iconst 0, mI (nI 0))]
theorem kX1_tiredOf_17 : mchk MX1_tiredOf 17 bX1_tiredOf_17 18 = true := by decide +kernel
theorem tX1_tiredOf_18 : mrk MX1_tiredOf 18 .ireturn = true := by decide +kernel
def bX1_isStanding_0 : List mB := [(.aload_n 0, mI 0), (.iload_n 1, mI 0)]
theorem kX1_isStanding_0 : mchk MX1_isStanding 0 bX1_isStanding_0 2 = true := by decide +kernel
theorem tX1_isStanding_2 : mdk MX1_isStanding 2 (.invokevirtual 52) = true := by decide +kernel
theorem tX1_isStanding_5 : mbk MX1_isStanding 5 (.ifCond .eq 19) 24 = true := by decide +kernel
def bX1_isStanding_8 : List mB := [(.aload_n 0, mI 0), (.getfield 40, mR 1 6), (.iload_n 1, mI 0), (.ishr, mI 0), (.iconst 1, mI (nI 1)), (.iand, mI 0), (.iconst 1, mI (nI 1))]
theorem kX1_isStanding_8 : mchk MX1_isStanding 8 bX1_isStanding_8 17 = true := by decide +kernel
theorem tX1_isStanding_17 : mbk MX1_isStanding 17 (.if_icmp .ne 7) 24 = true := by decide +kernel
def bX1_isStanding_20 : List mB := [(.iconst 1, mI (nI 1))]
theorem kX1_isStanding_20 : mchk MX1_isStanding 20 bX1_isStanding_20 21 = true := by decide +kernel
theorem tX1_isStanding_21 : mbk MX1_isStanding 21 (.goto 4) 25 = true := by decide +kernel
def bX1_isStanding_24 : List mB := [(.iconst 0, mI (nI 0))]
theorem kX1_isStanding_24 : mchk MX1_isStanding 24 bX1_isStanding_24 25 = true := by decide +kernel
theorem tX1_isStanding_25 : mrk MX1_isStanding 25 .ireturn = true := by decide +kernel
def bX1_isCatcher_0 : List mB := [(.aload_n 0, mI 0), (.iload_n 1, mI 0)]
theorem kX1_isCatcher_0 : mchk MX1_isCatcher 0 bX1_isCatcher_0 2 = true := by decide +kernel
theorem tX1_isCatcher_2 : mdk MX1_isCatcher 2 (.invokevirtual 52) = true := by decide +kernel
theorem tX1_isCatcher_5 : mbk MX1_isCatcher 5 (.ifCond .eq 17) 22 = true := by decide +kernel
def bX1_isCatcher_8 : List mB := [(.aload_n 0, mI 0), (.getfield 11, mR 1 0), (.iload_n 1, mI 0), (.iaload, mI 0), (.iconst 4, mI (nI 4))]
theorem kX1_isCatcher_8 : mchk MX1_isCatcher 8 bX1_isCatcher_8 15 = true := by decide +kernel
theorem tX1_isCatcher_15 : mbk MX1_isCatcher 15 (.if_icmp .lt 7) 22 = true := by decide +kernel
def bX1_isCatcher_18 : List mB := [(.iconst 1, mI (nI 1))]
theorem kX1_isCatcher_18 : mchk MX1_isCatcher 18 bX1_isCatcher_18 19 = true := by decide +kernel
theorem tX1_isCatcher_19 : mbk MX1_isCatcher 19 (.goto 4) 23 = true := by decide +kernel
def bX1_isCatcher_22 : List mB := [(.iconst 0, mI (nI 0))]
theorem kX1_isCatcher_22 : mchk MX1_isCatcher 22 bX1_isCatcher_22 23 = true := by decide +kernel
theorem tX1_isCatcher_23 : mrk MX1_isCatcher 23 .ireturn = true := by decide +kernel
def bX1_freedBy_0 : List mB := [(.aload_n 0, mI 0), (.iload_n 1, mI 0)]
theorem kX1_freedBy_0 : mchk MX1_freedBy 0 bX1_freedBy_0 2 = true := by decide +kernel
theorem tX1_freedBy_2 : mdk MX1_freedBy 2 (.invokevirtual 52) = true := by decide +kernel
theorem tX1_freedBy_5 : mbk MX1_freedBy 5 (.ifCond .eq 25) 30 = true := by decide +kernel
def bX1_freedBy_8 : List mB := [(.aload_n 0, mI 0), (.iload_n 2, mI 0)]
theorem kX1_freedBy_8 : mchk MX1_freedBy 8 bX1_freedBy_8 10 = true := by decide +kernel
theorem tX1_freedBy_10 : mdk MX1_freedBy 10 (.invokevirtual 52) = true := by decide +kernel
theorem tX1_freedBy_13 : mbk MX1_freedBy 13 (.ifCond .eq 17) 30 = true := by decide +kernel
def bX1_freedBy_16 : List mB := [(.aload_n 0, mI 0), (.getfield 24, mR 1 4), (.bipush 8, mI (nI 8)), (.iload_n 1, mI 0), (.imul, mI 0), (.iload_n 2, mI 0), (.iadd, mI 0), (.iaload, mI 0)]
theorem kX1_freedBy_16 : mchk MX1_freedBy 16 bX1_freedBy_16 27 = true := by decide +kernel
theorem tX1_freedBy_27 : mbk MX1_freedBy 27 (.goto 4) 31 = true := by decide +kernel
def bX1_freedBy_30 : List mB := [(.iconst 0, mI (nI 0))]
theorem kX1_freedBy_30 : mchk MX1_freedBy 30 bX1_freedBy_30 31 = true := by decide +kernel
theorem tX1_freedBy_31 : mrk MX1_freedBy 31 .ireturn = true := by decide +kernel
def bX1_childrenCount_0 : List mB := [(.aload_n 0, mI 0), (.getfield 37, mR 1 5)]
theorem kX1_childrenCount_0 : mchk MX1_childrenCount 0 bX1_childrenCount_0 4 = true := by decide +kernel
theorem tX1_childrenCount_4 : mrk MX1_childrenCount 4 .ireturn = true := by decide +kernel
def bX1_standingBits_0 : List mB := [(.aload_n 0, mI 0), (.getfield 40, mR 1 6)]
theorem kX1_standingBits_0 : mchk MX1_standingBits 0 bX1_standingBits_0 4 = true := by decide +kernel
theorem tX1_standingBits_4 : mrk MX1_standingBits 4 .ireturn = true := by decide +kernel
def bX1_standingCount_0 : List mB := [(.aload_n 0, mI 0), (.getfield 40, mR 1 6)]
theorem kX1_standingCount_0 : mchk MX1_standingCount 0 bX1_standingCount_0 4 = true := by decide +kernel
theorem tX1_standingCount_4 : mdk MX1_standingCount 4 (.invokestatic 56) = true := by decide +kernel
theorem tX1_standingCount_7 : mrk MX1_standingCount 7 .ireturn = true := by decide +kernel
def bX1_lawNow_0 : List mB := [(.aload_n 0, mI 0), (.getfield 43, mR 1 7)]
theorem kX1_lawNow_0 : mchk MX1_lawNow 0 bX1_lawNow_0 4 = true := by decide +kernel
theorem tX1_lawNow_4 : mrk MX1_lawNow 4 .ireturn = true := by decide +kernel
def bX1_secondNow_0 : List mB := [(.aload_n 0, mI 0), (.getfield 46, mR 1 8)]
theorem kX1_secondNow_0 : mchk MX1_secondNow 0 bX1_secondNow_0 4 = true := by decide +kernel
theorem tX1_secondNow_4 : mrk MX1_secondNow 4 .ireturn = true := by decide +kernel
def bX1_freeingsSinceCopied_0 : List mB := [(.aload_n 0, mI 0), (.getfield 49, mR 1 9)]
theorem kX1_freeingsSinceCopied_0 : mchk MX1_freeingsSinceCopied 0 bX1_freeingsSinceCopied_0 4 = true := by decide +kernel
theorem tX1_freeingsSinceCopied_4 : mrk MX1_freeingsSinceCopied 4 .ireturn = true := by decide +kernel
def bX1_catcherCount_0 : List mB := [(.aload_n 0, mI 0), (.getfield 37, mR 1 5), (.aload_n 0, mI 0)]
theorem kX1_catcherCount_0 : mchk MX1_catcherCount 0 bX1_catcherCount_0 5 = true := by decide +kernel
theorem tX1_catcherCount_5 : mdk MX1_catcherCount 5 (.invokevirtual 62) = true := by decide +kernel
theorem tX1_catcherCount_8 : mdk MX1_catcherCount 8 (.invokestatic 56) = true := by decide +kernel
def bX1_catcherCount_11 : List mB := [(.isub, mI 0)]
theorem kX1_catcherCount_11 : mchk MX1_catcherCount 11 bX1_catcherCount_11 12 = true := by decide +kernel
theorem tX1_catcherCount_12 : mrk MX1_catcherCount 12 .ireturn = true := by decide +kernel
def bX1_tiredSum_0 : List mB := [(.iconst 0, mI (nI 0)), (.istore_n 1, mI 0), (.iconst 0, mI (nI 0)), (.istore_n 2, mI 0)]
theorem kX1_tiredSum_0 : mchk MX1_tiredSum 0 bX1_tiredSum_0 4 = true := by decide +kernel
def bX1_tiredSum_4 : List mB := [(.iload_n 2, mI 0), (.aload_n 0, mI 0), (.getfield 37, mR 1 5)]
theorem kX1_tiredSum_4 : mchk MX1_tiredSum 4 bX1_tiredSum_4 9 = true := by decide +kernel
theorem tX1_tiredSum_9 : mbk MX1_tiredSum 9 (.if_icmp .ge 18) 27 = true := by decide +kernel
def bX1_tiredSum_12 : List mB := [(.iload_n 1, mI 0), (.aload_n 0, mI 0), (.getfield 21, mR 1 3), (.iload_n 2, mI 0), (.iaload, mI 0), (.iadd, mI 0), (.istore_n 1, mI 0), (.iinc 2 1, mI (nI 1))]
theorem kX1_tiredSum_12 : mchk MX1_tiredSum 12 bX1_tiredSum_12 24 = true := by decide +kernel
theorem tX1_tiredSum_24 : mbk MX1_tiredSum 24 (.goto (-20)) 4 = true := by decide +kernel
def bX1_tiredSum_27 : List mB := [(.iload_n 1, mI 0)]
theorem kX1_tiredSum_27 : mchk MX1_tiredSum 27 bX1_tiredSum_27 28 = true := by decide +kernel
theorem tX1_tiredSum_28 : mrk MX1_tiredSum 28 .ireturn = true := by decide +kernel
def bX1_freedSum_0 : List mB := [(.iconst 0, mI (nI 0)), (.istore_n 1, mI 0), (.iconst 0, mI (nI 0)), (.istore_n 2, mI 0)]
theorem kX1_freedSum_0 : mchk MX1_freedSum 0 bX1_freedSum_0 4 = true := by decide +kernel
def bX1_freedSum_4 : List mB := [(.iload_n 2, mI 0), (.aload_n 0, mI 0), (.getfield 24, mR 1 4), (.arraylength, mI 0)]
theorem kX1_freedSum_4 : mchk MX1_freedSum 4 bX1_freedSum_4 10 = true := by decide +kernel
theorem tX1_freedSum_10 : mbk MX1_freedSum 10 (.if_icmp .ge 18) 28 = true := by decide +kernel
def bX1_freedSum_13 : List mB := [(.iload_n 1, mI 0), (.aload_n 0, mI 0), (.getfield 24, mR 1 4), (.iload_n 2, mI 0), (.iaload, mI 0), (.iadd, mI 0), (.istore_n 1, mI 0), (.iinc 2 1, mI (nI 1))]
theorem kX1_freedSum_13 : mchk MX1_freedSum 13 bX1_freedSum_13 25 = true := by decide +kernel
theorem tX1_freedSum_25 : mbk MX1_freedSum 25 (.goto (-21)) 4 = true := by decide +kernel
def bX1_freedSum_28 : List mB := [(.iload_n 1, mI 0)]
theorem kX1_freedSum_28 : mchk MX1_freedSum 28 bX1_freedSum_28 29 = true := by decide +kernel
theorem tX1_freedSum_29 : mrk MX1_freedSum 29 .ireturn = true := by decide +kernel
def bX1_hasPlayers_0 : List mB := [(.aload_n 0, mI 0)]
theorem kX1_hasPlayers_0 : mchk MX1_hasPlayers 0 bX1_hasPlayers_0 1 = true := by decide +kernel
theorem tX1_hasPlayers_1 : mdk MX1_hasPlayers 1 (.invokevirtual 62) = true := by decide +kernel
theorem tX1_hasPlayers_4 : mbk MX1_hasPlayers 4 (.ifCond .eq 7) 11 = true := by decide +kernel
def bX1_hasPlayers_7 : List mB := [(.iconst 1, mI (nI 1))]
theorem kX1_hasPlayers_7 : mchk MX1_hasPlayers 7 bX1_hasPlayers_7 8 = true := by decide +kernel
theorem tX1_hasPlayers_8 : mbk MX1_hasPlayers 8 (.goto 4) 12 = true := by decide +kernel
def bX1_hasPlayers_11 : List mB := [(.iconst 0, mI (nI 0))]
theorem kX1_hasPlayers_11 : mchk MX1_hasPlayers 11 bX1_hasPlayers_11 12 = true := by decide +kernel
theorem tX1_hasPlayers_12 : mrk MX1_hasPlayers 12 .ireturn = true := by decide +kernel
def bX1_isOver_0 : List mB := [(.aload_n 0, mI 0)]
theorem kX1_isOver_0 : mchk MX1_isOver 0 bX1_isOver_0 1 = true := by decide +kernel
theorem tX1_isOver_1 : mdk MX1_isOver 1 (.invokevirtual 66) = true := by decide +kernel
theorem tX1_isOver_4 : mbk MX1_isOver 4 (.ifCond .eq 18) 22 = true := by decide +kernel
def bX1_isOver_7 : List mB := [(.aload_n 0, mI 0), (.getfield 40, mR 1 6), (.aload_n 0, mI 0)]
theorem kX1_isOver_7 : mchk MX1_isOver 7 bX1_isOver_7 12 = true := by decide +kernel
theorem tX1_isOver_12 : mdk MX1_isOver 12 (.invokevirtual 62) = true := by decide +kernel
theorem tX1_isOver_15 : mbk MX1_isOver 15 (.if_icmp .ne 7) 22 = true := by decide +kernel
def bX1_isOver_18 : List mB := [(.iconst 1, mI (nI 1))]
theorem kX1_isOver_18 : mchk MX1_isOver 18 bX1_isOver_18 19 = true := by decide +kernel
theorem tX1_isOver_19 : mbk MX1_isOver 19 (.goto 4) 23 = true := by decide +kernel
def bX1_isOver_22 : List mB := [(.iconst 0, mI (nI 0))]
theorem kX1_isOver_22 : mchk MX1_isOver 22 bX1_isOver_22 23 = true := by decide +kernel
theorem tX1_isOver_23 : mrk MX1_isOver 23 .ireturn = true := by decide +kernel
def bX1_add_0 : List mB := [(.iload_n 1, mI 0)]
theorem kX1_add_0 : mchk MX1_add 0 bX1_add_0 1 = true := by decide +kernel
theorem tX1_add_1 : mbk MX1_add 1 (.ifCond .lt 33) 34 = true := by decide +kernel
def bX1_add_4 : List mB := [(.iload_n 1, mI 0), (.ldc 70, mR 30 5)]
theorem kX1_add_4 : mchk MX1_add 4 bX1_add_4 7 = true := by decide +kernel
theorem tX1_add_7 : mdk MX1_add 7 (.invokevirtual 72) = true := by decide +kernel
theorem tX1_add_10 : mbk MX1_add 10 (.if_icmp .ge 24) 34 = true := by decide +kernel
def bX1_add_13 : List mB := [(.iload_n 2, mI 0)]
theorem kX1_add_13 : mchk MX1_add 13 bX1_add_13 14 = true := by decide +kernel
theorem tX1_add_14 : mdk MX1_add 14 (.invokestatic 77) = true := by decide +kernel
theorem tX1_add_17 : mbk MX1_add 17 (.ifCond .eq 17) 34 = true := by decide +kernel
def bX1_add_20 : List mB := [(.iload_n 3, mI 0)]
theorem kX1_add_20 : mchk MX1_add 20 bX1_add_20 21 = true := by decide +kernel
theorem tX1_add_21 : mbk MX1_add 21 (.ifCond .lt 13) 34 = true := by decide +kernel
def bX1_add_24 : List mB := [(.iload_n 3, mI 0), (.bipush 8, mI (nI 8))]
theorem kX1_add_24 : mchk MX1_add 24 bX1_add_24 27 = true := by decide +kernel
theorem tX1_add_27 : mbk MX1_add 27 (.if_icmp .ge 7) 34 = true := by decide +kernel
def bX1_add_30 : List mB := [(.iconst 1, mI (nI 1))]
theorem kX1_add_30 : mchk MX1_add 30 bX1_add_30 31 = true := by decide +kernel
theorem tX1_add_31 : mbk MX1_add 31 (.goto 4) 35 = true := by decide +kernel
def bX1_add_34 : List mB := [(.iconst 0, mI (nI 0))]
theorem kX1_add_34 : mchk MX1_add 34 bX1_add_34 35 = true := by decide +kernel
def bX1_add_35 : List mB := [(.istore 4, mI 0), (.iload 4, mI 0)]
theorem kX1_add_35 : mchk MX1_add 35 bX1_add_35 39 = true := by decide +kernel
theorem tX1_add_39 : mbk MX1_add 39 (.ifCond .eq 12) 51 = true := by decide +kernel
def bX1_add_42 : List mB := [(.aload_n 0, mI 0), (.getfield 37, mR 1 5), (.bipush 8, mI (nI 8))]
theorem kX1_add_42 : mchk MX1_add 42 bX1_add_42 48 = true := by decide +kernel
theorem tX1_add_48 : mbk MX1_add 48 (.if_icmp .lt 5) 53 = true := by decide +kernel
def bX1_add_51 : List mB := [(.iconst 0, mI (nI 0))]
theorem kX1_add_51 : mchk MX1_add 51 bX1_add_51 52 = true := by decide +kernel
theorem tX1_add_52 : mrk MX1_add 52 .ireturn = true := by decide +kernel
def bX1_add_53 : List mB := [(.aload_n 0, mI 0), (.getfield 11, mR 1 0), (.aload_n 0, mI 0), (.getfield 37, mR 1 5), (.iload_n 1, mI 0), (.iastore, mI 0), (.aload_n 0, mI 0), (.getfield 15, mR 1 1), (.aload_n 0, mI 0), (.getfield 37, mR 1 5), (.iload_n 2, mI 0), (.iastore, mI 0), (.aload_n 0, mI 0), (.getfield 18, mR 1 2), (.aload_n 0, mI 0), (.getfield 37, mR 1 5), (.iload_n 3, mI 0), (.iastore, mI 0), (.aload_n 0, mI 0), (.dup, mI 0), (.getfield 37, mR 1 5), (.iconst 1, mI (nI 1)), (.iadd, mI 0), (.putfield 37, mR 1 5), (.iconst 1, mI (nI 1))]
theorem kX1_add_53 : mchk MX1_add 53 bX1_add_53 94 = true := by decide +kernel
theorem tX1_add_94 : mrk MX1_add 94 .ireturn = true := by decide +kernel
def bX1_turnOver_0 : List mB := [(.aload_n 0, mI 0), (.iload_n 1, mI 0)]
theorem kX1_turnOver_0 : mchk MX1_turnOver 0 bX1_turnOver_0 2 = true := by decide +kernel
theorem tX1_turnOver_2 : mdk MX1_turnOver 2 (.invokevirtual 52) = true := by decide +kernel
theorem tX1_turnOver_5 : mbk MX1_turnOver 5 (.ifCond .eq 11) 16 = true := by decide +kernel
def bX1_turnOver_8 : List mB := [(.aload_n 0, mI 0), (.iload_n 1, mI 0)]
theorem kX1_turnOver_8 : mchk MX1_turnOver 8 bX1_turnOver_8 10 = true := by decide +kernel
theorem tX1_turnOver_10 : mdk MX1_turnOver 10 (.invokevirtual 80) = true := by decide +kernel
theorem tX1_turnOver_13 : mbk MX1_turnOver 13 (.ifCond .eq 5) 18 = true := by decide +kernel
def bX1_turnOver_16 : List mB := [(.iconst 0, mI (nI 0))]
theorem kX1_turnOver_16 : mchk MX1_turnOver 16 bX1_turnOver_16 17 = true := by decide +kernel
theorem tX1_turnOver_17 : mrk MX1_turnOver 17 .ireturn = true := by decide +kernel
def bX1_turnOver_18 : List mB := [(.aload_n 0, mI 0), (.dup, mI 0), (.getfield 40, mR 1 6), (.iconst 1, mI (nI 1)), (.iload_n 1, mI 0), (.ishl, mI 0), (.ixor, mI 0), (.putfield 40, mR 1 6), (.iconst 1, mI (nI 1))]
theorem kX1_turnOver_18 : mchk MX1_turnOver 18 bX1_turnOver_18 31 = true := by decide +kernel
theorem tX1_turnOver_31 : mrk MX1_turnOver 31 .ireturn = true := by decide +kernel
def bX1_setLaw_0 : List mB := [(.iload_n 1, mI 0)]
theorem kX1_setLaw_0 : mchk MX1_setLaw 0 bX1_setLaw_0 1 = true := by decide +kernel
theorem tX1_setLaw_1 : mbk MX1_setLaw 1 (.ifCond .lt 8) 9 = true := by decide +kernel
def bX1_setLaw_4 : List mB := [(.iload_n 1, mI 0), (.iconst 4, mI (nI 4))]
theorem kX1_setLaw_4 : mchk MX1_setLaw 4 bX1_setLaw_4 6 = true := by decide +kernel
theorem tX1_setLaw_6 : mbk MX1_setLaw 6 (.if_icmp .lt 5) 11 = true := by decide +kernel
def bX1_setLaw_9 : List mB := [(.iconst 0, mI (nI 0))]
theorem kX1_setLaw_9 : mchk MX1_setLaw 9 bX1_setLaw_9 10 = true := by decide +kernel
theorem tX1_setLaw_10 : mrk MX1_setLaw 10 .ireturn = true := by decide +kernel
def bX1_setLaw_11 : List mB := [(.aload_n 0, mI 0), (.iload_n 1, mI 0), (.putfield 43, mR 1 7), (.iconst 1, mI (nI 1))]
theorem kX1_setLaw_11 : mchk MX1_setLaw 11 bX1_setLaw_11 17 = true := by decide +kernel
theorem tX1_setLaw_17 : mrk MX1_setLaw 17 .ireturn = true := by decide +kernel
def bX1_put_0 : List mB := [(.aload_n 0, mI 0), (.iload_n 1, mI 0)]
theorem kX1_put_0 : mchk MX1_put 0 bX1_put_0 2 = true := by decide +kernel
theorem tX1_put_2 : mdk MX1_put 2 (.invokevirtual 52) = true := by decide +kernel
theorem tX1_put_5 : mbk MX1_put 5 (.ifCond .eq 10) 15 = true := by decide +kernel
def bX1_put_8 : List mB := [(.iload_n 2, mI 0)]
theorem kX1_put_8 : mchk MX1_put 8 bX1_put_8 9 = true := by decide +kernel
theorem tX1_put_9 : mdk MX1_put 9 (.invokestatic 77) = true := by decide +kernel
theorem tX1_put_12 : mbk MX1_put 12 (.ifCond .ne 5) 17 = true := by decide +kernel
def bX1_put_15 : List mB := [(.iconst 0, mI (nI 0))]
theorem kX1_put_15 : mchk MX1_put 15 bX1_put_15 16 = true := by decide +kernel
theorem tX1_put_16 : mrk MX1_put 16 .ireturn = true := by decide +kernel
def bX1_put_17 : List mB := [(.aload_n 0, mI 0), (.getfield 15, mR 1 1), (.iload_n 1, mI 0), (.iload_n 2, mI 0), (.iastore, mI 0), (.iconst 1, mI (nI 1))]
theorem kX1_put_17 : mchk MX1_put 17 bX1_put_17 25 = true := by decide +kernel
theorem tX1_put_25 : mrk MX1_put 25 .ireturn = true := by decide +kernel
def bX1_setKind_0 : List mB := [(.aload_n 0, mI 0), (.iload_n 1, mI 0)]
theorem kX1_setKind_0 : mchk MX1_setKind 0 bX1_setKind_0 2 = true := by decide +kernel
theorem tX1_setKind_2 : mdk MX1_setKind 2 (.invokevirtual 52) = true := by decide +kernel
theorem tX1_setKind_5 : mbk MX1_setKind 5 (.ifCond .eq 10) 15 = true := by decide +kernel
def bX1_setKind_8 : List mB := [(.aload_n 0, mI 0), (.getfield 11, mR 1 0), (.iload_n 1, mI 0), (.iload_n 2, mI 0), (.iastore, mI 0)]
theorem kX1_setKind_8 : mchk MX1_setKind 8 bX1_setKind_8 15 = true := by decide +kernel
theorem tX1_setKind_15 : mrk MX1_setKind 15 .return_ = true := by decide +kernel
def bX1_setAside_0 : List mB := [(.aload_n 0, mI 0), (.iload_n 1, mI 0), (.putfield 27, mR 1 10)]
theorem kX1_setAside_0 : mchk MX1_setAside 0 bX1_setAside_0 5 = true := by decide +kernel
theorem tX1_setAside_5 : mrk MX1_setAside 5 .return_ = true := by decide +kernel
def bX1_exchange_0 : List mB := [(.aload_n 0, mI 0), (.iload_n 1, mI 0)]
theorem kX1_exchange_0 : mchk MX1_exchange 0 bX1_exchange_0 2 = true := by decide +kernel
theorem tX1_exchange_2 : mdk MX1_exchange 2 (.invokevirtual 52) = true := by decide +kernel
theorem tX1_exchange_5 : mbk MX1_exchange 5 (.ifCond .eq 42) 47 = true := by decide +kernel
def bX1_exchange_8 : List mB := [(.aload_n 0, mI 0), (.iload_n 2, mI 0)]
theorem kX1_exchange_8 : mchk MX1_exchange 8 bX1_exchange_8 10 = true := by decide +kernel
theorem tX1_exchange_10 : mdk MX1_exchange 10 (.invokevirtual 52) = true := by decide +kernel
theorem tX1_exchange_13 : mbk MX1_exchange 13 (.ifCond .eq 34) 47 = true := by decide +kernel
def bX1_exchange_16 : List mB := [(.aload_n 0, mI 0), (.getfield 11, mR 1 0), (.iload_n 1, mI 0), (.iaload, mI 0), (.istore_n 3, mI 0), (.aload_n 0, mI 0), (.getfield 11, mR 1 0), (.iload_n 1, mI 0), (.aload_n 0, mI 0), (.getfield 11, mR 1 0), (.iload_n 2, mI 0), (.iaload, mI 0), (.iastore, mI 0), (.aload_n 0, mI 0), (.getfield 11, mR 1 0), (.iload_n 2, mI 0), (.iload_n 3, mI 0), (.iastore, mI 0), (.aload_n 0, mI 0), (.iload_n 2, mI 0)]
theorem kX1_exchange_16 : mchk MX1_exchange 16 bX1_exchange_16 44 = true := by decide +kernel
theorem tX1_exchange_44 : mdk MX1_exchange 44 (.invokevirtual 83) = true := by decide +kernel
theorem tX1_exchange_47 : mrk MX1_exchange 47 .return_ = true := by decide +kernel
def bX1_scatter_0 : List mB := [(.iload_n 1, mI 0), (.istore_n 2, mI 0), (.iconst 0, mI (nI 0)), (.istore_n 3, mI 0)]
theorem kX1_scatter_0 : mchk MX1_scatter 0 bX1_scatter_0 4 = true := by decide +kernel
def bX1_scatter_4 : List mB := [(.iload_n 3, mI 0), (.aload_n 0, mI 0), (.getfield 37, mR 1 5)]
theorem kX1_scatter_4 : mchk MX1_scatter 4 bX1_scatter_4 9 = true := by decide +kernel
theorem tX1_scatter_9 : mbk MX1_scatter 9 (.if_icmp .ge 41) 50 = true := by decide +kernel
def bX1_scatter_12 : List mB := [(.iload_n 2, mI 0), (.ldc 87, mI (nI 1664525)), (.imul, mI 0), (.ldc 88, mI (nI 1013904223)), (.iadd, mI 0), (.istore_n 2, mI 0), (.aload_n 0, mI 0), (.getfield 15, mR 1 1), (.iload_n 3, mI 0), (.iload_n 2, mI 0), (.ldc 89, mI (nI 2147483647)), (.iand, mI 0), (.sipush 256, mI (nI 256)), (.idiv, mI 0), (.bipush 24, mI (nI 24)), (.irem, mI 0), (.iastore, mI 0), (.aload_n 0, mI 0), (.getfield 21, mR 1 3), (.iload_n 3, mI 0), (.iconst 0, mI (nI 0)), (.iastore, mI 0), (.iinc 3 1, mI (nI 1))]
theorem kX1_scatter_12 : mchk MX1_scatter 12 bX1_scatter_12 47 = true := by decide +kernel
theorem tX1_scatter_47 : mbk MX1_scatter 47 (.goto (-43)) 4 = true := by decide +kernel
def bX1_scatter_50 : List mB := [(.aload_n 0, mI 0), (.iconst 0, mI (nI 0)), (.putfield 40, mR 1 6), (.iload_n 2, mI 0)]
theorem kX1_scatter_50 : mchk MX1_scatter 50 bX1_scatter_50 56 = true := by decide +kernel
theorem tX1_scatter_56 : mrk MX1_scatter 56 .ireturn = true := by decide +kernel
def bX1_couldFree_0 : List mB := [(.aload_n 0, mI 0), (.iload_n 1, mI 0)]
theorem kX1_couldFree_0 : mchk MX1_couldFree 0 bX1_couldFree_0 2 = true := by decide +kernel
theorem tX1_couldFree_2 : mdk MX1_couldFree 2 (.invokevirtual 52) = true := by decide +kernel
theorem tX1_couldFree_5 : mbk MX1_couldFree 5 (.ifCond .eq 11) 16 = true := by decide +kernel
def bX1_couldFree_8 : List mB := [(.aload_n 0, mI 0), (.iload_n 1, mI 0)]
theorem kX1_couldFree_8 : mchk MX1_couldFree 8 bX1_couldFree_8 10 = true := by decide +kernel
theorem tX1_couldFree_10 : mdk MX1_couldFree 10 (.invokevirtual 90) = true := by decide +kernel
theorem tX1_couldFree_13 : mbk MX1_couldFree 13 (.ifCond .eq 6) 19 = true := by decide +kernel
def bX1_couldFree_16 : List mB := [(.bipush (-9), mI (-9))]
theorem kX1_couldFree_16 : mchk MX1_couldFree 16 bX1_couldFree_16 18 = true := by decide +kernel
theorem tX1_couldFree_18 : mrk MX1_couldFree 18 .ireturn = true := by decide +kernel
def bX1_couldFree_19 : List mB := [(.aload_n 0, mI 0), (.iload_n 1, mI 0), (.aload_n 0, mI 0), (.getfield 40, mR 1 6), (.aload_n 0, mI 0), (.iload_n 1, mI 0)]
theorem kX1_couldFree_19 : mchk MX1_couldFree 19 bX1_couldFree_19 27 = true := by decide +kernel
theorem tX1_couldFree_27 : mdk MX1_couldFree 27 (.invokevirtual 93) = true := by decide +kernel
def bX1_couldFree_30 : List mB := [(.iand, mI 0)]
theorem kX1_couldFree_30 : mchk MX1_couldFree 30 bX1_couldFree_30 31 = true := by decide +kernel
theorem tX1_couldFree_31 : mdk MX1_couldFree 31 (.invokevirtual 96) = true := by decide +kernel
def bX1_couldFree_34 : List mB := [(.istore_n 2, mI 0), (.iload_n 2, mI 0), (.iconst (-1), mI (-1))]
theorem kX1_couldFree_34 : mchk MX1_couldFree 34 bX1_couldFree_34 37 = true := by decide +kernel
theorem tX1_couldFree_37 : mbk MX1_couldFree 37 (.if_icmp .ne 8) 45 = true := by decide +kernel
def bX1_couldFree_40 : List mB := [(.bipush (-9), mI (-9))]
theorem kX1_couldFree_40 : mchk MX1_couldFree 40 bX1_couldFree_40 42 = true := by decide +kernel
theorem tX1_couldFree_42 : mbk MX1_couldFree 42 (.goto 4) 46 = true := by decide +kernel
def bX1_couldFree_45 : List mB := [(.iload_n 2, mI 0)]
theorem kX1_couldFree_45 : mchk MX1_couldFree 45 bX1_couldFree_45 46 = true := by decide +kernel
theorem tX1_couldFree_46 : mrk MX1_couldFree 46 .ireturn = true := by decide +kernel
def bX1_hasFreerFor_0 : List mB := [(.iconst 0, mI (nI 0)), (.istore_n 2, mI 0)]
theorem kX1_hasFreerFor_0 : mchk MX1_hasFreerFor 0 bX1_hasFreerFor_0 2 = true := by decide +kernel
def bX1_hasFreerFor_2 : List mB := [(.iload_n 2, mI 0), (.aload_n 0, mI 0), (.getfield 37, mR 1 5)]
theorem kX1_hasFreerFor_2 : mchk MX1_hasFreerFor 2 bX1_hasFreerFor_2 7 = true := by decide +kernel
theorem tX1_hasFreerFor_7 : mbk MX1_hasFreerFor 7 (.if_icmp .ge 29) 36 = true := by decide +kernel
def bX1_hasFreerFor_10 : List mB := [(.iload_n 2, mI 0), (.iload_n 1, mI 0)]
theorem kX1_hasFreerFor_10 : mchk MX1_hasFreerFor 10 bX1_hasFreerFor_10 12 = true := by decide +kernel
theorem tX1_hasFreerFor_12 : mbk MX1_hasFreerFor 12 (.if_icmp .eq 18) 30 = true := by decide +kernel
def bX1_hasFreerFor_15 : List mB := [(.aload_n 0, mI 0), (.iload_n 2, mI 0)]
theorem kX1_hasFreerFor_15 : mchk MX1_hasFreerFor 15 bX1_hasFreerFor_15 17 = true := by decide +kernel
theorem tX1_hasFreerFor_17 : mdk MX1_hasFreerFor 17 (.invokevirtual 93) = true := by decide +kernel
def bX1_hasFreerFor_20 : List mB := [(.iload_n 1, mI 0), (.ishr, mI 0), (.iconst 1, mI (nI 1)), (.iand, mI 0), (.iconst 1, mI (nI 1))]
theorem kX1_hasFreerFor_20 : mchk MX1_hasFreerFor 20 bX1_hasFreerFor_20 25 = true := by decide +kernel
theorem tX1_hasFreerFor_25 : mbk MX1_hasFreerFor 25 (.if_icmp .ne 5) 30 = true := by decide +kernel
def bX1_hasFreerFor_28 : List mB := [(.iconst 1, mI (nI 1))]
theorem kX1_hasFreerFor_28 : mchk MX1_hasFreerFor 28 bX1_hasFreerFor_28 29 = true := by decide +kernel
theorem tX1_hasFreerFor_29 : mrk MX1_hasFreerFor 29 .ireturn = true := by decide +kernel
def bX1_hasFreerFor_30 : List mB := [(.iinc 2 1, mI (nI 1))]
theorem kX1_hasFreerFor_30 : mchk MX1_hasFreerFor 30 bX1_hasFreerFor_30 33 = true := by decide +kernel
theorem tX1_hasFreerFor_33 : mbk MX1_hasFreerFor 33 (.goto (-31)) 2 = true := by decide +kernel
def bX1_hasFreerFor_36 : List mB := [(.iconst 0, mI (nI 0))]
theorem kX1_hasFreerFor_36 : mchk MX1_hasFreerFor 36 bX1_hasFreerFor_36 37 = true := by decide +kernel
theorem tX1_hasFreerFor_37 : mrk MX1_hasFreerFor 37 .ireturn = true := by decide +kernel
def bX1_catcherApart_0 : List mB := [(.bipush 99, mI (nI 99)), (.istore_n 2, mI 0), (.iconst 0, mI (nI 0)), (.istore_n 3, mI 0)]
theorem kX1_catcherApart_0 : mchk MX1_catcherApart 0 bX1_catcherApart_0 5 = true := by decide +kernel
def bX1_catcherApart_5 : List mB := [(.iload_n 3, mI 0), (.aload_n 0, mI 0), (.getfield 37, mR 1 5)]
theorem kX1_catcherApart_5 : mchk MX1_catcherApart 5 bX1_catcherApart_5 10 = true := by decide +kernel
theorem tX1_catcherApart_10 : mbk MX1_catcherApart 10 (.if_icmp .ge 34) 44 = true := by decide +kernel
def bX1_catcherApart_13 : List mB := [(.aload_n 0, mI 0), (.getfield 11, mR 1 0), (.iload_n 3, mI 0), (.iaload, mI 0), (.iconst 4, mI (nI 4))]
theorem kX1_catcherApart_13 : mchk MX1_catcherApart 13 bX1_catcherApart_13 20 = true := by decide +kernel
theorem tX1_catcherApart_20 : mbk MX1_catcherApart 20 (.if_icmp .lt 18) 38 = true := by decide +kernel
def bX1_catcherApart_23 : List mB := [(.iload_n 2, mI 0), (.iload_n 1, mI 0), (.aload_n 0, mI 0), (.getfield 15, mR 1 1), (.iload_n 3, mI 0), (.iaload, mI 0)]
theorem kX1_catcherApart_23 : mchk MX1_catcherApart 23 bX1_catcherApart_23 31 = true := by decide +kernel
theorem tX1_catcherApart_31 : mdk MX1_catcherApart 31 (.invokestatic 100) = true := by decide +kernel
theorem tX1_catcherApart_34 : mdk MX1_catcherApart 34 (.invokestatic 103) = true := by decide +kernel
def bX1_catcherApart_37 : List mB := [(.istore_n 2, mI 0)]
theorem kX1_catcherApart_37 : mchk MX1_catcherApart 37 bX1_catcherApart_37 38 = true := by decide +kernel
def bX1_catcherApart_38 : List mB := [(.iinc 3 1, mI (nI 1))]
theorem kX1_catcherApart_38 : mchk MX1_catcherApart 38 bX1_catcherApart_38 41 = true := by decide +kernel
theorem tX1_catcherApart_41 : mbk MX1_catcherApart 41 (.goto (-36)) 5 = true := by decide +kernel
def bX1_catcherApart_44 : List mB := [(.iload_n 2, mI 0)]
theorem kX1_catcherApart_44 : mchk MX1_catcherApart 44 bX1_catcherApart_44 45 = true := by decide +kernel
theorem tX1_catcherApart_45 : mrk MX1_catcherApart 45 .ireturn = true := by decide +kernel
def bX1_passMany_0 : List mB := [(.iconst 0, mI (nI 0)), (.istore_n 2, mI 0)]
theorem kX1_passMany_0 : mchk MX1_passMany 0 bX1_passMany_0 2 = true := by decide +kernel
def bX1_passMany_2 : List mB := [(.iload_n 2, mI 0), (.iload_n 1, mI 0)]
theorem kX1_passMany_2 : mchk MX1_passMany 2 bX1_passMany_2 4 = true := by decide +kernel
theorem tX1_passMany_4 : mbk MX1_passMany 4 (.if_icmp .ge 13) 17 = true := by decide +kernel
def bX1_passMany_7 : List mB := [(.aload_n 0, mI 0)]
theorem kX1_passMany_7 : mchk MX1_passMany 7 bX1_passMany_7 8 = true := by decide +kernel
theorem tX1_passMany_8 : mdk MX1_passMany 8 (.invokevirtual 108) = true := by decide +kernel
def bX1_passMany_11 : List mB := [(.iinc 2 1, mI (nI 1))]
theorem kX1_passMany_11 : mchk MX1_passMany 11 bX1_passMany_11 14 = true := by decide +kernel
theorem tX1_passMany_14 : mbk MX1_passMany 14 (.goto (-12)) 2 = true := by decide +kernel
theorem tX1_passMany_17 : mrk MX1_passMany 17 .return_ = true := by decide +kernel
def bX1_pass_0 : List mB := [(.aload_n 0, mI 0), (.getfield 43, mR 1 7), (.iconst 3, mI (nI 3))]
theorem kX1_pass_0 : mchk MX1_pass 0 bX1_pass_0 5 = true := by decide +kernel
theorem tX1_pass_5 : mbk MX1_pass 5 (.if_icmp .ne 18) 23 = true := by decide +kernel
def bX1_pass_8 : List mB := [(.aload_n 0, mI 0), (.getfield 46, mR 1 8), (.bipush 10, mI (nI 10)), (.irem, mI 0)]
theorem kX1_pass_8 : mchk MX1_pass 8 bX1_pass_8 15 = true := by decide +kernel
theorem tX1_pass_15 : mbk MX1_pass 15 (.ifCond .ne 8) 23 = true := by decide +kernel
def bX1_pass_18 : List mB := [(.aload_n 0, mI 0), (.iconst 0, mI (nI 0)), (.putfield 40, mR 1 6)]
theorem kX1_pass_18 : mchk MX1_pass 18 bX1_pass_18 23 = true := by decide +kernel
def bX1_pass_23 : List mB := [(.iconst 0, mI (nI 0)), (.istore_n 1, mI 0)]
theorem kX1_pass_23 : mchk MX1_pass 23 bX1_pass_23 25 = true := by decide +kernel
def bX1_pass_25 : List mB := [(.iload_n 1, mI 0), (.aload_n 0, mI 0), (.getfield 37, mR 1 5)]
theorem kX1_pass_25 : mchk MX1_pass 25 bX1_pass_25 30 = true := by decide +kernel
theorem tX1_pass_30 : mbk MX1_pass 30 (.if_icmp .ge 30) 60 = true := by decide +kernel
def bX1_pass_33 : List mB := [(.aload_n 0, mI 0), (.iload_n 1, mI 0)]
theorem kX1_pass_33 : mchk MX1_pass 33 bX1_pass_33 35 = true := by decide +kernel
theorem tX1_pass_35 : mdk MX1_pass 35 (.invokevirtual 80) = true := by decide +kernel
theorem tX1_pass_38 : mbk MX1_pass 38 (.ifCond .eq 11) 49 = true := by decide +kernel
def bX1_pass_41 : List mB := [(.aload_n 0, mI 0), (.iload_n 1, mI 0)]
theorem kX1_pass_41 : mchk MX1_pass 41 bX1_pass_41 43 = true := by decide +kernel
theorem tX1_pass_43 : mdk MX1_pass 43 (.invokevirtual 111) = true := by decide +kernel
theorem tX1_pass_46 : mbk MX1_pass 46 (.goto 8) 54 = true := by decide +kernel
def bX1_pass_49 : List mB := [(.aload_n 0, mI 0), (.iload_n 1, mI 0)]
theorem kX1_pass_49 : mchk MX1_pass 49 bX1_pass_49 51 = true := by decide +kernel
theorem tX1_pass_51 : mdk MX1_pass 51 (.invokevirtual 114) = true := by decide +kernel
def bX1_pass_54 : List mB := [(.iinc 1 1, mI (nI 1))]
theorem kX1_pass_54 : mchk MX1_pass 54 bX1_pass_54 57 = true := by decide +kernel
theorem tX1_pass_57 : mbk MX1_pass 57 (.goto (-32)) 25 = true := by decide +kernel
def bX1_pass_60 : List mB := [(.aload_n 0, mI 0), (.dup, mI 0), (.getfield 46, mR 1 8), (.iconst 1, mI (nI 1)), (.iadd, mI 0), (.putfield 46, mR 1 8)]
theorem kX1_pass_60 : mchk MX1_pass 60 bX1_pass_60 70 = true := by decide +kernel
theorem tX1_pass_70 : mrk MX1_pass 70 .return_ = true := by decide +kernel
def bX1_playerActs_0 : List mB := [(.aload_n 0, mI 0), (.iload_n 1, mI 0)]
theorem kX1_playerActs_0 : mchk MX1_playerActs 0 bX1_playerActs_0 2 = true := by decide +kernel
theorem tX1_playerActs_2 : mdk MX1_playerActs 2 (.invokevirtual 90) = true := by decide +kernel
theorem tX1_playerActs_5 : mbk MX1_playerActs 5 (.ifCond .ne 11) 16 = true := by decide +kernel
def bX1_playerActs_8 : List mB := [(.iload_n 1, mI 0), (.aload_n 0, mI 0), (.getfield 27, mR 1 10)]
theorem kX1_playerActs_8 : mchk MX1_playerActs 8 bX1_playerActs_8 13 = true := by decide +kernel
theorem tX1_playerActs_13 : mbk MX1_playerActs 13 (.if_icmp .ne 10) 23 = true := by decide +kernel
def bX1_playerActs_16 : List mB := [(.aload_n 0, mI 0), (.iload_n 1, mI 0), (.iconst (-1), mI (-1))]
theorem kX1_playerActs_16 : mchk MX1_playerActs 16 bX1_playerActs_16 19 = true := by decide +kernel
theorem tX1_playerActs_19 : mdk MX1_playerActs 19 (.invokevirtual 117) = true := by decide +kernel
theorem tX1_playerActs_22 : mrk MX1_playerActs 22 .return_ = true := by decide +kernel
def bX1_playerActs_23 : List mB := [(.aload_n 0, mI 0), (.getfield 21, mR 1 3), (.iload_n 1, mI 0), (.iaload, mI 0), (.bipush 9, mI (nI 9))]
theorem kX1_playerActs_23 : mchk MX1_playerActs 23 bX1_playerActs_23 31 = true := by decide +kernel
theorem tX1_playerActs_31 : mbk MX1_playerActs 31 (.if_icmp .ne 11) 42 = true := by decide +kernel
def bX1_playerActs_34 : List mB := [(.aload_n 0, mI 0), (.getfield 21, mR 1 3), (.iload_n 1, mI 0), (.iconst 0, mI (nI 0)), (.iastore, mI 0)]
theorem kX1_playerActs_34 : mchk MX1_playerActs 34 bX1_playerActs_34 41 = true := by decide +kernel
theorem tX1_playerActs_41 : mrk MX1_playerActs 41 .return_ = true := by decide +kernel
def bX1_playerActs_42 : List mB := [(.aload_n 0, mI 0), (.getfield 15, mR 1 1), (.iload_n 1, mI 0), (.iaload, mI 0), (.istore_n 2, mI 0), (.iconst 0, mI (nI 0)), (.istore_n 3, mI 0), (.aload_n 0, mI 0), (.getfield 11, mR 1 0), (.iload_n 1, mI 0), (.iaload, mI 0), (.iconst 1, mI (nI 1))]
theorem kX1_playerActs_42 : mchk MX1_playerActs 42 bX1_playerActs_42 58 = true := by decide +kernel
theorem tX1_playerActs_58 : mbk MX1_playerActs 58 (.if_icmp .eq 13) 71 = true := by decide +kernel
def bX1_playerActs_61 : List mB := [(.aload_n 0, mI 0), (.getfield 11, mR 1 0), (.iload_n 1, mI 0), (.iaload, mI 0), (.iconst 2, mI (nI 2))]
theorem kX1_playerActs_61 : mchk MX1_playerActs 61 bX1_playerActs_61 68 = true := by decide +kernel
theorem tX1_playerActs_68 : mbk MX1_playerActs 68 (.if_icmp .ne 12) 80 = true := by decide +kernel
def bX1_playerActs_71 : List mB := [(.aload_n 0, mI 0), (.iload_n 1, mI 0)]
theorem kX1_playerActs_71 : mchk MX1_playerActs 71 bX1_playerActs_71 73 = true := by decide +kernel
theorem tX1_playerActs_73 : mdk MX1_playerActs 73 (.invokevirtual 121) = true := by decide +kernel
def bX1_playerActs_76 : List mB := [(.istore_n 3, mI 0)]
theorem kX1_playerActs_76 : mchk MX1_playerActs 76 bX1_playerActs_76 77 = true := by decide +kernel
theorem tX1_playerActs_77 : mbk MX1_playerActs 77 (.goto 35) 112 = true := by decide +kernel
def bX1_playerActs_80 : List mB := [(.aload_n 0, mI 0), (.getfield 11, mR 1 0), (.iload_n 1, mI 0), (.iaload, mI 0), (.iconst 3, mI (nI 3))]
theorem kX1_playerActs_80 : mchk MX1_playerActs 80 bX1_playerActs_80 87 = true := by decide +kernel
theorem tX1_playerActs_87 : mbk MX1_playerActs 87 (.if_icmp .ne 25) 112 = true := by decide +kernel
def bX1_playerActs_90 : List mB := [(.iload_n 2, mI 0)]
theorem kX1_playerActs_90 : mchk MX1_playerActs 90 bX1_playerActs_90 91 = true := by decide +kernel
theorem tX1_playerActs_91 : mdk MX1_playerActs 91 (.invokestatic 124) = true := by decide +kernel
theorem tX1_playerActs_94 : mbk MX1_playerActs 94 (.ifCond .eq 16) 110 = true := by decide +kernel
def bX1_playerActs_97 : List mB := [(.aload_n 0, mI 0), (.iload_n 2, mI 0)]
theorem kX1_playerActs_97 : mchk MX1_playerActs 97 bX1_playerActs_97 99 = true := by decide +kernel
theorem tX1_playerActs_99 : mdk MX1_playerActs 99 (.invokevirtual 127) = true := by decide +kernel
def bX1_playerActs_102 : List mB := [(.iconst 1, mI (nI 1))]
theorem kX1_playerActs_102 : mchk MX1_playerActs 102 bX1_playerActs_102 103 = true := by decide +kernel
theorem tX1_playerActs_103 : mbk MX1_playerActs 103 (.if_icmp .le 7) 110 = true := by decide +kernel
def bX1_playerActs_106 : List mB := [(.iconst 1, mI (nI 1))]
theorem kX1_playerActs_106 : mchk MX1_playerActs 106 bX1_playerActs_106 107 = true := by decide +kernel
theorem tX1_playerActs_107 : mbk MX1_playerActs 107 (.goto 4) 111 = true := by decide +kernel
def bX1_playerActs_110 : List mB := [(.iconst 0, mI (nI 0))]
theorem kX1_playerActs_110 : mchk MX1_playerActs 110 bX1_playerActs_110 111 = true := by decide +kernel
def bX1_playerActs_111 : List mB := [(.istore_n 3, mI 0)]
theorem kX1_playerActs_111 : mchk MX1_playerActs 111 bX1_playerActs_111 112 = true := by decide +kernel
def bX1_playerActs_112 : List mB := [(.iload_n 3, mI 0)]
theorem kX1_playerActs_112 : mchk MX1_playerActs 112 bX1_playerActs_112 113 = true := by decide +kernel
theorem tX1_playerActs_113 : mbk MX1_playerActs 113 (.ifCond .ne 8) 121 = true := by decide +kernel
def bX1_playerActs_116 : List mB := [(.aload_n 0, mI 0), (.iload_n 1, mI 0)]
theorem kX1_playerActs_116 : mchk MX1_playerActs 116 bX1_playerActs_116 118 = true := by decide +kernel
theorem tX1_playerActs_118 : mdk MX1_playerActs 118 (.invokevirtual 130) = true := by decide +kernel
def bX1_playerActs_121 : List mB := [(.aload_n 0, mI 0), (.iload_n 1, mI 0), (.aload_n 0, mI 0), (.getfield 15, mR 1 1), (.iload_n 1, mI 0), (.iaload, mI 0), (.iload_n 2, mI 0)]
theorem kX1_playerActs_121 : mchk MX1_playerActs 121 bX1_playerActs_121 130 = true := by decide +kernel
theorem tX1_playerActs_130 : mbk MX1_playerActs 130 (.if_icmp .ne 7) 137 = true := by decide +kernel
def bX1_playerActs_133 : List mB := [(.iconst (-1), mI (-1))]
theorem kX1_playerActs_133 : mchk MX1_playerActs 133 bX1_playerActs_133 134 = true := by decide +kernel
theorem tX1_playerActs_134 : mbk MX1_playerActs 134 (.goto 4) 138 = true := by decide +kernel
def bX1_playerActs_137 : List mB := [(.iconst 1, mI (nI 1))]
theorem kX1_playerActs_137 : mchk MX1_playerActs 137 bX1_playerActs_137 138 = true := by decide +kernel
theorem tX1_playerActs_138 : mdk MX1_playerActs 138 (.invokevirtual 117) = true := by decide +kernel
theorem tX1_playerActs_141 : mrk MX1_playerActs 141 .return_ = true := by decide +kernel
def bX1_tire_0 : List mB := [(.aload_n 0, mI 0), (.getfield 21, mR 1 3), (.iload_n 1, mI 0), (.iconst 0, mI (nI 0)), (.bipush 9, mI (nI 9)), (.aload_n 0, mI 0), (.getfield 21, mR 1 3), (.iload_n 1, mI 0), (.iaload, mI 0), (.iload_n 2, mI 0), (.iadd, mI 0)]
theorem kX1_tire_0 : mchk MX1_tire 0 bX1_tire_0 16 = true := by decide +kernel
theorem tX1_tire_16 : mdk MX1_tire 16 (.invokestatic 103) = true := by decide +kernel
theorem tX1_tire_19 : mdk MX1_tire 19 (.invokestatic 133) = true := by decide +kernel
def bX1_tire_22 : List mB := [(.iastore, mI 0)]
theorem kX1_tire_22 : mchk MX1_tire 22 bX1_tire_22 23 = true := by decide +kernel
theorem tX1_tire_23 : mrk MX1_tire 23 .return_ = true := by decide +kernel
def bX1_freesOrFetches_0 : List mB := [(.aload_n 0, mI 0), (.getfield 40, mR 1 6), (.aload_n 0, mI 0), (.iload_n 1, mI 0)]
theorem kX1_freesOrFetches_0 : mchk MX1_freesOrFetches 0 bX1_freesOrFetches_0 6 = true := by decide +kernel
theorem tX1_freesOrFetches_6 : mdk MX1_freesOrFetches 6 (.invokevirtual 93) = true := by decide +kernel
def bX1_freesOrFetches_9 : List mB := [(.iand, mI 0), (.istore_n 2, mI 0), (.aload_n 0, mI 0), (.iload_n 1, mI 0), (.iload_n 2, mI 0)]
theorem kX1_freesOrFetches_9 : mchk MX1_freesOrFetches 9 bX1_freesOrFetches_9 14 = true := by decide +kernel
theorem tX1_freesOrFetches_14 : mdk MX1_freesOrFetches 14 (.invokevirtual 96) = true := by decide +kernel
def bX1_freesOrFetches_17 : List mB := [(.istore_n 3, mI 0), (.iload_n 3, mI 0), (.iconst (-1), mI (-1))]
theorem kX1_freesOrFetches_17 : mchk MX1_freesOrFetches 17 bX1_freesOrFetches_17 20 = true := by decide +kernel
theorem tX1_freesOrFetches_20 : mbk MX1_freesOrFetches 20 (.if_icmp .eq 11) 31 = true := by decide +kernel
def bX1_freesOrFetches_23 : List mB := [(.aload_n 0, mI 0), (.iload_n 1, mI 0), (.iload_n 3, mI 0)]
theorem kX1_freesOrFetches_23 : mchk MX1_freesOrFetches 23 bX1_freesOrFetches_23 26 = true := by decide +kernel
theorem tX1_freesOrFetches_26 : mdk MX1_freesOrFetches 26 (.invokevirtual 136) = true := by decide +kernel
def bX1_freesOrFetches_29 : List mB := [(.iconst 1, mI (nI 1))]
theorem kX1_freesOrFetches_29 : mchk MX1_freesOrFetches 29 bX1_freesOrFetches_29 30 = true := by decide +kernel
theorem tX1_freesOrFetches_30 : mrk MX1_freesOrFetches 30 .ireturn = true := by decide +kernel
def bX1_freesOrFetches_31 : List mB := [(.aload_n 0, mI 0), (.iload_n 1, mI 0), (.iload_n 2, mI 0)]
theorem kX1_freesOrFetches_31 : mchk MX1_freesOrFetches 31 bX1_freesOrFetches_31 34 = true := by decide +kernel
theorem tX1_freesOrFetches_34 : mdk MX1_freesOrFetches 34 (.invokevirtual 139) = true := by decide +kernel
def bX1_freesOrFetches_37 : List mB := [(.istore 4, mI 0), (.iload 4, mI 0), (.iconst (-1), mI (-1))]
theorem kX1_freesOrFetches_37 : mchk MX1_freesOrFetches 37 bX1_freesOrFetches_37 42 = true := by decide +kernel
theorem tX1_freesOrFetches_42 : mbk MX1_freesOrFetches 42 (.if_icmp .eq 17) 59 = true := by decide +kernel
def bX1_freesOrFetches_45 : List mB := [(.aload_n 0, mI 0), (.aload_n 0, mI 0), (.getfield 15, mR 1 1), (.iload_n 1, mI 0), (.iaload, mI 0)]
theorem kX1_freesOrFetches_45 : mchk MX1_freesOrFetches 45 bX1_freesOrFetches_45 52 = true := by decide +kernel
theorem tX1_freesOrFetches_52 : mdk MX1_freesOrFetches 52 (.invokevirtual 127) = true := by decide +kernel
def bX1_freesOrFetches_55 : List mB := [(.iconst 2, mI (nI 2))]
theorem kX1_freesOrFetches_55 : mchk MX1_freesOrFetches 55 bX1_freesOrFetches_55 56 = true := by decide +kernel
theorem tX1_freesOrFetches_56 : mbk MX1_freesOrFetches 56 (.if_icmp .ge 5) 61 = true := by decide +kernel
def bX1_freesOrFetches_59 : List mB := [(.iconst 0, mI (nI 0))]
theorem kX1_freesOrFetches_59 : mchk MX1_freesOrFetches 59 bX1_freesOrFetches_59 60 = true := by decide +kernel
theorem tX1_freesOrFetches_60 : mrk MX1_freesOrFetches 60 .ireturn = true := by decide +kernel
def bX1_freesOrFetches_61 : List mB := [(.aload_n 0, mI 0), (.iload_n 1, mI 0), (.aload_n 0, mI 0), (.getfield 15, mR 1 1), (.iload 4, mI 0), (.iaload, mI 0)]
theorem kX1_freesOrFetches_61 : mchk MX1_freesOrFetches 61 bX1_freesOrFetches_61 70 = true := by decide +kernel
theorem tX1_freesOrFetches_70 : mdk MX1_freesOrFetches 70 (.invokevirtual 142) = true := by decide +kernel
def bX1_freesOrFetches_73 : List mB := [(.iconst 1, mI (nI 1))]
theorem kX1_freesOrFetches_73 : mchk MX1_freesOrFetches 73 bX1_freesOrFetches_73 74 = true := by decide +kernel
theorem tX1_freesOrFetches_74 : mrk MX1_freesOrFetches 74 .ireturn = true := by decide +kernel
def bX1_setFree_0 : List mB := [(.iconst 0, mI (nI 0)), (.istore_n 3, mI 0)]
theorem kX1_setFree_0 : mchk MX1_setFree 0 bX1_setFree_0 2 = true := by decide +kernel
def bX1_setFree_2 : List mB := [(.iload_n 3, mI 0), (.aload_n 0, mI 0), (.getfield 37, mR 1 5)]
theorem kX1_setFree_2 : mchk MX1_setFree 2 bX1_setFree_2 7 = true := by decide +kernel
theorem tX1_setFree_7 : mbk MX1_setFree 7 (.if_icmp .ge 117) 124 = true := by decide +kernel
def bX1_setFree_10 : List mB := [(.aload_n 0, mI 0), (.getfield 43, mR 1 7), (.iconst 2, mI (nI 2))]
theorem kX1_setFree_10 : mchk MX1_setFree 10 bX1_setFree_10 15 = true := by decide +kernel
theorem tX1_setFree_15 : mbk MX1_setFree 15 (.if_icmp .ne 30) 45 = true := by decide +kernel
def bX1_setFree_18 : List mB := [(.aload_n 0, mI 0), (.getfield 15, mR 1 1), (.iload_n 1, mI 0), (.iaload, mI 0), (.aload_n 0, mI 0), (.getfield 15, mR 1 1), (.iload_n 3, mI 0), (.iaload, mI 0)]
theorem kX1_setFree_18 : mchk MX1_setFree 18 bX1_setFree_18 30 = true := by decide +kernel
theorem tX1_setFree_30 : mdk MX1_setFree 30 (.invokestatic 100) = true := by decide +kernel
def bX1_setFree_33 : List mB := [(.iconst 1, mI (nI 1))]
theorem kX1_setFree_33 : mchk MX1_setFree 33 bX1_setFree_33 34 = true := by decide +kernel
theorem tX1_setFree_34 : mbk MX1_setFree 34 (.if_icmp .gt 7) 41 = true := by decide +kernel
def bX1_setFree_37 : List mB := [(.iconst 1, mI (nI 1))]
theorem kX1_setFree_37 : mchk MX1_setFree 37 bX1_setFree_37 38 = true := by decide +kernel
theorem tX1_setFree_38 : mbk MX1_setFree 38 (.goto 17) 55 = true := by decide +kernel
def bX1_setFree_41 : List mB := [(.iconst 0, mI (nI 0))]
theorem kX1_setFree_41 : mchk MX1_setFree 41 bX1_setFree_41 42 = true := by decide +kernel
theorem tX1_setFree_42 : mbk MX1_setFree 42 (.goto 13) 55 = true := by decide +kernel
def bX1_setFree_45 : List mB := [(.iload_n 3, mI 0), (.iload_n 2, mI 0)]
theorem kX1_setFree_45 : mchk MX1_setFree 45 bX1_setFree_45 47 = true := by decide +kernel
theorem tX1_setFree_47 : mbk MX1_setFree 47 (.if_icmp .ne 7) 54 = true := by decide +kernel
def bX1_setFree_50 : List mB := [(.iconst 1, mI (nI 1))]
theorem kX1_setFree_50 : mchk MX1_setFree 50 bX1_setFree_50 51 = true := by decide +kernel
theorem tX1_setFree_51 : mbk MX1_setFree 51 (.goto 4) 55 = true := by decide +kernel
def bX1_setFree_54 : List mB := [(.iconst 0, mI (nI 0))]
theorem kX1_setFree_54 : mchk MX1_setFree 54 bX1_setFree_54 55 = true := by decide +kernel
def bX1_setFree_55 : List mB := [(.istore 4, mI 0), (.iload 4, mI 0)]
theorem kX1_setFree_55 : mchk MX1_setFree 55 bX1_setFree_55 59 = true := by decide +kernel
theorem tX1_setFree_59 : mbk MX1_setFree 59 (.ifCond .eq 59) 118 = true := by decide +kernel
def bX1_setFree_62 : List mB := [(.aload_n 0, mI 0), (.getfield 40, mR 1 6), (.iload_n 3, mI 0), (.ishr, mI 0), (.iconst 1, mI (nI 1)), (.iand, mI 0), (.iconst 1, mI (nI 1))]
theorem kX1_setFree_62 : mchk MX1_setFree 62 bX1_setFree_62 71 = true := by decide +kernel
theorem tX1_setFree_71 : mbk MX1_setFree 71 (.if_icmp .ne 47) 118 = true := by decide +kernel
def bX1_setFree_74 : List mB := [(.aload_n 0, mI 0), (.iload_n 3, mI 0)]
theorem kX1_setFree_74 : mchk MX1_setFree 74 bX1_setFree_74 76 = true := by decide +kernel
theorem tX1_setFree_76 : mdk MX1_setFree 76 (.invokevirtual 83) = true := by decide +kernel
def bX1_setFree_79 : List mB := [(.aload_n 0, mI 0), (.dup, mI 0), (.getfield 49, mR 1 9), (.iconst 1, mI (nI 1)), (.iadd, mI 0), (.putfield 49, mR 1 9), (.bipush 8, mI (nI 8)), (.iload_n 1, mI 0), (.imul, mI 0), (.iload_n 3, mI 0), (.iadd, mI 0), (.istore 5, mI 0), (.aload_n 0, mI 0), (.getfield 24, mR 1 4), (.iload 5, mI 0), (.bipush 99, mI (nI 99)), (.aload_n 0, mI 0), (.getfield 24, mR 1 4), (.iload 5, mI 0), (.iaload, mI 0), (.iconst 1, mI (nI 1)), (.iadd, mI 0)]
theorem kX1_setFree_79 : mchk MX1_setFree 79 bX1_setFree_79 114 = true := by decide +kernel
theorem tX1_setFree_114 : mdk MX1_setFree 114 (.invokestatic 103) = true := by decide +kernel
def bX1_setFree_117 : List mB := [(.iastore, mI 0)]
theorem kX1_setFree_117 : mchk MX1_setFree 117 bX1_setFree_117 118 = true := by decide +kernel
def bX1_setFree_118 : List mB := [(.iinc 3 1, mI (nI 1))]
theorem kX1_setFree_118 : mchk MX1_setFree 118 bX1_setFree_118 121 = true := by decide +kernel
theorem tX1_setFree_121 : mbk MX1_setFree 121 (.goto (-119)) 2 = true := by decide +kernel
theorem tX1_setFree_124 : mrk MX1_setFree 124 .return_ = true := by decide +kernel
def bX1_catcherActs_0 : List mB := [(.aload_n 0, mI 0), (.getfield 11, mR 1 0), (.iload_n 1, mI 0), (.iaload, mI 0), (.istore_n 2, mI 0), (.iload_n 2, mI 0), (.bipush 7, mI (nI 7))]
theorem kX1_catcherActs_0 : mchk MX1_catcherActs 0 bX1_catcherActs_0 10 = true := by decide +kernel
theorem tX1_catcherActs_10 : mbk MX1_catcherActs 10 (.if_icmp .ne 13) 23 = true := by decide +kernel
def bX1_catcherActs_13 : List mB := [(.aload_n 0, mI 0), (.getfield 46, mR 1 8), (.iconst 3, mI (nI 3)), (.irem, mI 0)]
theorem kX1_catcherActs_13 : mchk MX1_catcherActs 13 bX1_catcherActs_13 19 = true := by decide +kernel
theorem tX1_catcherActs_19 : mbk MX1_catcherActs 19 (.ifCond .ne 4) 23 = true := by decide +kernel
theorem tX1_catcherActs_22 : mrk MX1_catcherActs 22 .return_ = true := by decide +kernel
def bX1_catcherActs_23 : List mB := [(.aload_n 0, mI 0), (.iload_n 1, mI 0), (.aload_n 0, mI 0)]
theorem kX1_catcherActs_23 : mchk MX1_catcherActs 23 bX1_catcherActs_23 26 = true := by decide +kernel
theorem tX1_catcherActs_26 : mdk MX1_catcherActs 26 (.invokevirtual 145) = true := by decide +kernel
def bX1_catcherActs_29 : List mB := [(.aload_n 0, mI 0)]
theorem kX1_catcherActs_29 : mchk MX1_catcherActs 29 bX1_catcherActs_29 30 = true := by decide +kernel
theorem tX1_catcherActs_30 : mdk MX1_catcherActs 30 (.invokevirtual 148) = true := by decide +kernel
def bX1_catcherActs_33 : List mB := [(.iconst (-1), mI (-1)), (.ixor, mI 0), (.iand, mI 0)]
theorem kX1_catcherActs_33 : mchk MX1_catcherActs 33 bX1_catcherActs_33 36 = true := by decide +kernel
theorem tX1_catcherActs_36 : mdk MX1_catcherActs 36 (.invokevirtual 96) = true := by decide +kernel
def bX1_catcherActs_39 : List mB := [(.istore_n 3, mI 0), (.iload_n 3, mI 0), (.iconst (-1), mI (-1))]
theorem kX1_catcherActs_39 : mchk MX1_catcherActs 39 bX1_catcherActs_39 42 = true := by decide +kernel
theorem tX1_catcherActs_42 : mbk MX1_catcherActs 42 (.if_icmp .eq 18) 60 = true := by decide +kernel
def bX1_catcherActs_45 : List mB := [(.aload_n 0, mI 0), (.dup, mI 0), (.getfield 40, mR 1 6), (.iconst 1, mI (nI 1)), (.iload_n 3, mI 0), (.ishl, mI 0), (.ior, mI 0), (.putfield 40, mR 1 6)]
theorem kX1_catcherActs_45 : mchk MX1_catcherActs 45 bX1_catcherActs_45 57 = true := by decide +kernel
theorem tX1_catcherActs_57 : mbk MX1_catcherActs 57 (.goto 66) 123 = true := by decide +kernel
def bX1_catcherActs_60 : List mB := [(.iload_n 2, mI 0), (.bipush 6, mI (nI 6))]
theorem kX1_catcherActs_60 : mchk MX1_catcherActs 60 bX1_catcherActs_60 63 = true := by decide +kernel
theorem tX1_catcherActs_63 : mbk MX1_catcherActs 63 (.if_icmp .ne 11) 74 = true := by decide +kernel
def bX1_catcherActs_66 : List mB := [(.aload_n 0, mI 0), (.getfield 40, mR 1 6)]
theorem kX1_catcherActs_66 : mchk MX1_catcherActs 66 bX1_catcherActs_66 70 = true := by decide +kernel
theorem tX1_catcherActs_70 : mbk MX1_catcherActs 70 (.ifCond .eq 4) 74 = true := by decide +kernel
theorem tX1_catcherActs_73 : mrk MX1_catcherActs 73 .return_ = true := by decide +kernel
def bX1_catcherActs_74 : List mB := [(.iload_n 2, mI 0), (.iconst 5, mI (nI 5))]
theorem kX1_catcherActs_74 : mchk MX1_catcherActs 74 bX1_catcherActs_74 76 = true := by decide +kernel
theorem tX1_catcherActs_76 : mbk MX1_catcherActs 76 (.if_icmp .ne 18) 94 = true := by decide +kernel
def bX1_catcherActs_79 : List mB := [(.aload_n 0, mI 0), (.getfield 40, mR 1 6)]
theorem kX1_catcherActs_79 : mchk MX1_catcherActs 79 bX1_catcherActs_79 83 = true := by decide +kernel
theorem tX1_catcherActs_83 : mbk MX1_catcherActs 83 (.ifCond .eq 11) 94 = true := by decide +kernel
def bX1_catcherActs_86 : List mB := [(.aload_n 0, mI 0), (.iload_n 1, mI 0)]
theorem kX1_catcherActs_86 : mchk MX1_catcherActs 86 bX1_catcherActs_86 88 = true := by decide +kernel
theorem tX1_catcherActs_88 : mdk MX1_catcherActs 88 (.invokevirtual 151) = true := by decide +kernel
theorem tX1_catcherActs_91 : mbk MX1_catcherActs 91 (.goto 32) 123 = true := by decide +kernel
def bX1_catcherActs_94 : List mB := [(.aload_n 0, mI 0), (.iload_n 1, mI 0), (.aload_n 0, mI 0)]
theorem kX1_catcherActs_94 : mchk MX1_catcherActs 94 bX1_catcherActs_94 97 = true := by decide +kernel
theorem tX1_catcherActs_97 : mdk MX1_catcherActs 97 (.invokevirtual 145) = true := by decide +kernel
theorem tX1_catcherActs_100 : mdk MX1_catcherActs 100 (.invokevirtual 139) = true := by decide +kernel
def bX1_catcherActs_103 : List mB := [(.istore 4, mI 0), (.iload 4, mI 0), (.iconst (-1), mI (-1))]
theorem kX1_catcherActs_103 : mchk MX1_catcherActs 103 bX1_catcherActs_103 108 = true := by decide +kernel
theorem tX1_catcherActs_108 : mbk MX1_catcherActs 108 (.if_icmp .eq 15) 123 = true := by decide +kernel
def bX1_catcherActs_111 : List mB := [(.aload_n 0, mI 0), (.iload_n 1, mI 0), (.aload_n 0, mI 0), (.getfield 15, mR 1 1), (.iload 4, mI 0), (.iaload, mI 0)]
theorem kX1_catcherActs_111 : mchk MX1_catcherActs 111 bX1_catcherActs_111 120 = true := by decide +kernel
theorem tX1_catcherActs_120 : mdk MX1_catcherActs 120 (.invokevirtual 142) = true := by decide +kernel
theorem tX1_catcherActs_123 : mrk MX1_catcherActs 123 .return_ = true := by decide +kernel
def bX1_guards_0 : List mB := [(.aload_n 0, mI 0), (.iload_n 1, mI 0), (.aload_n 0, mI 0), (.getfield 40, mR 1 6)]
theorem kX1_guards_0 : mchk MX1_guards 0 bX1_guards_0 6 = true := by decide +kernel
theorem tX1_guards_6 : mdk MX1_guards 6 (.invokevirtual 139) = true := by decide +kernel
def bX1_guards_9 : List mB := [(.istore_n 2, mI 0), (.iload_n 2, mI 0), (.iconst (-1), mI (-1))]
theorem kX1_guards_9 : mchk MX1_guards 9 bX1_guards_9 12 = true := by decide +kernel
theorem tX1_guards_12 : mbk MX1_guards 12 (.if_icmp .eq 33) 45 = true := by decide +kernel
def bX1_guards_15 : List mB := [(.aload_n 0, mI 0), (.getfield 15, mR 1 1), (.iload_n 1, mI 0), (.iaload, mI 0), (.aload_n 0, mI 0), (.getfield 15, mR 1 1), (.iload_n 2, mI 0), (.iaload, mI 0)]
theorem kX1_guards_15 : mchk MX1_guards 15 bX1_guards_15 27 = true := by decide +kernel
theorem tX1_guards_27 : mdk MX1_guards 27 (.invokestatic 100) = true := by decide +kernel
def bX1_guards_30 : List mB := [(.iconst 1, mI (nI 1))]
theorem kX1_guards_30 : mchk MX1_guards 30 bX1_guards_30 31 = true := by decide +kernel
theorem tX1_guards_31 : mbk MX1_guards 31 (.if_icmp .le 14) 45 = true := by decide +kernel
def bX1_guards_34 : List mB := [(.aload_n 0, mI 0), (.iload_n 1, mI 0), (.aload_n 0, mI 0), (.getfield 15, mR 1 1), (.iload_n 2, mI 0), (.iaload, mI 0)]
theorem kX1_guards_34 : mchk MX1_guards 34 bX1_guards_34 42 = true := by decide +kernel
theorem tX1_guards_42 : mdk MX1_guards 42 (.invokevirtual 142) = true := by decide +kernel
theorem tX1_guards_45 : mrk MX1_guards 45 .return_ = true := by decide +kernel
def bX1_letRun_0 : List mB := [(.aload_n 0, mI 0), (.dup, mI 0), (.getfield 40, mR 1 6), (.iconst 1, mI (nI 1)), (.iload_n 1, mI 0), (.ishl, mI 0), (.iconst (-1), mI (-1)), (.ixor, mI 0), (.iand, mI 0), (.putfield 40, mR 1 6)]
theorem kX1_letRun_0 : mchk MX1_letRun 0 bX1_letRun_0 14 = true := by decide +kernel
theorem tX1_letRun_14 : mrk MX1_letRun 14 .return_ = true := by decide +kernel
def bX1_leastBeside_0 : List mB := [(.iconst 0, mI (nI 0)), (.istore_n 3, mI 0)]
theorem kX1_leastBeside_0 : mchk MX1_leastBeside 0 bX1_leastBeside_0 2 = true := by decide +kernel
def bX1_leastBeside_2 : List mB := [(.iload_n 3, mI 0), (.aload_n 0, mI 0), (.getfield 37, mR 1 5)]
theorem kX1_leastBeside_2 : mchk MX1_leastBeside 2 bX1_leastBeside_2 7 = true := by decide +kernel
theorem tX1_leastBeside_7 : mbk MX1_leastBeside 7 (.if_icmp .ge 39) 46 = true := by decide +kernel
def bX1_leastBeside_10 : List mB := [(.iload_n 2, mI 0), (.iload_n 3, mI 0), (.ishr, mI 0), (.iconst 1, mI (nI 1)), (.iand, mI 0), (.iconst 1, mI (nI 1))]
theorem kX1_leastBeside_10 : mchk MX1_leastBeside 10 bX1_leastBeside_10 16 = true := by decide +kernel
theorem tX1_leastBeside_16 : mbk MX1_leastBeside 16 (.if_icmp .ne 24) 40 = true := by decide +kernel
def bX1_leastBeside_19 : List mB := [(.aload_n 0, mI 0), (.getfield 15, mR 1 1), (.iload_n 1, mI 0), (.iaload, mI 0), (.aload_n 0, mI 0), (.getfield 15, mR 1 1), (.iload_n 3, mI 0), (.iaload, mI 0)]
theorem kX1_leastBeside_19 : mchk MX1_leastBeside 19 bX1_leastBeside_19 31 = true := by decide +kernel
theorem tX1_leastBeside_31 : mdk MX1_leastBeside 31 (.invokestatic 100) = true := by decide +kernel
def bX1_leastBeside_34 : List mB := [(.iconst 1, mI (nI 1))]
theorem kX1_leastBeside_34 : mchk MX1_leastBeside 34 bX1_leastBeside_34 35 = true := by decide +kernel
theorem tX1_leastBeside_35 : mbk MX1_leastBeside 35 (.if_icmp .gt 5) 40 = true := by decide +kernel
def bX1_leastBeside_38 : List mB := [(.iload_n 3, mI 0)]
theorem kX1_leastBeside_38 : mchk MX1_leastBeside 38 bX1_leastBeside_38 39 = true := by decide +kernel
theorem tX1_leastBeside_39 : mrk MX1_leastBeside 39 .ireturn = true := by decide +kernel
def bX1_leastBeside_40 : List mB := [(.iinc 3 1, mI (nI 1))]
theorem kX1_leastBeside_40 : mchk MX1_leastBeside 40 bX1_leastBeside_40 43 = true := by decide +kernel
theorem tX1_leastBeside_43 : mbk MX1_leastBeside 43 (.goto (-41)) 2 = true := by decide +kernel
def bX1_leastBeside_46 : List mB := [(.iconst (-1), mI (-1))]
theorem kX1_leastBeside_46 : mchk MX1_leastBeside 46 bX1_leastBeside_46 47 = true := by decide +kernel
theorem tX1_leastBeside_47 : mrk MX1_leastBeside 47 .ireturn = true := by decide +kernel
def bX1_nearest_0 : List mB := [(.iconst (-1), mI (-1)), (.istore_n 3, mI 0), (.bipush 99, mI (nI 99)), (.istore 4, mI 0), (.iconst 0, mI (nI 0)), (.istore 5, mI 0)]
theorem kX1_nearest_0 : mchk MX1_nearest 0 bX1_nearest_0 9 = true := by decide +kernel
def bX1_nearest_9 : List mB := [(.iload 5, mI 0), (.aload_n 0, mI 0), (.getfield 37, mR 1 5)]
theorem kX1_nearest_9 : mchk MX1_nearest 9 bX1_nearest_9 15 = true := by decide +kernel
theorem tX1_nearest_15 : mbk MX1_nearest 15 (.if_icmp .ge 51) 66 = true := by decide +kernel
def bX1_nearest_18 : List mB := [(.aload_n 0, mI 0), (.getfield 15, mR 1 1), (.iload_n 1, mI 0), (.iaload, mI 0), (.aload_n 0, mI 0), (.getfield 15, mR 1 1), (.iload 5, mI 0), (.iaload, mI 0)]
theorem kX1_nearest_18 : mchk MX1_nearest 18 bX1_nearest_18 31 = true := by decide +kernel
theorem tX1_nearest_31 : mdk MX1_nearest 31 (.invokestatic 100) = true := by decide +kernel
def bX1_nearest_34 : List mB := [(.istore 6, mI 0), (.iload_n 2, mI 0), (.iload 5, mI 0), (.ishr, mI 0), (.iconst 1, mI (nI 1)), (.iand, mI 0), (.iconst 1, mI (nI 1))]
theorem kX1_nearest_34 : mchk MX1_nearest 34 bX1_nearest_34 43 = true := by decide +kernel
theorem tX1_nearest_43 : mbk MX1_nearest 43 (.if_icmp .ne 17) 60 = true := by decide +kernel
def bX1_nearest_46 : List mB := [(.iload 6, mI 0), (.iload 4, mI 0)]
theorem kX1_nearest_46 : mchk MX1_nearest 46 bX1_nearest_46 50 = true := by decide +kernel
theorem tX1_nearest_50 : mbk MX1_nearest 50 (.if_icmp .ge 10) 60 = true := by decide +kernel
def bX1_nearest_53 : List mB := [(.iload 6, mI 0), (.istore 4, mI 0), (.iload 5, mI 0), (.istore_n 3, mI 0)]
theorem kX1_nearest_53 : mchk MX1_nearest 53 bX1_nearest_53 60 = true := by decide +kernel
def bX1_nearest_60 : List mB := [(.iinc 5 1, mI (nI 1))]
theorem kX1_nearest_60 : mchk MX1_nearest 60 bX1_nearest_60 63 = true := by decide +kernel
theorem tX1_nearest_63 : mbk MX1_nearest 63 (.goto (-54)) 9 = true := by decide +kernel
def bX1_nearest_66 : List mB := [(.iload_n 3, mI 0)]
theorem kX1_nearest_66 : mchk MX1_nearest 66 bX1_nearest_66 67 = true := by decide +kernel
theorem tX1_nearest_67 : mrk MX1_nearest 67 .ireturn = true := by decide +kernel
def bX1_playerBits_0 : List mB := [(.iconst 0, mI (nI 0)), (.istore_n 1, mI 0), (.iconst 0, mI (nI 0)), (.istore_n 2, mI 0)]
theorem kX1_playerBits_0 : mchk MX1_playerBits 0 bX1_playerBits_0 4 = true := by decide +kernel
def bX1_playerBits_4 : List mB := [(.iload_n 2, mI 0), (.aload_n 0, mI 0), (.getfield 37, mR 1 5)]
theorem kX1_playerBits_4 : mchk MX1_playerBits 4 bX1_playerBits_4 9 = true := by decide +kernel
theorem tX1_playerBits_9 : mbk MX1_playerBits 9 (.if_icmp .ge 25) 34 = true := by decide +kernel
def bX1_playerBits_12 : List mB := [(.aload_n 0, mI 0), (.getfield 11, mR 1 0), (.iload_n 2, mI 0), (.iaload, mI 0), (.iconst 4, mI (nI 4))]
theorem kX1_playerBits_12 : mchk MX1_playerBits 12 bX1_playerBits_12 19 = true := by decide +kernel
theorem tX1_playerBits_19 : mbk MX1_playerBits 19 (.if_icmp .ge 9) 28 = true := by decide +kernel
def bX1_playerBits_22 : List mB := [(.iload_n 1, mI 0), (.iconst 1, mI (nI 1)), (.iload_n 2, mI 0), (.ishl, mI 0), (.ior, mI 0), (.istore_n 1, mI 0)]
theorem kX1_playerBits_22 : mchk MX1_playerBits 22 bX1_playerBits_22 28 = true := by decide +kernel
def bX1_playerBits_28 : List mB := [(.iinc 2 1, mI (nI 1))]
theorem kX1_playerBits_28 : mchk MX1_playerBits 28 bX1_playerBits_28 31 = true := by decide +kernel
theorem tX1_playerBits_31 : mbk MX1_playerBits 31 (.goto (-27)) 4 = true := by decide +kernel
def bX1_playerBits_34 : List mB := [(.iload_n 1, mI 0)]
theorem kX1_playerBits_34 : mchk MX1_playerBits 34 bX1_playerBits_34 35 = true := by decide +kernel
theorem tX1_playerBits_35 : mrk MX1_playerBits 35 .ireturn = true := by decide +kernel
def bX1_runningBits_0 : List mB := [(.aload_n 0, mI 0)]
theorem kX1_runningBits_0 : mchk MX1_runningBits 0 bX1_runningBits_0 1 = true := by decide +kernel
theorem tX1_runningBits_1 : mdk MX1_runningBits 1 (.invokevirtual 62) = true := by decide +kernel
def bX1_runningBits_4 : List mB := [(.aload_n 0, mI 0), (.getfield 40, mR 1 6), (.iconst (-1), mI (-1)), (.ixor, mI 0), (.iand, mI 0)]
theorem kX1_runningBits_4 : mchk MX1_runningBits 4 bX1_runningBits_4 11 = true := by decide +kernel
theorem tX1_runningBits_11 : mrk MX1_runningBits 11 .ireturn = true := by decide +kernel
def bX1_safeBits_0 : List mB := [(.iconst 0, mI (nI 0)), (.istore_n 1, mI 0), (.iconst 0, mI (nI 0)), (.istore_n 2, mI 0)]
theorem kX1_safeBits_0 : mchk MX1_safeBits 0 bX1_safeBits_0 4 = true := by decide +kernel
def bX1_safeBits_4 : List mB := [(.iload_n 2, mI 0), (.aload_n 0, mI 0), (.getfield 37, mR 1 5)]
theorem kX1_safeBits_4 : mchk MX1_safeBits 4 bX1_safeBits_4 9 = true := by decide +kernel
theorem tX1_safeBits_9 : mbk MX1_safeBits 9 (.if_icmp .ge 43) 52 = true := by decide +kernel
def bX1_safeBits_12 : List mB := [(.iload_n 2, mI 0), (.aload_n 0, mI 0), (.getfield 27, mR 1 10)]
theorem kX1_safeBits_12 : mchk MX1_safeBits 12 bX1_safeBits_12 17 = true := by decide +kernel
theorem tX1_safeBits_17 : mbk MX1_safeBits 17 (.if_icmp .eq 23) 40 = true := by decide +kernel
def bX1_safeBits_20 : List mB := [(.aload_n 0, mI 0), (.getfield 43, mR 1 7), (.iconst 1, mI (nI 1))]
theorem kX1_safeBits_20 : mchk MX1_safeBits 20 bX1_safeBits_20 25 = true := by decide +kernel
theorem tX1_safeBits_25 : mbk MX1_safeBits 25 (.if_icmp .ne 21) 46 = true := by decide +kernel
def bX1_safeBits_28 : List mB := [(.aload_n 0, mI 0), (.getfield 15, mR 1 1), (.iload_n 2, mI 0), (.iaload, mI 0)]
theorem kX1_safeBits_28 : mchk MX1_safeBits 28 bX1_safeBits_28 34 = true := by decide +kernel
theorem tX1_safeBits_34 : mdk MX1_safeBits 34 (.invokestatic 124) = true := by decide +kernel
theorem tX1_safeBits_37 : mbk MX1_safeBits 37 (.ifCond .eq 9) 46 = true := by decide +kernel
def bX1_safeBits_40 : List mB := [(.iload_n 1, mI 0), (.iconst 1, mI (nI 1)), (.iload_n 2, mI 0), (.ishl, mI 0), (.ior, mI 0), (.istore_n 1, mI 0)]
theorem kX1_safeBits_40 : mchk MX1_safeBits 40 bX1_safeBits_40 46 = true := by decide +kernel
def bX1_safeBits_46 : List mB := [(.iinc 2 1, mI (nI 1))]
theorem kX1_safeBits_46 : mchk MX1_safeBits 46 bX1_safeBits_46 49 = true := by decide +kernel
theorem tX1_safeBits_49 : mbk MX1_safeBits 49 (.goto (-45)) 4 = true := by decide +kernel
def bX1_safeBits_52 : List mB := [(.iload_n 1, mI 0)]
theorem kX1_safeBits_52 : mchk MX1_safeBits 52 bX1_safeBits_52 53 = true := by decide +kernel
theorem tX1_safeBits_53 : mrk MX1_safeBits 53 .ireturn = true := by decide +kernel
def bX1_freeableBits_0 : List mB := [(.aload_n 0, mI 0), (.getfield 11, mR 1 0), (.iload_n 1, mI 0), (.iaload, mI 0), (.iconst 1, mI (nI 1))]
theorem kX1_freeableBits_0 : mchk MX1_freeableBits 0 bX1_freeableBits_0 7 = true := by decide +kernel
theorem tX1_freeableBits_7 : mbk MX1_freeableBits 7 (.if_icmp .ne 5) 12 = true := by decide +kernel
def bX1_freeableBits_10 : List mB := [(.iconst (-1), mI (-1))]
theorem kX1_freeableBits_10 : mchk MX1_freeableBits 10 bX1_freeableBits_10 11 = true := by decide +kernel
theorem tX1_freeableBits_11 : mrk MX1_freeableBits 11 .ireturn = true := by decide +kernel
def bX1_freeableBits_12 : List mB := [(.aload_n 0, mI 0), (.getfield 11, mR 1 0), (.iload_n 1, mI 0), (.iaload, mI 0), (.iconst 2, mI (nI 2))]
theorem kX1_freeableBits_12 : mchk MX1_freeableBits 12 bX1_freeableBits_12 19 = true := by decide +kernel
theorem tX1_freeableBits_19 : mbk MX1_freeableBits 19 (.if_icmp .ne 14) 33 = true := by decide +kernel
def bX1_freeableBits_22 : List mB := [(.iconst 1, mI (nI 1)), (.aload_n 0, mI 0), (.getfield 18, mR 1 2), (.iload_n 1, mI 0), (.iaload, mI 0), (.ishl, mI 0)]
theorem kX1_freeableBits_22 : mchk MX1_freeableBits 22 bX1_freeableBits_22 30 = true := by decide +kernel
theorem tX1_freeableBits_30 : mbk MX1_freeableBits 30 (.goto 4) 34 = true := by decide +kernel
def bX1_freeableBits_33 : List mB := [(.iconst 0, mI (nI 0))]
theorem kX1_freeableBits_33 : mchk MX1_freeableBits 33 bX1_freeableBits_33 34 = true := by decide +kernel
theorem tX1_freeableBits_34 : mrk MX1_freeableBits 34 .ireturn = true := by decide +kernel
def bX1_isEdge_0 : List mB := [(.iload_n 0, mI 0), (.bipush 6, mI (nI 6)), (.idiv, mI 0), (.istore_n 1, mI 0), (.iload_n 0, mI 0), (.bipush 6, mI (nI 6)), (.irem, mI 0), (.istore_n 2, mI 0), (.iload_n 1, mI 0)]
theorem kX1_isEdge_0 : mchk MX1_isEdge 0 bX1_isEdge_0 11 = true := by decide +kernel
theorem tX1_isEdge_11 : mbk MX1_isEdge 11 (.ifCond .eq 17) 28 = true := by decide +kernel
def bX1_isEdge_14 : List mB := [(.iload_n 1, mI 0), (.iconst 3, mI (nI 3))]
theorem kX1_isEdge_14 : mchk MX1_isEdge 14 bX1_isEdge_14 16 = true := by decide +kernel
theorem tX1_isEdge_16 : mbk MX1_isEdge 16 (.if_icmp .eq 12) 28 = true := by decide +kernel
def bX1_isEdge_19 : List mB := [(.iload_n 2, mI 0)]
theorem kX1_isEdge_19 : mchk MX1_isEdge 19 bX1_isEdge_19 20 = true := by decide +kernel
theorem tX1_isEdge_20 : mbk MX1_isEdge 20 (.ifCond .eq 8) 28 = true := by decide +kernel
def bX1_isEdge_23 : List mB := [(.iload_n 2, mI 0), (.iconst 5, mI (nI 5))]
theorem kX1_isEdge_23 : mchk MX1_isEdge 23 bX1_isEdge_23 25 = true := by decide +kernel
theorem tX1_isEdge_25 : mbk MX1_isEdge 25 (.if_icmp .ne 7) 32 = true := by decide +kernel
def bX1_isEdge_28 : List mB := [(.iconst 1, mI (nI 1))]
theorem kX1_isEdge_28 : mchk MX1_isEdge 28 bX1_isEdge_28 29 = true := by decide +kernel
theorem tX1_isEdge_29 : mbk MX1_isEdge 29 (.goto 4) 33 = true := by decide +kernel
def bX1_isEdge_32 : List mB := [(.iconst 0, mI (nI 0))]
theorem kX1_isEdge_32 : mchk MX1_isEdge 32 bX1_isEdge_32 33 = true := by decide +kernel
theorem tX1_isEdge_33 : mrk MX1_isEdge 33 .ireturn = true := by decide +kernel
def bX1_stepAway_0 : List mB := [(.aload_n 0, mI 0), (.getfield 15, mR 1 1), (.iload_n 1, mI 0), (.iaload, mI 0), (.istore_n 2, mI 0), (.iconst (-1), mI (-1)), (.istore_n 3, mI 0), (.iconst 0, mI (nI 0)), (.istore 4, mI 0)]
theorem kX1_stepAway_0 : mchk MX1_stepAway 0 bX1_stepAway_0 12 = true := by decide +kernel
def bX1_stepAway_12 : List mB := [(.iload 4, mI 0), (.iconst 5, mI (nI 5))]
theorem kX1_stepAway_12 : mchk MX1_stepAway 12 bX1_stepAway_12 15 = true := by decide +kernel
theorem tX1_stepAway_15 : mbk MX1_stepAway 15 (.if_icmp .ge 48) 63 = true := by decide +kernel
def bX1_stepAway_18 : List mB := [(.aload_n 0, mI 0), (.getfield 15, mR 1 1), (.iload_n 1, mI 0), (.iaload, mI 0), (.iload 4, mI 0)]
theorem kX1_stepAway_18 : mchk MX1_stepAway 18 bX1_stepAway_18 26 = true := by decide +kernel
theorem tX1_stepAway_26 : mdk MX1_stepAway 26 (.invokestatic 154) = true := by decide +kernel
def bX1_stepAway_29 : List mB := [(.istore 5, mI 0), (.iload 5, mI 0), (.iconst (-1), mI (-1))]
theorem kX1_stepAway_29 : mchk MX1_stepAway 29 bX1_stepAway_29 34 = true := by decide +kernel
theorem tX1_stepAway_34 : mbk MX1_stepAway 34 (.if_icmp .eq 23) 57 = true := by decide +kernel
def bX1_stepAway_37 : List mB := [(.aload_n 0, mI 0), (.iload 5, mI 0)]
theorem kX1_stepAway_37 : mchk MX1_stepAway 37 bX1_stepAway_37 40 = true := by decide +kernel
theorem tX1_stepAway_40 : mdk MX1_stepAway 40 (.invokevirtual 127) = true := by decide +kernel
def bX1_stepAway_43 : List mB := [(.iload_n 3, mI 0)]
theorem kX1_stepAway_43 : mchk MX1_stepAway 43 bX1_stepAway_43 44 = true := by decide +kernel
theorem tX1_stepAway_44 : mbk MX1_stepAway 44 (.if_icmp .le 13) 57 = true := by decide +kernel
def bX1_stepAway_47 : List mB := [(.aload_n 0, mI 0), (.iload 5, mI 0)]
theorem kX1_stepAway_47 : mchk MX1_stepAway 47 bX1_stepAway_47 50 = true := by decide +kernel
theorem tX1_stepAway_50 : mdk MX1_stepAway 50 (.invokevirtual 127) = true := by decide +kernel
def bX1_stepAway_53 : List mB := [(.istore_n 3, mI 0), (.iload 5, mI 0), (.istore_n 2, mI 0)]
theorem kX1_stepAway_53 : mchk MX1_stepAway 53 bX1_stepAway_53 57 = true := by decide +kernel
def bX1_stepAway_57 : List mB := [(.iinc 4 1, mI (nI 1))]
theorem kX1_stepAway_57 : mchk MX1_stepAway 57 bX1_stepAway_57 60 = true := by decide +kernel
theorem tX1_stepAway_60 : mbk MX1_stepAway 60 (.goto (-48)) 12 = true := by decide +kernel
def bX1_stepAway_63 : List mB := [(.aload_n 0, mI 0), (.getfield 15, mR 1 1), (.iload_n 1, mI 0), (.iload_n 2, mI 0), (.iastore, mI 0)]
theorem kX1_stepAway_63 : mchk MX1_stepAway 63 bX1_stepAway_63 70 = true := by decide +kernel
theorem tX1_stepAway_70 : mrk MX1_stepAway 70 .return_ = true := by decide +kernel
def bX1_stepToward_0 : List mB := [(.aload_n 0, mI 0), (.getfield 15, mR 1 1), (.iload_n 1, mI 0), (.iaload, mI 0), (.istore_n 3, mI 0), (.bipush 99, mI (nI 99)), (.istore 4, mI 0), (.iconst 0, mI (nI 0)), (.istore 5, mI 0)]
theorem kX1_stepToward_0 : mchk MX1_stepToward 0 bX1_stepToward_0 14 = true := by decide +kernel
def bX1_stepToward_14 : List mB := [(.iload 5, mI 0), (.iconst 5, mI (nI 5))]
theorem kX1_stepToward_14 : mchk MX1_stepToward 14 bX1_stepToward_14 17 = true := by decide +kernel
theorem tX1_stepToward_17 : mbk MX1_stepToward 17 (.if_icmp .ge 50) 67 = true := by decide +kernel
def bX1_stepToward_20 : List mB := [(.aload_n 0, mI 0), (.getfield 15, mR 1 1), (.iload_n 1, mI 0), (.iaload, mI 0), (.iload 5, mI 0)]
theorem kX1_stepToward_20 : mchk MX1_stepToward 20 bX1_stepToward_20 28 = true := by decide +kernel
theorem tX1_stepToward_28 : mdk MX1_stepToward 28 (.invokestatic 154) = true := by decide +kernel
def bX1_stepToward_31 : List mB := [(.istore 6, mI 0), (.iload 6, mI 0), (.iconst (-1), mI (-1))]
theorem kX1_stepToward_31 : mchk MX1_stepToward 31 bX1_stepToward_31 36 = true := by decide +kernel
theorem tX1_stepToward_36 : mbk MX1_stepToward 36 (.if_icmp .eq 25) 61 = true := by decide +kernel
def bX1_stepToward_39 : List mB := [(.iload 6, mI 0), (.iload_n 2, mI 0)]
theorem kX1_stepToward_39 : mchk MX1_stepToward 39 bX1_stepToward_39 42 = true := by decide +kernel
theorem tX1_stepToward_42 : mdk MX1_stepToward 42 (.invokestatic 100) = true := by decide +kernel
def bX1_stepToward_45 : List mB := [(.iload 4, mI 0)]
theorem kX1_stepToward_45 : mchk MX1_stepToward 45 bX1_stepToward_45 47 = true := by decide +kernel
theorem tX1_stepToward_47 : mbk MX1_stepToward 47 (.if_icmp .ge 14) 61 = true := by decide +kernel
def bX1_stepToward_50 : List mB := [(.iload 6, mI 0), (.iload_n 2, mI 0)]
theorem kX1_stepToward_50 : mchk MX1_stepToward 50 bX1_stepToward_50 53 = true := by decide +kernel
theorem tX1_stepToward_53 : mdk MX1_stepToward 53 (.invokestatic 100) = true := by decide +kernel
def bX1_stepToward_56 : List mB := [(.istore 4, mI 0), (.iload 6, mI 0), (.istore_n 3, mI 0)]
theorem kX1_stepToward_56 : mchk MX1_stepToward 56 bX1_stepToward_56 61 = true := by decide +kernel
def bX1_stepToward_61 : List mB := [(.iinc 5 1, mI (nI 1))]
theorem kX1_stepToward_61 : mchk MX1_stepToward 61 bX1_stepToward_61 64 = true := by decide +kernel
theorem tX1_stepToward_64 : mbk MX1_stepToward 64 (.goto (-50)) 14 = true := by decide +kernel
def bX1_stepToward_67 : List mB := [(.aload_n 0, mI 0), (.getfield 15, mR 1 1), (.iload_n 1, mI 0), (.iload_n 3, mI 0), (.iastore, mI 0)]
theorem kX1_stepToward_67 : mchk MX1_stepToward 67 bX1_stepToward_67 74 = true := by decide +kernel
theorem tX1_stepToward_74 : mrk MX1_stepToward 74 .return_ = true := by decide +kernel
def bX1_cellBehind_0 : List mB := [(.iload_n 0, mI 0), (.bipush 6, mI (nI 6)), (.idiv, mI 0), (.istore_n 2, mI 0), (.iload_n 0, mI 0), (.bipush 6, mI (nI 6)), (.irem, mI 0), (.istore_n 3, mI 0), (.iload_n 1, mI 0)]
theorem kX1_cellBehind_0 : mchk MX1_cellBehind 0 bX1_cellBehind_0 11 = true := by decide +kernel
def sX1_cellBehind_11 : Instr := .tableswitch 87 0 4 #[33, 35, 48, 62, 74]
theorem tX1_cellBehind_11 : mswk MX1_cellBehind 11 sX1_cellBehind_11 33 = true := by decide +kernel
def bX1_cellBehind_44 : List mB := [(.iload_n 0, mI 0)]
theorem kX1_cellBehind_44 : mchk MX1_cellBehind 44 bX1_cellBehind_44 45 = true := by decide +kernel
theorem tX1_cellBehind_45 : mrk MX1_cellBehind 45 .ireturn = true := by decide +kernel
def bX1_cellBehind_46 : List mB := [(.iload_n 2, mI 0)]
theorem kX1_cellBehind_46 : mchk MX1_cellBehind 46 bX1_cellBehind_46 47 = true := by decide +kernel
theorem tX1_cellBehind_47 : mbk MX1_cellBehind 47 (.ifCond .le 10) 57 = true := by decide +kernel
def bX1_cellBehind_50 : List mB := [(.iload_n 0, mI 0), (.bipush 6, mI (nI 6)), (.isub, mI 0)]
theorem kX1_cellBehind_50 : mchk MX1_cellBehind 50 bX1_cellBehind_50 54 = true := by decide +kernel
theorem tX1_cellBehind_54 : mbk MX1_cellBehind 54 (.goto 4) 58 = true := by decide +kernel
def bX1_cellBehind_57 : List mB := [(.iconst (-1), mI (-1))]
theorem kX1_cellBehind_57 : mchk MX1_cellBehind 57 bX1_cellBehind_57 58 = true := by decide +kernel
theorem tX1_cellBehind_58 : mrk MX1_cellBehind 58 .ireturn = true := by decide +kernel
def bX1_cellBehind_59 : List mB := [(.iload_n 2, mI 0), (.iconst 3, mI (nI 3))]
theorem kX1_cellBehind_59 : mchk MX1_cellBehind 59 bX1_cellBehind_59 61 = true := by decide +kernel
theorem tX1_cellBehind_61 : mbk MX1_cellBehind 61 (.if_icmp .ge 10) 71 = true := by decide +kernel
def bX1_cellBehind_64 : List mB := [(.iload_n 0, mI 0), (.bipush 6, mI (nI 6)), (.iadd, mI 0)]
theorem kX1_cellBehind_64 : mchk MX1_cellBehind 64 bX1_cellBehind_64 68 = true := by decide +kernel
theorem tX1_cellBehind_68 : mbk MX1_cellBehind 68 (.goto 4) 72 = true := by decide +kernel
def bX1_cellBehind_71 : List mB := [(.iconst (-1), mI (-1))]
theorem kX1_cellBehind_71 : mchk MX1_cellBehind 71 bX1_cellBehind_71 72 = true := by decide +kernel
theorem tX1_cellBehind_72 : mrk MX1_cellBehind 72 .ireturn = true := by decide +kernel
def bX1_cellBehind_73 : List mB := [(.iload_n 3, mI 0)]
theorem kX1_cellBehind_73 : mchk MX1_cellBehind 73 bX1_cellBehind_73 74 = true := by decide +kernel
theorem tX1_cellBehind_74 : mbk MX1_cellBehind 74 (.ifCond .le 9) 83 = true := by decide +kernel
def bX1_cellBehind_77 : List mB := [(.iload_n 0, mI 0), (.iconst 1, mI (nI 1)), (.isub, mI 0)]
theorem kX1_cellBehind_77 : mchk MX1_cellBehind 77 bX1_cellBehind_77 80 = true := by decide +kernel
theorem tX1_cellBehind_80 : mbk MX1_cellBehind 80 (.goto 4) 84 = true := by decide +kernel
def bX1_cellBehind_83 : List mB := [(.iconst (-1), mI (-1))]
theorem kX1_cellBehind_83 : mchk MX1_cellBehind 83 bX1_cellBehind_83 84 = true := by decide +kernel
theorem tX1_cellBehind_84 : mrk MX1_cellBehind 84 .ireturn = true := by decide +kernel
def bX1_cellBehind_85 : List mB := [(.iload_n 3, mI 0), (.iconst 5, mI (nI 5))]
theorem kX1_cellBehind_85 : mchk MX1_cellBehind 85 bX1_cellBehind_85 87 = true := by decide +kernel
theorem tX1_cellBehind_87 : mbk MX1_cellBehind 87 (.if_icmp .ge 9) 96 = true := by decide +kernel
def bX1_cellBehind_90 : List mB := [(.iload_n 0, mI 0), (.iconst 1, mI (nI 1)), (.iadd, mI 0)]
theorem kX1_cellBehind_90 : mchk MX1_cellBehind 90 bX1_cellBehind_90 93 = true := by decide +kernel
theorem tX1_cellBehind_93 : mbk MX1_cellBehind 93 (.goto 4) 97 = true := by decide +kernel
def bX1_cellBehind_96 : List mB := [(.iconst (-1), mI (-1))]
theorem kX1_cellBehind_96 : mchk MX1_cellBehind 96 bX1_cellBehind_96 97 = true := by decide +kernel
theorem tX1_cellBehind_97 : mrk MX1_cellBehind 97 .ireturn = true := by decide +kernel
def bX1_cellBehind_98 : List mB := [(.iconst (-1), mI (-1))]
theorem kX1_cellBehind_98 : mchk MX1_cellBehind 98 bX1_cellBehind_98 99 = true := by decide +kernel
theorem tX1_cellBehind_99 : mrk MX1_cellBehind 99 .ireturn = true := by decide +kernel

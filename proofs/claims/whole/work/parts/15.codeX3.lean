def bX3_no_0 : List mB := [(.aload_n 0, mI 0), (.getfield 7, mR 3 0), (.iload_n 1, mI 0), (.ineg, mI 0), (.dup2, mI 0), (.iaload, mI 0), (.iconst 1, mI (nI 1)), (.iadd, mI 0), (.iastore, mI 0), (.iload_n 1, mI 0)]
theorem kX3_no_0 : mchk MX3_no 0 bX3_no_0 12 = true := by decide +kernel
theorem tX3_no_12 : mrk MX3_no 12 .ireturn = true := by decide +kernel
def bX3_lower_0 : List mB := [(.aload_n 0, mI 0), (.getfield 7, mR 3 0), (.iload_n 1, mI 0), (.ineg, mI 0), (.dup2, mI 0), (.iaload, mI 0), (.iconst 1, mI (nI 1)), (.iadd, mI 0), (.iastore, mI 0), (.ldc 53, mI (nI 1000000000)), (.iload_n 1, mI 0), (.isub, mI 0)]
theorem kX3_lower_0 : mchk MX3_lower 0 bX3_lower_0 15 = true := by decide +kernel
theorem tX3_lower_15 : mrk MX3_lower 15 .ireturn = true := by decide +kernel
def bX3_lowest_0 : List mB := [(.aload_n 0, mI 0), (.getfield 7, mR 3 0), (.iload_n 1, mI 0), (.ineg, mI 0), (.dup2, mI 0), (.iaload, mI 0), (.iconst 1, mI (nI 1)), (.iadd, mI 0), (.iastore, mI 0), (.ldc2_w 54, mJ (lN 4000000000000000000)), (.iload_n 1, mI 0), (.i2l, mI 0), (.lsub, mI 0)]
theorem kX3_lowest_0 : mchk MX3_lowest 0 bX3_lowest_0 17 = true := by decide +kernel
theorem tX3_lowest_17 : mrk MX3_lowest 17 .lreturn = true := by decide +kernel
def bX3_isIn_0 : List mB := [(.iload_n 0, mI 0), (.iload_n 1, mI 0)]
theorem kX3_isIn_0 : mchk MX3_isIn 0 bX3_isIn_0 2 = true := by decide +kernel
theorem tX3_isIn_2 : mbk MX3_isIn 2 (.if_icmp .lt 12) 14 = true := by decide +kernel
def bX3_isIn_5 : List mB := [(.iload_n 0, mI 0), (.iload_n 2, mI 0)]
theorem kX3_isIn_5 : mchk MX3_isIn 5 bX3_isIn_5 7 = true := by decide +kernel
theorem tX3_isIn_7 : mbk MX3_isIn 7 (.if_icmp .gt 7) 14 = true := by decide +kernel
def bX3_isIn_10 : List mB := [(.iconst 1, mI (nI 1))]
theorem kX3_isIn_10 : mchk MX3_isIn 10 bX3_isIn_10 11 = true := by decide +kernel
theorem tX3_isIn_11 : mbk MX3_isIn 11 (.goto 4) 15 = true := by decide +kernel
def bX3_isIn_14 : List mB := [(.iconst 0, mI (nI 0))]
theorem kX3_isIn_14 : mchk MX3_isIn 14 bX3_isIn_14 15 = true := by decide +kernel
theorem tX3_isIn_15 : mrk MX3_isIn 15 .ireturn = true := by decide +kernel
def bX3_bound_0 : List mB := [(.iload_n 0, mI 0), (.iload_n 1, mI 0)]
theorem kX3_bound_0 : mchk MX3_bound 0 bX3_bound_0 2 = true := by decide +kernel
theorem tX3_bound_2 : mbk MX3_bound 2 (.if_icmp .ge 8) 10 = true := by decide +kernel
def bX3_bound_5 : List mB := [(.bipush (-4), mI (-4))]
theorem kX3_bound_5 : mchk MX3_bound 5 bX3_bound_5 7 = true := by decide +kernel
theorem tX3_bound_7 : mbk MX3_bound 7 (.goto 14) 21 = true := by decide +kernel
def bX3_bound_10 : List mB := [(.iload_n 0, mI 0), (.iload_n 2, mI 0)]
theorem kX3_bound_10 : mchk MX3_bound 10 bX3_bound_10 12 = true := by decide +kernel
theorem tX3_bound_12 : mbk MX3_bound 12 (.if_icmp .le 8) 20 = true := by decide +kernel
def bX3_bound_15 : List mB := [(.bipush (-6), mI (-6))]
theorem kX3_bound_15 : mchk MX3_bound 15 bX3_bound_15 17 = true := by decide +kernel
theorem tX3_bound_17 : mbk MX3_bound 17 (.goto 4) 21 = true := by decide +kernel
def bX3_bound_20 : List mB := [(.iconst 0, mI (nI 0))]
theorem kX3_bound_20 : mchk MX3_bound 20 bX3_bound_20 21 = true := by decide +kernel
theorem tX3_bound_21 : mrk MX3_bound 21 .ireturn = true := by decide +kernel
def bX3_bits_0 : List mB := [(.iconst 0, mI (nI 0)), (.istore_n 1, mI 0), (.iconst 0, mI (nI 0)), (.istore_n 2, mI 0)]
theorem kX3_bits_0 : mchk MX3_bits 0 bX3_bits_0 4 = true := by decide +kernel
def bX3_bits_4 : List mB := [(.iload_n 2, mI 0), (.bipush 31, mI (nI 31))]
theorem kX3_bits_4 : mchk MX3_bits 4 bX3_bits_4 7 = true := by decide +kernel
theorem tX3_bits_7 : mbk MX3_bits 7 (.if_icmp .ge 17) 24 = true := by decide +kernel
def bX3_bits_10 : List mB := [(.iload_n 1, mI 0), (.iload_n 0, mI 0), (.iload_n 2, mI 0), (.ishr, mI 0), (.iconst 1, mI (nI 1)), (.iand, mI 0), (.iadd, mI 0), (.istore_n 1, mI 0), (.iinc 2 1, mI (nI 1))]
theorem kX3_bits_10 : mchk MX3_bits 10 bX3_bits_10 21 = true := by decide +kernel
theorem tX3_bits_21 : mbk MX3_bits 21 (.goto (-17)) 4 = true := by decide +kernel
def bX3_bits_24 : List mB := [(.iload_n 1, mI 0)]
theorem kX3_bits_24 : mchk MX3_bits 24 bX3_bits_24 25 = true := by decide +kernel
theorem tX3_bits_25 : mrk MX3_bits 25 .ireturn = true := by decide +kernel
def bX3_apart_0 : List mB := [(.iload_n 0, mI 0), (.iload_n 1, mI 0)]
theorem kX3_apart_0 : mchk MX3_apart 0 bX3_apart_0 2 = true := by decide +kernel
theorem tX3_apart_2 : mbk MX3_apart 2 (.if_icmp .ge 9) 11 = true := by decide +kernel
def bX3_apart_5 : List mB := [(.iload_n 1, mI 0), (.iload_n 0, mI 0), (.isub, mI 0)]
theorem kX3_apart_5 : mchk MX3_apart 5 bX3_apart_5 8 = true := by decide +kernel
theorem tX3_apart_8 : mbk MX3_apart 8 (.goto 6) 14 = true := by decide +kernel
def bX3_apart_11 : List mB := [(.iload_n 0, mI 0), (.iload_n 1, mI 0), (.isub, mI 0)]
theorem kX3_apart_11 : mchk MX3_apart 11 bX3_apart_11 14 = true := by decide +kernel
theorem tX3_apart_14 : mrk MX3_apart 14 .ireturn = true := by decide +kernel
def bX3_isCell_0 : List mB := [(.iload_n 0, mI 0)]
theorem kX3_isCell_0 : mchk MX3_isCell 0 bX3_isCell_0 1 = true := by decide +kernel
theorem tX3_isCell_1 : mbk MX3_isCell 1 (.ifCond .lt 13) 14 = true := by decide +kernel
def bX3_isCell_4 : List mB := [(.iload_n 0, mI 0), (.bipush 24, mI (nI 24))]
theorem kX3_isCell_4 : mchk MX3_isCell 4 bX3_isCell_4 7 = true := by decide +kernel
theorem tX3_isCell_7 : mbk MX3_isCell 7 (.if_icmp .ge 7) 14 = true := by decide +kernel
def bX3_isCell_10 : List mB := [(.iconst 1, mI (nI 1))]
theorem kX3_isCell_10 : mchk MX3_isCell 10 bX3_isCell_10 11 = true := by decide +kernel
theorem tX3_isCell_11 : mbk MX3_isCell 11 (.goto 4) 15 = true := by decide +kernel
def bX3_isCell_14 : List mB := [(.iconst 0, mI (nI 0))]
theorem kX3_isCell_14 : mchk MX3_isCell 14 bX3_isCell_14 15 = true := by decide +kernel
theorem tX3_isCell_15 : mrk MX3_isCell 15 .ireturn = true := by decide +kernel
def bX3_farOf_0 : List mB := [(.iload_n 0, mI 0), (.bipush 6, mI (nI 6)), (.idiv, mI 0), (.iload_n 1, mI 0), (.bipush 6, mI (nI 6)), (.idiv, mI 0)]
theorem kX3_farOf_0 : mchk MX3_farOf 0 bX3_farOf_0 8 = true := by decide +kernel
theorem tX3_farOf_8 : mdk MX3_farOf 8 (.invokestatic 56) = true := by decide +kernel
def bX3_farOf_11 : List mB := [(.iload_n 0, mI 0), (.bipush 6, mI (nI 6)), (.irem, mI 0), (.iload_n 1, mI 0), (.bipush 6, mI (nI 6)), (.irem, mI 0)]
theorem kX3_farOf_11 : mchk MX3_farOf 11 bX3_farOf_11 19 = true := by decide +kernel
theorem tX3_farOf_19 : mdk MX3_farOf 19 (.invokestatic 56) = true := by decide +kernel
def bX3_farOf_22 : List mB := [(.iadd, mI 0)]
theorem kX3_farOf_22 : mchk MX3_farOf 22 bX3_farOf_22 23 = true := by decide +kernel
theorem tX3_farOf_23 : mrk MX3_farOf 23 .ireturn = true := by decide +kernel
def bX3_isEdge_0 : List mB := [(.iload_n 0, mI 0), (.bipush 6, mI (nI 6)), (.idiv, mI 0)]
theorem kX3_isEdge_0 : mchk MX3_isEdge 0 bX3_isEdge_0 4 = true := by decide +kernel
theorem tX3_isEdge_4 : mbk MX3_isEdge 4 (.ifCond .eq 26) 30 = true := by decide +kernel
def bX3_isEdge_7 : List mB := [(.iload_n 0, mI 0), (.bipush 6, mI (nI 6)), (.idiv, mI 0), (.iconst 3, mI (nI 3))]
theorem kX3_isEdge_7 : mchk MX3_isEdge 7 bX3_isEdge_7 12 = true := by decide +kernel
theorem tX3_isEdge_12 : mbk MX3_isEdge 12 (.if_icmp .eq 18) 30 = true := by decide +kernel
def bX3_isEdge_15 : List mB := [(.iload_n 0, mI 0), (.bipush 6, mI (nI 6)), (.irem, mI 0)]
theorem kX3_isEdge_15 : mchk MX3_isEdge 15 bX3_isEdge_15 19 = true := by decide +kernel
theorem tX3_isEdge_19 : mbk MX3_isEdge 19 (.ifCond .eq 11) 30 = true := by decide +kernel
def bX3_isEdge_22 : List mB := [(.iload_n 0, mI 0), (.bipush 6, mI (nI 6)), (.irem, mI 0), (.iconst 5, mI (nI 5))]
theorem kX3_isEdge_22 : mchk MX3_isEdge 22 bX3_isEdge_22 27 = true := by decide +kernel
theorem tX3_isEdge_27 : mbk MX3_isEdge 27 (.if_icmp .ne 7) 34 = true := by decide +kernel
def bX3_isEdge_30 : List mB := [(.iconst 1, mI (nI 1))]
theorem kX3_isEdge_30 : mchk MX3_isEdge 30 bX3_isEdge_30 31 = true := by decide +kernel
theorem tX3_isEdge_31 : mbk MX3_isEdge 31 (.goto 4) 35 = true := by decide +kernel
def bX3_isEdge_34 : List mB := [(.iconst 0, mI (nI 0))]
theorem kX3_isEdge_34 : mchk MX3_isEdge 34 bX3_isEdge_34 35 = true := by decide +kernel
theorem tX3_isEdge_35 : mrk MX3_isEdge 35 .ireturn = true := by decide +kernel
def bX3_isChild_0 : List mB := [(.iload_n 1, mI 0)]
theorem kX3_isChild_0 : mchk MX3_isChild 0 bX3_isChild_0 1 = true := by decide +kernel
theorem tX3_isChild_1 : mbk MX3_isChild 1 (.ifCond .lt 15) 16 = true := by decide +kernel
def bX3_isChild_4 : List mB := [(.iload_n 1, mI 0), (.aload_n 0, mI 0), (.getfield 60, mR 3 7)]
theorem kX3_isChild_4 : mchk MX3_isChild 4 bX3_isChild_4 9 = true := by decide +kernel
theorem tX3_isChild_9 : mbk MX3_isChild 9 (.if_icmp .ge 7) 16 = true := by decide +kernel
def bX3_isChild_12 : List mB := [(.iconst 1, mI (nI 1))]
theorem kX3_isChild_12 : mchk MX3_isChild 12 bX3_isChild_12 13 = true := by decide +kernel
theorem tX3_isChild_13 : mbk MX3_isChild 13 (.goto 4) 17 = true := by decide +kernel
def bX3_isChild_16 : List mB := [(.iconst 0, mI (nI 0))]
theorem kX3_isChild_16 : mchk MX3_isChild 16 bX3_isChild_16 17 = true := by decide +kernel
theorem tX3_isChild_17 : mrk MX3_isChild 17 .ireturn = true := by decide +kernel
def bX3_isCatcher_0 : List mB := [(.aload_n 0, mI 0), (.getfield 13, mR 3 1), (.iload_n 1, mI 0), (.iaload, mI 0), (.iconst 4, mI (nI 4))]
theorem kX3_isCatcher_0 : mchk MX3_isCatcher 0 bX3_isCatcher_0 7 = true := by decide +kernel
theorem tX3_isCatcher_7 : mbk MX3_isCatcher 7 (.if_icmp .lt 7) 14 = true := by decide +kernel
def bX3_isCatcher_10 : List mB := [(.iconst 1, mI (nI 1))]
theorem kX3_isCatcher_10 : mchk MX3_isCatcher 10 bX3_isCatcher_10 11 = true := by decide +kernel
theorem tX3_isCatcher_11 : mbk MX3_isCatcher 11 (.goto 4) 15 = true := by decide +kernel
def bX3_isCatcher_14 : List mB := [(.iconst 0, mI (nI 0))]
theorem kX3_isCatcher_14 : mchk MX3_isCatcher 14 bX3_isCatcher_14 15 = true := by decide +kernel
theorem tX3_isCatcher_15 : mrk MX3_isCatcher 15 .ireturn = true := by decide +kernel
def bX3_letter_0 : List mB := [(.iload_n 1, mI 0), (.iconst 0, mI (nI 0)), (.sipush 255, mI (nI 255))]
theorem kX3_letter_0 : mchk MX3_letter 0 bX3_letter_0 5 = true := by decide +kernel
theorem tX3_letter_5 : mdk MX3_letter 5 (.invokestatic 63) = true := by decide +kernel
def bX3_letter_8 : List mB := [(.istore_n 2, mI 0), (.iload_n 2, mI 0)]
theorem kX3_letter_8 : mchk MX3_letter 8 bX3_letter_8 10 = true := by decide +kernel
theorem tX3_letter_10 : mbk MX3_letter 10 (.ifCond .ne 15) 25 = true := by decide +kernel
def bX3_letter_13 : List mB := [(.aload_n 0, mI 0), (.getfield 67, mR 3 14), (.bipush 96, mI (nI 96))]
theorem kX3_letter_13 : mchk MX3_letter 13 bX3_letter_13 19 = true := by decide +kernel
theorem tX3_letter_19 : mbk MX3_letter 19 (.if_icmp .ne 6) 25 = true := by decide +kernel
def bX3_letter_22 : List mB := [(.bipush (-6), mI (-6)), (.istore_n 2, mI 0)]
theorem kX3_letter_22 : mchk MX3_letter 22 bX3_letter_22 25 = true := by decide +kernel
def bX3_letter_25 : List mB := [(.iload_n 2, mI 0)]
theorem kX3_letter_25 : mchk MX3_letter 25 bX3_letter_25 26 = true := by decide +kernel
theorem tX3_letter_26 : mbk MX3_letter 26 (.ifCond .eq 9) 35 = true := by decide +kernel
def bX3_letter_29 : List mB := [(.aload_n 0, mI 0), (.iload_n 2, mI 0)]
theorem kX3_letter_29 : mchk MX3_letter 29 bX3_letter_29 31 = true := by decide +kernel
theorem tX3_letter_31 : mdk MX3_letter 31 (.invokevirtual 70) = true := by decide +kernel
theorem tX3_letter_34 : mrk MX3_letter 34 .ireturn = true := by decide +kernel
def bX3_letter_35 : List mB := [(.aload_n 0, mI 0), (.getfield 31, mR 3 10), (.aload_n 0, mI 0), (.getfield 67, mR 3 14), (.iload_n 1, mI 0), (.iastore, mI 0), (.aload_n 0, mI 0), (.dup, mI 0), (.getfield 67, mR 3 14), (.iconst 1, mI (nI 1)), (.iadd, mI 0), (.putfield 67, mR 3 14), (.aload_n 0, mI 0), (.getfield 67, mR 3 14)]
theorem kX3_letter_35 : mchk MX3_letter 35 bX3_letter_35 59 = true := by decide +kernel
theorem tX3_letter_59 : mrk MX3_letter 59 .ireturn = true := by decide +kernel
def bX3_next_0 : List mB := [(.aload_n 0, mI 0), (.getfield 74, mR 3 15), (.aload_n 0, mI 0), (.getfield 67, mR 3 14)]
theorem kX3_next_0 : mchk MX3_next 0 bX3_next_0 8 = true := by decide +kernel
theorem tX3_next_8 : mbk MX3_next 8 (.if_icmp .ge 15) 23 = true := by decide +kernel
def bX3_next_11 : List mB := [(.aload_n 0, mI 0), (.getfield 31, mR 3 10), (.aload_n 0, mI 0), (.getfield 74, mR 3 15), (.iaload, mI 0)]
theorem kX3_next_11 : mchk MX3_next 11 bX3_next_11 20 = true := by decide +kernel
theorem tX3_next_20 : mbk MX3_next 20 (.goto 4) 24 = true := by decide +kernel
def bX3_next_23 : List mB := [(.iconst (-1), mI (-1))]
theorem kX3_next_23 : mchk MX3_next 23 bX3_next_23 24 = true := by decide +kernel
theorem tX3_next_24 : mrk MX3_next 24 .ireturn = true := by decide +kernel
def bX3_readsDigits_0 : List mB := [(.iconst 0, mI (nI 0)), (.istore_n 3, mI 0), (.iconst 0, mI (nI 0)), (.istore 4, mI 0)]
theorem kX3_readsDigits_0 : mchk MX3_readsDigits 0 bX3_readsDigits_0 5 = true := by decide +kernel
def bX3_readsDigits_5 : List mB := [(.iload 4, mI 0), (.iload_n 2, mI 0)]
theorem kX3_readsDigits_5 : mchk MX3_readsDigits 5 bX3_readsDigits_5 8 = true := by decide +kernel
theorem tX3_readsDigits_8 : mbk MX3_readsDigits 8 (.if_icmp .ge 48) 56 = true := by decide +kernel
def bX3_readsDigits_11 : List mB := [(.aload_n 0, mI 0)]
theorem kX3_readsDigits_11 : mchk MX3_readsDigits 11 bX3_readsDigits_11 12 = true := by decide +kernel
theorem tX3_readsDigits_12 : mdk MX3_readsDigits 12 (.invokevirtual 77) = true := by decide +kernel
def bX3_readsDigits_15 : List mB := [(.bipush 48, mI (nI 48)), (.bipush 57, mI (nI 57))]
theorem kX3_readsDigits_15 : mchk MX3_readsDigits 15 bX3_readsDigits_15 19 = true := by decide +kernel
theorem tX3_readsDigits_19 : mdk MX3_readsDigits 19 (.invokestatic 81) = true := by decide +kernel
theorem tX3_readsDigits_22 : mbk MX3_readsDigits 22 (.ifCond .ne 5) 27 = true := by decide +kernel
def bX3_readsDigits_25 : List mB := [(.iconst 0, mI (nI 0))]
theorem kX3_readsDigits_25 : mchk MX3_readsDigits 25 bX3_readsDigits_25 26 = true := by decide +kernel
theorem tX3_readsDigits_26 : mrk MX3_readsDigits 26 .ireturn = true := by decide +kernel
def bX3_readsDigits_27 : List mB := [(.bipush 10, mI (nI 10)), (.iload_n 3, mI 0), (.imul, mI 0), (.aload_n 0, mI 0)]
theorem kX3_readsDigits_27 : mchk MX3_readsDigits 27 bX3_readsDigits_27 32 = true := by decide +kernel
theorem tX3_readsDigits_32 : mdk MX3_readsDigits 32 (.invokevirtual 77) = true := by decide +kernel
def bX3_readsDigits_35 : List mB := [(.iadd, mI 0), (.bipush 48, mI (nI 48)), (.isub, mI 0), (.istore_n 3, mI 0), (.aload_n 0, mI 0), (.dup, mI 0), (.getfield 74, mR 3 15), (.iconst 1, mI (nI 1)), (.iadd, mI 0), (.putfield 74, mR 3 15), (.iinc 4 1, mI (nI 1))]
theorem kX3_readsDigits_35 : mchk MX3_readsDigits 35 bX3_readsDigits_35 53 = true := by decide +kernel
theorem tX3_readsDigits_53 : mbk MX3_readsDigits 53 (.goto (-48)) 5 = true := by decide +kernel
def bX3_readsDigits_56 : List mB := [(.aload_n 0, mI 0), (.getfield 40, mR 3 13), (.iload_n 1, mI 0), (.iload_n 3, mI 0), (.iastore, mI 0), (.iconst 1, mI (nI 1))]
theorem kX3_readsDigits_56 : mchk MX3_readsDigits 56 bX3_readsDigits_56 64 = true := by decide +kernel
theorem tX3_readsDigits_64 : mrk MX3_readsDigits 64 .ireturn = true := by decide +kernel
def bX3_kindOf_0 : List mB := [(.iload_n 0, mI 0)]
theorem kX3_kindOf_0 : mchk MX3_kindOf 0 bX3_kindOf_0 1 = true := by decide +kernel
def sX3_kindOf_1 : Instr := .tableswitch 121 98 119 #[118, 111, 121, 121, 105, 113, 109, 121, 121, 121, 121, 121, 121, 121, 107, 121, 103, 121, 121, 121, 121, 115]
theorem tX3_kindOf_1 : mswk MX3_kindOf 1 sX3_kindOf_1 103 = true := by decide +kernel
def bX3_kindOf_104 : List mB := [(.iconst 0, mI (nI 0))]
theorem kX3_kindOf_104 : mchk MX3_kindOf 104 bX3_kindOf_104 105 = true := by decide +kernel
theorem tX3_kindOf_105 : mrk MX3_kindOf 105 .ireturn = true := by decide +kernel
def bX3_kindOf_106 : List mB := [(.iconst 1, mI (nI 1))]
theorem kX3_kindOf_106 : mchk MX3_kindOf 106 bX3_kindOf_106 107 = true := by decide +kernel
theorem tX3_kindOf_107 : mrk MX3_kindOf 107 .ireturn = true := by decide +kernel
def bX3_kindOf_108 : List mB := [(.iconst 2, mI (nI 2))]
theorem kX3_kindOf_108 : mchk MX3_kindOf 108 bX3_kindOf_108 109 = true := by decide +kernel
theorem tX3_kindOf_109 : mrk MX3_kindOf 109 .ireturn = true := by decide +kernel
def bX3_kindOf_110 : List mB := [(.iconst 3, mI (nI 3))]
theorem kX3_kindOf_110 : mchk MX3_kindOf 110 bX3_kindOf_110 111 = true := by decide +kernel
theorem tX3_kindOf_111 : mrk MX3_kindOf 111 .ireturn = true := by decide +kernel
def bX3_kindOf_112 : List mB := [(.iconst 4, mI (nI 4))]
theorem kX3_kindOf_112 : mchk MX3_kindOf 112 bX3_kindOf_112 113 = true := by decide +kernel
theorem tX3_kindOf_113 : mrk MX3_kindOf 113 .ireturn = true := by decide +kernel
def bX3_kindOf_114 : List mB := [(.iconst 5, mI (nI 5))]
theorem kX3_kindOf_114 : mchk MX3_kindOf 114 bX3_kindOf_114 115 = true := by decide +kernel
theorem tX3_kindOf_115 : mrk MX3_kindOf 115 .ireturn = true := by decide +kernel
def bX3_kindOf_116 : List mB := [(.bipush 6, mI (nI 6))]
theorem kX3_kindOf_116 : mchk MX3_kindOf 116 bX3_kindOf_116 118 = true := by decide +kernel
theorem tX3_kindOf_118 : mrk MX3_kindOf 118 .ireturn = true := by decide +kernel
def bX3_kindOf_119 : List mB := [(.bipush 7, mI (nI 7))]
theorem kX3_kindOf_119 : mchk MX3_kindOf 119 bX3_kindOf_119 121 = true := by decide +kernel
theorem tX3_kindOf_121 : mrk MX3_kindOf 121 .ireturn = true := by decide +kernel
def bX3_kindOf_122 : List mB := [(.iconst (-1), mI (-1))]
theorem kX3_kindOf_122 : mchk MX3_kindOf 122 bX3_kindOf_122 123 = true := by decide +kernel
theorem tX3_kindOf_123 : mrk MX3_kindOf 123 .ireturn = true := by decide +kernel
def bX3_readsChild_0 : List mB := [(.aload_n 0, mI 0), (.getfield 40, mR 3 13), (.iload_n 1, mI 0), (.aload_n 0, mI 0)]
theorem kX3_readsChild_0 : mchk MX3_readsChild 0 bX3_readsChild_0 6 = true := by decide +kernel
theorem tX3_readsChild_6 : mdk MX3_readsChild 6 (.invokevirtual 77) = true := by decide +kernel
theorem tX3_readsChild_9 : mdk MX3_readsChild 9 (.invokestatic 85) = true := by decide +kernel
def bX3_readsChild_12 : List mB := [(.iastore, mI 0), (.aload_n 0, mI 0), (.getfield 40, mR 3 13), (.iload_n 1, mI 0), (.iaload, mI 0)]
theorem kX3_readsChild_12 : mchk MX3_readsChild 12 bX3_readsChild_12 19 = true := by decide +kernel
theorem tX3_readsChild_19 : mbk MX3_readsChild 19 (.ifCond .ge 5) 24 = true := by decide +kernel
def bX3_readsChild_22 : List mB := [(.iconst 0, mI (nI 0))]
theorem kX3_readsChild_22 : mchk MX3_readsChild 22 bX3_readsChild_22 23 = true := by decide +kernel
theorem tX3_readsChild_23 : mrk MX3_readsChild 23 .ireturn = true := by decide +kernel
def bX3_readsChild_24 : List mB := [(.aload_n 0, mI 0), (.dup, mI 0), (.getfield 74, mR 3 15), (.iconst 1, mI (nI 1)), (.iadd, mI 0), (.putfield 74, mR 3 15), (.aload_n 0, mI 0), (.iload_n 1, mI 0), (.iconst 1, mI (nI 1)), (.iadd, mI 0), (.iconst 2, mI (nI 2))]
theorem kX3_readsChild_24 : mchk MX3_readsChild 24 bX3_readsChild_24 39 = true := by decide +kernel
theorem tX3_readsChild_39 : mdk MX3_readsChild 39 (.invokevirtual 88) = true := by decide +kernel
theorem tX3_readsChild_42 : mbk MX3_readsChild 42 (.ifCond .eq 18) 60 = true := by decide +kernel
def bX3_readsChild_45 : List mB := [(.aload_n 0, mI 0), (.iload_n 1, mI 0), (.iconst 2, mI (nI 2)), (.iadd, mI 0), (.iconst 1, mI (nI 1))]
theorem kX3_readsChild_45 : mchk MX3_readsChild 45 bX3_readsChild_45 50 = true := by decide +kernel
theorem tX3_readsChild_50 : mdk MX3_readsChild 50 (.invokevirtual 88) = true := by decide +kernel
theorem tX3_readsChild_53 : mbk MX3_readsChild 53 (.ifCond .eq 7) 60 = true := by decide +kernel
def bX3_readsChild_56 : List mB := [(.iconst 1, mI (nI 1))]
theorem kX3_readsChild_56 : mchk MX3_readsChild 56 bX3_readsChild_56 57 = true := by decide +kernel
theorem tX3_readsChild_57 : mbk MX3_readsChild 57 (.goto 4) 61 = true := by decide +kernel
def bX3_readsChild_60 : List mB := [(.iconst 0, mI (nI 0))]
theorem kX3_readsChild_60 : mchk MX3_readsChild 60 bX3_readsChild_60 61 = true := by decide +kernel
theorem tX3_readsChild_61 : mrk MX3_readsChild 61 .ireturn = true := by decide +kernel
def bX3_statement_0 : List mB := [(.aload_n 0, mI 0)]
theorem kX3_statement_0 : mchk MX3_statement 0 bX3_statement_0 1 = true := by decide +kernel
theorem tX3_statement_1 : mdk MX3_statement 1 (.invokevirtual 77) = true := by decide +kernel
def bX3_statement_4 : List mB := [(.istore_n 1, mI 0), (.iload_n 1, mI 0), (.bipush 107, mI (nI 107))]
theorem kX3_statement_4 : mchk MX3_statement 4 bX3_statement_4 8 = true := by decide +kernel
theorem tX3_statement_8 : mbk MX3_statement 8 (.if_icmp .eq 23) 31 = true := by decide +kernel
def bX3_statement_11 : List mB := [(.iload_n 1, mI 0), (.bipush 116, mI (nI 116))]
theorem kX3_statement_11 : mchk MX3_statement 11 bX3_statement_11 14 = true := by decide +kernel
theorem tX3_statement_14 : mbk MX3_statement 14 (.if_icmp .eq 17) 31 = true := by decide +kernel
def bX3_statement_17 : List mB := [(.iload_n 1, mI 0), (.bipush 108, mI (nI 108))]
theorem kX3_statement_17 : mchk MX3_statement 17 bX3_statement_17 20 = true := by decide +kernel
theorem tX3_statement_20 : mbk MX3_statement 20 (.if_icmp .eq 11) 31 = true := by decide +kernel
def bX3_statement_23 : List mB := [(.iload_n 1, mI 0), (.bipush 103, mI (nI 103))]
theorem kX3_statement_23 : mchk MX3_statement 23 bX3_statement_23 26 = true := by decide +kernel
theorem tX3_statement_26 : mbk MX3_statement 26 (.if_icmp .eq 5) 31 = true := by decide +kernel
def bX3_statement_29 : List mB := [(.iconst 0, mI (nI 0))]
theorem kX3_statement_29 : mchk MX3_statement 29 bX3_statement_29 30 = true := by decide +kernel
theorem tX3_statement_30 : mrk MX3_statement 30 .ireturn = true := by decide +kernel
def bX3_statement_31 : List mB := [(.aload_n 0, mI 0), (.getfield 34, mR 3 11), (.aload_n 0, mI 0), (.getfield 92, mR 3 16), (.iload_n 1, mI 0), (.iastore, mI 0), (.aload_n 0, mI 0), (.getfield 37, mR 3 12), (.aload_n 0, mI 0), (.getfield 92, mR 3 16), (.aload_n 0, mI 0), (.getfield 74, mR 3 15), (.iastore, mI 0), (.aload_n 0, mI 0), (.dup, mI 0), (.getfield 74, mR 3 15), (.iconst 1, mI (nI 1)), (.iadd, mI 0), (.putfield 74, mR 3 15), (.iconst 3, mI (nI 3)), (.aload_n 0, mI 0), (.getfield 92, mR 3 16), (.imul, mI 0), (.istore_n 2, mI 0), (.iload_n 1, mI 0), (.bipush 107, mI (nI 107))]
theorem kX3_statement_31 : mchk MX3_statement 31 bX3_statement_31 74 = true := by decide +kernel
theorem tX3_statement_74 : mbk MX3_statement 74 (.if_icmp .ne 11) 85 = true := by decide +kernel
def bX3_statement_77 : List mB := [(.aload_n 0, mI 0), (.iload_n 2, mI 0)]
theorem kX3_statement_77 : mchk MX3_statement 77 bX3_statement_77 79 = true := by decide +kernel
theorem tX3_statement_79 : mdk MX3_statement 79 (.invokevirtual 95) = true := by decide +kernel
theorem tX3_statement_82 : mbk MX3_statement 82 (.goto 34) 116 = true := by decide +kernel
def bX3_statement_85 : List mB := [(.aload_n 0, mI 0), (.iload_n 2, mI 0), (.iconst 1, mI (nI 1))]
theorem kX3_statement_85 : mchk MX3_statement 85 bX3_statement_85 88 = true := by decide +kernel
theorem tX3_statement_88 : mdk MX3_statement 88 (.invokevirtual 88) = true := by decide +kernel
theorem tX3_statement_91 : mbk MX3_statement 91 (.ifCond .eq 24) 115 = true := by decide +kernel
def bX3_statement_94 : List mB := [(.iload_n 1, mI 0), (.bipush 103, mI (nI 103))]
theorem kX3_statement_94 : mchk MX3_statement 94 bX3_statement_94 97 = true := by decide +kernel
theorem tX3_statement_97 : mbk MX3_statement 97 (.if_icmp .ne 14) 111 = true := by decide +kernel
def bX3_statement_100 : List mB := [(.aload_n 0, mI 0), (.iload_n 2, mI 0), (.iconst 1, mI (nI 1)), (.iadd, mI 0), (.iconst 2, mI (nI 2))]
theorem kX3_statement_100 : mchk MX3_statement 100 bX3_statement_100 105 = true := by decide +kernel
theorem tX3_statement_105 : mdk MX3_statement 105 (.invokevirtual 88) = true := by decide +kernel
theorem tX3_statement_108 : mbk MX3_statement 108 (.ifCond .eq 7) 115 = true := by decide +kernel
def bX3_statement_111 : List mB := [(.iconst 1, mI (nI 1))]
theorem kX3_statement_111 : mchk MX3_statement 111 bX3_statement_111 112 = true := by decide +kernel
theorem tX3_statement_112 : mbk MX3_statement 112 (.goto 4) 116 = true := by decide +kernel
def bX3_statement_115 : List mB := [(.iconst 0, mI (nI 0))]
theorem kX3_statement_115 : mchk MX3_statement 115 bX3_statement_115 116 = true := by decide +kernel
def bX3_statement_116 : List mB := [(.istore_n 3, mI 0), (.iload_n 3, mI 0)]
theorem kX3_statement_116 : mchk MX3_statement 116 bX3_statement_116 118 = true := by decide +kernel
theorem tX3_statement_118 : mbk MX3_statement 118 (.ifCond .eq 12) 130 = true := by decide +kernel
def bX3_statement_121 : List mB := [(.aload_n 0, mI 0)]
theorem kX3_statement_121 : mchk MX3_statement 121 bX3_statement_121 122 = true := by decide +kernel
theorem tX3_statement_122 : mdk MX3_statement 122 (.invokevirtual 77) = true := by decide +kernel
def bX3_statement_125 : List mB := [(.bipush 59, mI (nI 59))]
theorem kX3_statement_125 : mchk MX3_statement 125 bX3_statement_125 127 = true := by decide +kernel
theorem tX3_statement_127 : mbk MX3_statement 127 (.if_icmp .eq 5) 132 = true := by decide +kernel
def bX3_statement_130 : List mB := [(.iconst 0, mI (nI 0))]
theorem kX3_statement_130 : mchk MX3_statement 130 bX3_statement_130 131 = true := by decide +kernel
theorem tX3_statement_131 : mrk MX3_statement 131 .ireturn = true := by decide +kernel
def bX3_statement_132 : List mB := [(.aload_n 0, mI 0), (.dup, mI 0), (.getfield 74, mR 3 15), (.iconst 1, mI (nI 1)), (.iadd, mI 0), (.putfield 74, mR 3 15), (.iconst 1, mI (nI 1))]
theorem kX3_statement_132 : mchk MX3_statement 132 bX3_statement_132 143 = true := by decide +kernel
theorem tX3_statement_143 : mrk MX3_statement 143 .ireturn = true := by decide +kernel
def bX3_comesChild_0 : List mB := [(.aload_n 0, mI 0), (.getfield 13, mR 3 1), (.aload_n 0, mI 0), (.getfield 60, mR 3 7), (.iload_n 1, mI 0), (.iastore, mI 0), (.aload_n 0, mI 0), (.getfield 16, mR 3 2), (.aload_n 0, mI 0), (.getfield 60, mR 3 7), (.iload_n 2, mI 0), (.iastore, mI 0), (.aload_n 0, mI 0), (.getfield 19, mR 3 3), (.aload_n 0, mI 0), (.getfield 60, mR 3 7), (.iload_n 3, mI 0), (.iastore, mI 0), (.aload_n 0, mI 0), (.getfield 22, mR 3 4), (.aload_n 0, mI 0), (.getfield 60, mR 3 7), (.iconst 0, mI (nI 0)), (.iastore, mI 0), (.aload_n 0, mI 0), (.getfield 25, mR 3 5), (.aload_n 0, mI 0), (.getfield 60, mR 3 7), (.iconst 0, mI (nI 0)), (.iastore, mI 0), (.iconst 0, mI (nI 0)), (.istore 4, mI 0)]
theorem kX3_comesChild_0 : mchk MX3_comesChild 0 bX3_comesChild_0 53 = true := by decide +kernel
def bX3_comesChild_53 : List mB := [(.iload 4, mI 0), (.bipush 8, mI (nI 8))]
theorem kX3_comesChild_53 : mchk MX3_comesChild 53 bX3_comesChild_53 57 = true := by decide +kernel
theorem tX3_comesChild_57 : mbk MX3_comesChild 57 (.if_icmp .ge 41) 98 = true := by decide +kernel
def bX3_comesChild_60 : List mB := [(.aload_n 0, mI 0), (.getfield 28, mR 3 6), (.bipush 8, mI (nI 8)), (.aload_n 0, mI 0), (.getfield 60, mR 3 7), (.imul, mI 0), (.iload 4, mI 0), (.iadd, mI 0), (.iconst 0, mI (nI 0)), (.iastore, mI 0), (.aload_n 0, mI 0), (.getfield 28, mR 3 6), (.bipush 8, mI (nI 8)), (.iload 4, mI 0), (.imul, mI 0), (.aload_n 0, mI 0), (.getfield 60, mR 3 7), (.iadd, mI 0), (.iconst 0, mI (nI 0)), (.iastore, mI 0), (.iinc 4 1, mI (nI 1))]
theorem kX3_comesChild_60 : mchk MX3_comesChild 60 bX3_comesChild_60 95 = true := by decide +kernel
theorem tX3_comesChild_95 : mbk MX3_comesChild 95 (.goto (-42)) 53 = true := by decide +kernel
def bX3_comesChild_98 : List mB := [(.aload_n 0, mI 0), (.dup, mI 0), (.getfield 60, mR 3 7), (.iconst 1, mI (nI 1)), (.iadd, mI 0), (.putfield 60, mR 3 7)]
theorem kX3_comesChild_98 : mchk MX3_comesChild 98 bX3_comesChild_98 108 = true := by decide +kernel
theorem tX3_comesChild_108 : mrk MX3_comesChild 108 .return_ = true := by decide +kernel
def bX3_comes_0 : List mB := [(.iconst 3, mI (nI 3)), (.iload_n 1, mI 0), (.imul, mI 0), (.istore_n 2, mI 0), (.aload_n 0, mI 0), (.getfield 34, mR 3 11), (.iload_n 1, mI 0), (.iaload, mI 0)]
theorem kX3_comes_0 : mchk MX3_comes 0 bX3_comes_0 10 = true := by decide +kernel
def sX3_comes_10 : Instr := .lookupswitch 178 #[(107, 34), (108, 154), (116, 100)]
theorem tX3_comes_10 : mswk MX3_comes 10 sX3_comes_10 34 = true := by decide +kernel
def bX3_comes_44 : List mB := [(.aload_n 0, mI 0), (.getfield 40, mR 3 13), (.iload_n 2, mI 0), (.iconst 1, mI (nI 1)), (.iadd, mI 0), (.iaload, mI 0)]
theorem kX3_comes_44 : mchk MX3_comes 44 bX3_comes_44 52 = true := by decide +kernel
theorem tX3_comes_52 : mdk MX3_comes 52 (.invokestatic 99) = true := by decide +kernel
theorem tX3_comes_55 : mbk MX3_comes 55 (.ifCond .eq 25) 80 = true := by decide +kernel
def bX3_comes_58 : List mB := [(.aload_n 0, mI 0), (.getfield 40, mR 3 13), (.iload_n 2, mI 0), (.iconst 2, mI (nI 2)), (.iadd, mI 0), (.iaload, mI 0), (.bipush 7, mI (nI 7))]
theorem kX3_comes_58 : mchk MX3_comes 58 bX3_comes_58 68 = true := by decide +kernel
theorem tX3_comes_68 : mbk MX3_comes 68 (.if_icmp .gt 12) 80 = true := by decide +kernel
def bX3_comes_71 : List mB := [(.aload_n 0, mI 0), (.getfield 60, mR 3 7), (.bipush 8, mI (nI 8))]
theorem kX3_comes_71 : mchk MX3_comes 71 bX3_comes_71 77 = true := by decide +kernel
theorem tX3_comes_77 : mbk MX3_comes 77 (.if_icmp .ne 5) 82 = true := by decide +kernel
def bX3_comes_80 : List mB := [(.iconst 0, mI (nI 0))]
theorem kX3_comes_80 : mchk MX3_comes 80 bX3_comes_80 81 = true := by decide +kernel
theorem tX3_comes_81 : mrk MX3_comes 81 .ireturn = true := by decide +kernel
def bX3_comes_82 : List mB := [(.aload_n 0, mI 0), (.aload_n 0, mI 0), (.getfield 40, mR 3 13), (.iload_n 2, mI 0), (.iaload, mI 0), (.aload_n 0, mI 0), (.getfield 40, mR 3 13), (.iload_n 2, mI 0), (.iconst 1, mI (nI 1)), (.iadd, mI 0), (.iaload, mI 0), (.aload_n 0, mI 0), (.getfield 40, mR 3 13), (.iload_n 2, mI 0), (.iconst 2, mI (nI 2)), (.iadd, mI 0), (.iaload, mI 0)]
theorem kX3_comes_82 : mchk MX3_comes 82 bX3_comes_82 105 = true := by decide +kernel
theorem tX3_comes_105 : mdk MX3_comes 105 (.invokevirtual 102) = true := by decide +kernel
def bX3_comes_108 : List mB := [(.iconst 1, mI (nI 1))]
theorem kX3_comes_108 : mchk MX3_comes 108 bX3_comes_108 109 = true := by decide +kernel
theorem tX3_comes_109 : mrk MX3_comes 109 .ireturn = true := by decide +kernel
def bX3_comes_110 : List mB := [(.aload_n 0, mI 0), (.aload_n 0, mI 0), (.getfield 40, mR 3 13), (.iload_n 2, mI 0), (.iaload, mI 0)]
theorem kX3_comes_110 : mchk MX3_comes 110 bX3_comes_110 117 = true := by decide +kernel
theorem tX3_comes_117 : mdk MX3_comes 117 (.invokevirtual 106) = true := by decide +kernel
theorem tX3_comes_120 : mbk MX3_comes 120 (.ifCond .eq 16) 136 = true := by decide +kernel
def bX3_comes_123 : List mB := [(.aload_n 0, mI 0), (.aload_n 0, mI 0), (.getfield 40, mR 3 13), (.iload_n 2, mI 0), (.iaload, mI 0)]
theorem kX3_comes_123 : mchk MX3_comes 123 bX3_comes_123 130 = true := by decide +kernel
theorem tX3_comes_130 : mdk MX3_comes 130 (.invokevirtual 109) = true := by decide +kernel
theorem tX3_comes_133 : mbk MX3_comes 133 (.ifCond .eq 5) 138 = true := by decide +kernel
def bX3_comes_136 : List mB := [(.iconst 0, mI (nI 0))]
theorem kX3_comes_136 : mchk MX3_comes 136 bX3_comes_136 137 = true := by decide +kernel
theorem tX3_comes_137 : mrk MX3_comes 137 .ireturn = true := by decide +kernel
def bX3_comes_138 : List mB := [(.aload_n 0, mI 0), (.getfield 22, mR 3 4), (.aload_n 0, mI 0), (.getfield 40, mR 3 13), (.iload_n 2, mI 0), (.iaload, mI 0), (.iconst 1, mI (nI 1)), (.aload_n 0, mI 0), (.getfield 22, mR 3 4), (.aload_n 0, mI 0), (.getfield 40, mR 3 13), (.iload_n 2, mI 0), (.iaload, mI 0), (.iaload, mI 0), (.isub, mI 0), (.iastore, mI 0), (.iconst 1, mI (nI 1))]
theorem kX3_comes_138 : mchk MX3_comes 138 bX3_comes_138 163 = true := by decide +kernel
theorem tX3_comes_163 : mrk MX3_comes 163 .ireturn = true := by decide +kernel
def bX3_comes_164 : List mB := [(.aload_n 0, mI 0), (.aload_n 0, mI 0), (.getfield 40, mR 3 13), (.iload_n 2, mI 0), (.iaload, mI 0), (.putfield 112, mR 3 8), (.aload_n 0, mI 0), (.getfield 112, mR 3 8), (.iconst 4, mI (nI 4))]
theorem kX3_comes_164 : mchk MX3_comes 164 bX3_comes_164 179 = true := by decide +kernel
theorem tX3_comes_179 : mbk MX3_comes 179 (.if_icmp .ge 7) 186 = true := by decide +kernel
def bX3_comes_182 : List mB := [(.iconst 1, mI (nI 1))]
theorem kX3_comes_182 : mchk MX3_comes 182 bX3_comes_182 183 = true := by decide +kernel
theorem tX3_comes_183 : mbk MX3_comes 183 (.goto 4) 187 = true := by decide +kernel
def bX3_comes_186 : List mB := [(.iconst 0, mI (nI 0))]
theorem kX3_comes_186 : mchk MX3_comes 186 bX3_comes_186 187 = true := by decide +kernel
theorem tX3_comes_187 : mrk MX3_comes 187 .ireturn = true := by decide +kernel
def bX3_comes_188 : List mB := [(.aload_n 0, mI 0), (.aload_n 0, mI 0), (.getfield 40, mR 3 13), (.iload_n 2, mI 0), (.iaload, mI 0)]
theorem kX3_comes_188 : mchk MX3_comes 188 bX3_comes_188 195 = true := by decide +kernel
theorem tX3_comes_195 : mdk MX3_comes 195 (.invokevirtual 106) = true := by decide +kernel
theorem tX3_comes_198 : mbk MX3_comes 198 (.ifCond .eq 17) 215 = true := by decide +kernel
def bX3_comes_201 : List mB := [(.aload_n 0, mI 0), (.getfield 40, mR 3 13), (.iload_n 2, mI 0), (.iconst 1, mI (nI 1)), (.iadd, mI 0), (.iaload, mI 0)]
theorem kX3_comes_201 : mchk MX3_comes 201 bX3_comes_201 209 = true := by decide +kernel
theorem tX3_comes_209 : mdk MX3_comes 209 (.invokestatic 99) = true := by decide +kernel
theorem tX3_comes_212 : mbk MX3_comes 212 (.ifCond .ne 5) 217 = true := by decide +kernel
def bX3_comes_215 : List mB := [(.iconst 0, mI (nI 0))]
theorem kX3_comes_215 : mchk MX3_comes 215 bX3_comes_215 216 = true := by decide +kernel
theorem tX3_comes_216 : mrk MX3_comes 216 .ireturn = true := by decide +kernel
def bX3_comes_217 : List mB := [(.aload_n 0, mI 0), (.getfield 16, mR 3 2), (.aload_n 0, mI 0), (.getfield 40, mR 3 13), (.iload_n 2, mI 0), (.iaload, mI 0), (.aload_n 0, mI 0), (.getfield 40, mR 3 13), (.iload_n 2, mI 0), (.iconst 1, mI (nI 1)), (.iadd, mI 0), (.iaload, mI 0), (.iastore, mI 0), (.iconst 1, mI (nI 1))]
theorem kX3_comes_217 : mchk MX3_comes 217 bX3_comes_217 237 = true := by decide +kernel
theorem tX3_comes_237 : mrk MX3_comes 237 .ireturn = true := by decide +kernel
def bX3_yard_0 : List mB := [(.aload_n 0, mI 0), (.iconst 0, mI (nI 0)), (.putfield 74, mR 3 15), (.aload_n 0, mI 0), (.iconst 0, mI (nI 0)), (.putfield 92, mR 3 16), (.iconst 1, mI (nI 1)), (.istore_n 1, mI 0)]
theorem kX3_yard_0 : mchk MX3_yard 0 bX3_yard_0 12 = true := by decide +kernel
def bX3_yard_12 : List mB := [(.iload_n 1, mI 0)]
theorem kX3_yard_12 : mchk MX3_yard 12 bX3_yard_12 13 = true := by decide +kernel
theorem tX3_yard_13 : mbk MX3_yard 13 (.ifCond .eq 47) 60 = true := by decide +kernel
def bX3_yard_16 : List mB := [(.aload_n 0, mI 0), (.getfield 74, mR 3 15), (.aload_n 0, mI 0), (.getfield 67, mR 3 14)]
theorem kX3_yard_16 : mchk MX3_yard 16 bX3_yard_16 24 = true := by decide +kernel
theorem tX3_yard_24 : mbk MX3_yard 24 (.if_icmp .lt 10) 34 = true := by decide +kernel
def bX3_yard_27 : List mB := [(.aload_n 0, mI 0), (.getfield 92, mR 3 16)]
theorem kX3_yard_27 : mchk MX3_yard 27 bX3_yard_27 31 = true := by decide +kernel
theorem tX3_yard_31 : mbk MX3_yard 31 (.ifCond .ne 29) 60 = true := by decide +kernel
def bX3_yard_34 : List mB := [(.aload_n 0, mI 0)]
theorem kX3_yard_34 : mchk MX3_yard 34 bX3_yard_34 35 = true := by decide +kernel
theorem tX3_yard_35 : mdk MX3_yard 35 (.invokevirtual 115) = true := by decide +kernel
def bX3_yard_38 : List mB := [(.istore_n 1, mI 0), (.aload_n 0, mI 0), (.dup, mI 0), (.getfield 92, mR 3 16), (.iload_n 1, mI 0)]
theorem kX3_yard_38 : mchk MX3_yard 38 bX3_yard_38 45 = true := by decide +kernel
theorem tX3_yard_45 : mbk MX3_yard 45 (.ifCond .eq 7) 52 = true := by decide +kernel
def bX3_yard_48 : List mB := [(.iconst 1, mI (nI 1))]
theorem kX3_yard_48 : mchk MX3_yard 48 bX3_yard_48 49 = true := by decide +kernel
theorem tX3_yard_49 : mbk MX3_yard 49 (.goto 4) 53 = true := by decide +kernel
def bX3_yard_52 : List mB := [(.iconst 0, mI (nI 0))]
theorem kX3_yard_52 : mchk MX3_yard 52 bX3_yard_52 53 = true := by decide +kernel
def bX3_yard_53 : List mB := [(.iadd, mI 0), (.putfield 92, mR 3 16)]
theorem kX3_yard_53 : mchk MX3_yard 53 bX3_yard_53 57 = true := by decide +kernel
theorem tX3_yard_57 : mbk MX3_yard 57 (.goto (-45)) 12 = true := by decide +kernel
def bX3_yard_60 : List mB := [(.aload_n 0, mI 0), (.iconst 0, mI (nI 0)), (.putfield 67, mR 3 14), (.iload_n 1, mI 0)]
theorem kX3_yard_60 : mchk MX3_yard 60 bX3_yard_60 66 = true := by decide +kernel
theorem tX3_yard_66 : mbk MX3_yard 66 (.ifCond .ne 12) 78 = true := by decide +kernel
def bX3_yard_69 : List mB := [(.sipush (-1000), mI (-1000)), (.aload_n 0, mI 0), (.getfield 74, mR 3 15), (.isub, mI 0)]
theorem kX3_yard_69 : mchk MX3_yard 69 bX3_yard_69 77 = true := by decide +kernel
theorem tX3_yard_77 : mrk MX3_yard 77 .ireturn = true := by decide +kernel
def bX3_yard_78 : List mB := [(.aload_n 0, mI 0), (.iconst 1, mI (nI 1)), (.iconst 1, mI (nI 1))]
theorem kX3_yard_78 : mchk MX3_yard 78 bX3_yard_78 81 = true := by decide +kernel
theorem tX3_yard_81 : mdk MX3_yard 81 (.invokevirtual 119) = true := by decide +kernel
def bX3_yard_84 : List mB := [(.iconst 0, mI (nI 0)), (.istore_n 2, mI 0)]
theorem kX3_yard_84 : mchk MX3_yard 84 bX3_yard_84 86 = true := by decide +kernel
def bX3_yard_86 : List mB := [(.iload_n 2, mI 0), (.aload_n 0, mI 0), (.getfield 92, mR 3 16)]
theorem kX3_yard_86 : mchk MX3_yard 86 bX3_yard_86 91 = true := by decide +kernel
theorem tX3_yard_91 : mbk MX3_yard 91 (.if_icmp .ge 37) 128 = true := by decide +kernel
def bX3_yard_94 : List mB := [(.aload_n 0, mI 0), (.iload_n 2, mI 0)]
theorem kX3_yard_94 : mchk MX3_yard 94 bX3_yard_94 96 = true := by decide +kernel
theorem tX3_yard_96 : mdk MX3_yard 96 (.invokevirtual 123) = true := by decide +kernel
theorem tX3_yard_99 : mbk MX3_yard 99 (.ifCond .eq 6) 105 = true := by decide +kernel
theorem tX3_yard_102 : mbk MX3_yard 102 (.goto 20) 122 = true := by decide +kernel
def bX3_yard_105 : List mB := [(.aload_n 0, mI 0), (.iconst 1, mI (nI 1)), (.iconst 0, mI (nI 0))]
theorem kX3_yard_105 : mchk MX3_yard 105 bX3_yard_105 108 = true := by decide +kernel
theorem tX3_yard_108 : mdk MX3_yard 108 (.invokevirtual 119) = true := by decide +kernel
def bX3_yard_111 : List mB := [(.sipush (-2000), mI (-2000)), (.aload_n 0, mI 0), (.getfield 37, mR 3 12), (.iload_n 2, mI 0), (.iaload, mI 0), (.isub, mI 0)]
theorem kX3_yard_111 : mchk MX3_yard 111 bX3_yard_111 121 = true := by decide +kernel
theorem tX3_yard_121 : mrk MX3_yard 121 .ireturn = true := by decide +kernel
def bX3_yard_122 : List mB := [(.iinc 2 1, mI (nI 1))]
theorem kX3_yard_122 : mchk MX3_yard 122 bX3_yard_122 125 = true := by decide +kernel
theorem tX3_yard_125 : mbk MX3_yard 125 (.goto (-39)) 86 = true := by decide +kernel
def bX3_yard_128 : List mB := [(.aload_n 0, mI 0), (.getfield 92, mR 3 16)]
theorem kX3_yard_128 : mchk MX3_yard 128 bX3_yard_128 132 = true := by decide +kernel
theorem tX3_yard_132 : mrk MX3_yard 132 .ireturn = true := by decide +kernel
def bX3_passes_0 : List mB := [(.iconst 0, mI (nI 0)), (.istore_n 2, mI 0)]
theorem kX3_passes_0 : mchk MX3_passes 0 bX3_passes_0 2 = true := by decide +kernel
def bX3_passes_2 : List mB := [(.iload_n 2, mI 0), (.aload_n 1, mI 0), (.arraylength, mI 0)]
theorem kX3_passes_2 : mchk MX3_passes 2 bX3_passes_2 5 = true := by decide +kernel
theorem tX3_passes_5 : mbk MX3_passes 5 (.if_icmp .ge 53) 58 = true := by decide +kernel
def bX3_passes_8 : List mB := [(.aload_n 0, mI 0), (.getfield 126, mR 3 19)]
theorem kX3_passes_8 : mchk MX3_passes 8 bX3_passes_8 12 = true := by decide +kernel
theorem tX3_passes_12 : mbk MX3_passes 12 (.ifCond .eq 18) 30 = true := by decide +kernel
def bX3_passes_15 : List mB := [(.aload_n 0, mI 0), (.getfield 43, mR 3 17), (.aload_n 0, mI 0), (.getfield 130, mR 3 20), (.aload_n 1, mI 0), (.iload_n 2, mI 0), (.iaload, mI 0), (.iastore, mI 0)]
theorem kX3_passes_15 : mchk MX3_passes 15 bX3_passes_15 27 = true := by decide +kernel
theorem tX3_passes_27 : mbk MX3_passes 27 (.goto 15) 42 = true := by decide +kernel
def bX3_passes_30 : List mB := [(.aload_n 1, mI 0), (.iload_n 2, mI 0), (.aload_n 0, mI 0), (.getfield 43, mR 3 17), (.aload_n 0, mI 0), (.getfield 130, mR 3 20), (.iaload, mI 0), (.iastore, mI 0)]
theorem kX3_passes_30 : mchk MX3_passes 30 bX3_passes_30 42 = true := by decide +kernel
def bX3_passes_42 : List mB := [(.aload_n 0, mI 0), (.dup, mI 0), (.getfield 130, mR 3 20), (.iconst 1, mI (nI 1)), (.iadd, mI 0), (.putfield 130, mR 3 20), (.iinc 2 1, mI (nI 1))]
theorem kX3_passes_42 : mchk MX3_passes 42 bX3_passes_42 55 = true := by decide +kernel
theorem tX3_passes_55 : mbk MX3_passes 55 (.goto (-53)) 2 = true := by decide +kernel
theorem tX3_passes_58 : mrk MX3_passes 58 .return_ = true := by decide +kernel
def bX3_passOne_0 : List mB := [(.aload_n 0, mI 0), (.getfield 126, mR 3 19)]
theorem kX3_passOne_0 : mchk MX3_passOne 0 bX3_passOne_0 4 = true := by decide +kernel
theorem tX3_passOne_4 : mbk MX3_passOne 4 (.ifCond .eq 7) 11 = true := by decide +kernel
def bX3_passOne_7 : List mB := [(.iload_n 1, mI 0)]
theorem kX3_passOne_7 : mchk MX3_passOne 7 bX3_passOne_7 8 = true := by decide +kernel
theorem tX3_passOne_8 : mbk MX3_passOne 8 (.goto 12) 20 = true := by decide +kernel
def bX3_passOne_11 : List mB := [(.aload_n 0, mI 0), (.getfield 43, mR 3 17), (.aload_n 0, mI 0), (.getfield 130, mR 3 20), (.iaload, mI 0)]
theorem kX3_passOne_11 : mchk MX3_passOne 11 bX3_passOne_11 20 = true := by decide +kernel
def bX3_passOne_20 : List mB := [(.istore_n 2, mI 0), (.aload_n 0, mI 0), (.getfield 126, mR 3 19)]
theorem kX3_passOne_20 : mchk MX3_passOne 20 bX3_passOne_20 25 = true := by decide +kernel
theorem tX3_passOne_25 : mbk MX3_passOne 25 (.ifCond .eq 13) 38 = true := by decide +kernel
def bX3_passOne_28 : List mB := [(.aload_n 0, mI 0), (.getfield 43, mR 3 17), (.aload_n 0, mI 0), (.getfield 130, mR 3 20), (.iload_n 1, mI 0), (.iastore, mI 0)]
theorem kX3_passOne_28 : mchk MX3_passOne 28 bX3_passOne_28 38 = true := by decide +kernel
def bX3_passOne_38 : List mB := [(.aload_n 0, mI 0), (.dup, mI 0), (.getfield 130, mR 3 20), (.iconst 1, mI (nI 1)), (.iadd, mI 0), (.putfield 130, mR 3 20), (.iload_n 2, mI 0)]
theorem kX3_passOne_38 : mchk MX3_passOne 38 bX3_passOne_38 49 = true := by decide +kernel
theorem tX3_passOne_49 : mrk MX3_passOne 49 .ireturn = true := by decide +kernel
def bX3_passesAll_0 : List mB := [(.aload_n 0, mI 0), (.bipush 110, mI (nI 110)), (.iload_n 1, mI 0), (.imul, mI 0), (.putfield 130, mR 3 20), (.aload_n 0, mI 0), (.iload_n 2, mI 0), (.putfield 126, mR 3 19), (.aload_n 0, mI 0), (.aload_n 0, mI 0), (.getfield 13, mR 3 1)]
theorem kX3_passesAll_0 : mchk MX3_passesAll 0 bX3_passesAll_0 18 = true := by decide +kernel
theorem tX3_passesAll_18 : mdk MX3_passesAll 18 (.invokevirtual 133) = true := by decide +kernel
def bX3_passesAll_21 : List mB := [(.aload_n 0, mI 0), (.aload_n 0, mI 0), (.getfield 16, mR 3 2)]
theorem kX3_passesAll_21 : mchk MX3_passesAll 21 bX3_passesAll_21 26 = true := by decide +kernel
theorem tX3_passesAll_26 : mdk MX3_passesAll 26 (.invokevirtual 133) = true := by decide +kernel
def bX3_passesAll_29 : List mB := [(.aload_n 0, mI 0), (.aload_n 0, mI 0), (.getfield 19, mR 3 3)]
theorem kX3_passesAll_29 : mchk MX3_passesAll 29 bX3_passesAll_29 34 = true := by decide +kernel
theorem tX3_passesAll_34 : mdk MX3_passesAll 34 (.invokevirtual 133) = true := by decide +kernel
def bX3_passesAll_37 : List mB := [(.aload_n 0, mI 0), (.aload_n 0, mI 0), (.getfield 22, mR 3 4)]
theorem kX3_passesAll_37 : mchk MX3_passesAll 37 bX3_passesAll_37 42 = true := by decide +kernel
theorem tX3_passesAll_42 : mdk MX3_passesAll 42 (.invokevirtual 133) = true := by decide +kernel
def bX3_passesAll_45 : List mB := [(.aload_n 0, mI 0), (.aload_n 0, mI 0), (.getfield 25, mR 3 5)]
theorem kX3_passesAll_45 : mchk MX3_passesAll 45 bX3_passesAll_45 50 = true := by decide +kernel
theorem tX3_passesAll_50 : mdk MX3_passesAll 50 (.invokevirtual 133) = true := by decide +kernel
def bX3_passesAll_53 : List mB := [(.aload_n 0, mI 0), (.aload_n 0, mI 0), (.getfield 28, mR 3 6)]
theorem kX3_passesAll_53 : mchk MX3_passesAll 53 bX3_passesAll_53 58 = true := by decide +kernel
theorem tX3_passesAll_58 : mdk MX3_passesAll 58 (.invokevirtual 133) = true := by decide +kernel
def bX3_passesAll_61 : List mB := [(.aload_n 0, mI 0), (.aload_n 0, mI 0), (.aload_n 0, mI 0), (.getfield 60, mR 3 7)]
theorem kX3_passesAll_61 : mchk MX3_passesAll 61 bX3_passesAll_61 67 = true := by decide +kernel
theorem tX3_passesAll_67 : mdk MX3_passesAll 67 (.invokevirtual 137) = true := by decide +kernel
def bX3_passesAll_70 : List mB := [(.putfield 60, mR 3 7), (.aload_n 0, mI 0), (.aload_n 0, mI 0), (.aload_n 0, mI 0), (.getfield 112, mR 3 8)]
theorem kX3_passesAll_70 : mchk MX3_passesAll 70 bX3_passesAll_70 79 = true := by decide +kernel
theorem tX3_passesAll_79 : mdk MX3_passesAll 79 (.invokevirtual 137) = true := by decide +kernel
def bX3_passesAll_82 : List mB := [(.putfield 112, mR 3 8), (.aload_n 0, mI 0), (.aload_n 0, mI 0), (.aload_n 0, mI 0), (.getfield 140, mR 3 9)]
theorem kX3_passesAll_82 : mchk MX3_passesAll 82 bX3_passesAll_82 91 = true := by decide +kernel
theorem tX3_passesAll_91 : mdk MX3_passesAll 91 (.invokevirtual 137) = true := by decide +kernel
def bX3_passesAll_94 : List mB := [(.putfield 140, mR 3 9)]
theorem kX3_passesAll_94 : mchk MX3_passesAll 94 bX3_passesAll_94 97 = true := by decide +kernel
theorem tX3_passesAll_97 : mrk MX3_passesAll 97 .return_ = true := by decide +kernel
def bX3_image_0 : List mB := [(.aload_n 0, mI 0), (.iconst 1, mI (nI 1)), (.putfield 143, mR 3 18), (.aload_n 0, mI 0), (.iconst 0, mI (nI 0)), (.iconst 1, mI (nI 1))]
theorem kX3_image_0 : mchk MX3_image 0 bX3_image_0 8 = true := by decide +kernel
theorem tX3_image_8 : mdk MX3_image 8 (.invokevirtual 119) = true := by decide +kernel
def bX3_image_11 : List mB := [(.aload_n 0, mI 0), (.getfield 140, mR 3 9)]
theorem kX3_image_11 : mchk MX3_image 11 bX3_image_11 15 = true := by decide +kernel
theorem tX3_image_15 : mrk MX3_image 15 .ireturn = true := by decide +kernel
def bX3_on_0 : List mB := [(.aload_n 0, mI 0), (.getfield 143, mR 3 18)]
theorem kX3_on_0 : mchk MX3_on 0 bX3_on_0 4 = true := by decide +kernel
theorem tX3_on_4 : mbk MX3_on 4 (.ifCond .ne 10) 14 = true := by decide +kernel
def bX3_on_7 : List mB := [(.aload_n 0, mI 0), (.bipush (-3), mI (-3))]
theorem kX3_on_7 : mchk MX3_on 7 bX3_on_7 10 = true := by decide +kernel
theorem tX3_on_10 : mdk MX3_on 10 (.invokevirtual 70) = true := by decide +kernel
theorem tX3_on_13 : mrk MX3_on 13 .ireturn = true := by decide +kernel
def bX3_on_14 : List mB := [(.aload_n 0, mI 0), (.iconst 0, mI (nI 0)), (.iconst 0, mI (nI 0))]
theorem kX3_on_14 : mchk MX3_on 14 bX3_on_14 17 = true := by decide +kernel
theorem tX3_on_17 : mdk MX3_on 17 (.invokevirtual 119) = true := by decide +kernel
def bX3_on_20 : List mB := [(.aload_n 0, mI 0), (.getfield 140, mR 3 9)]
theorem kX3_on_20 : mchk MX3_on 20 bX3_on_20 24 = true := by decide +kernel
theorem tX3_on_24 : mrk MX3_on 24 .ireturn = true := by decide +kernel
def bX3_stepOf_0 : List mB := [(.iload_n 1, mI 0)]
theorem kX3_stepOf_0 : mchk MX3_stepOf 0 bX3_stepOf_0 1 = true := by decide +kernel
def sX3_stepOf_1 : Instr := .tableswitch 84 0 3 #[31, 33, 49, 68]
theorem tX3_stepOf_1 : mswk MX3_stepOf 1 sX3_stepOf_1 31 = true := by decide +kernel
def bX3_stepOf_32 : List mB := [(.iload_n 0, mI 0)]
theorem kX3_stepOf_32 : mchk MX3_stepOf 32 bX3_stepOf_32 33 = true := by decide +kernel
theorem tX3_stepOf_33 : mrk MX3_stepOf 33 .ireturn = true := by decide +kernel
def bX3_stepOf_34 : List mB := [(.iload_n 0, mI 0), (.bipush 6, mI (nI 6))]
theorem kX3_stepOf_34 : mchk MX3_stepOf 34 bX3_stepOf_34 37 = true := by decide +kernel
theorem tX3_stepOf_37 : mbk MX3_stepOf 37 (.if_icmp .lt 10) 47 = true := by decide +kernel
def bX3_stepOf_40 : List mB := [(.iload_n 0, mI 0), (.bipush 6, mI (nI 6)), (.isub, mI 0)]
theorem kX3_stepOf_40 : mchk MX3_stepOf 40 bX3_stepOf_40 44 = true := by decide +kernel
theorem tX3_stepOf_44 : mbk MX3_stepOf 44 (.goto 5) 49 = true := by decide +kernel
def bX3_stepOf_47 : List mB := [(.bipush (-9), mI (-9))]
theorem kX3_stepOf_47 : mchk MX3_stepOf 47 bX3_stepOf_47 49 = true := by decide +kernel
theorem tX3_stepOf_49 : mrk MX3_stepOf 49 .ireturn = true := by decide +kernel
def bX3_stepOf_50 : List mB := [(.iload_n 0, mI 0), (.bipush 6, mI (nI 6)), (.iadd, mI 0), (.bipush 24, mI (nI 24))]
theorem kX3_stepOf_50 : mchk MX3_stepOf 50 bX3_stepOf_50 56 = true := by decide +kernel
theorem tX3_stepOf_56 : mbk MX3_stepOf 56 (.if_icmp .ge 10) 66 = true := by decide +kernel
def bX3_stepOf_59 : List mB := [(.iload_n 0, mI 0), (.bipush 6, mI (nI 6)), (.iadd, mI 0)]
theorem kX3_stepOf_59 : mchk MX3_stepOf 59 bX3_stepOf_59 63 = true := by decide +kernel
theorem tX3_stepOf_63 : mbk MX3_stepOf 63 (.goto 5) 68 = true := by decide +kernel
def bX3_stepOf_66 : List mB := [(.bipush (-9), mI (-9))]
theorem kX3_stepOf_66 : mchk MX3_stepOf 66 bX3_stepOf_66 68 = true := by decide +kernel
theorem tX3_stepOf_68 : mrk MX3_stepOf 68 .ireturn = true := by decide +kernel
def bX3_stepOf_69 : List mB := [(.iload_n 0, mI 0), (.bipush 6, mI (nI 6)), (.irem, mI 0)]
theorem kX3_stepOf_69 : mchk MX3_stepOf 69 bX3_stepOf_69 73 = true := by decide +kernel
theorem tX3_stepOf_73 : mbk MX3_stepOf 73 (.ifCond .le 9) 82 = true := by decide +kernel
def bX3_stepOf_76 : List mB := [(.iload_n 0, mI 0), (.iconst 1, mI (nI 1)), (.isub, mI 0)]
theorem kX3_stepOf_76 : mchk MX3_stepOf 76 bX3_stepOf_76 79 = true := by decide +kernel
theorem tX3_stepOf_79 : mbk MX3_stepOf 79 (.goto 5) 84 = true := by decide +kernel
def bX3_stepOf_82 : List mB := [(.bipush (-9), mI (-9))]
theorem kX3_stepOf_82 : mchk MX3_stepOf 82 bX3_stepOf_82 84 = true := by decide +kernel
theorem tX3_stepOf_84 : mrk MX3_stepOf 84 .ireturn = true := by decide +kernel
def bX3_stepOf_85 : List mB := [(.iload_n 0, mI 0), (.bipush 6, mI (nI 6)), (.irem, mI 0), (.iconst 5, mI (nI 5))]
theorem kX3_stepOf_85 : mchk MX3_stepOf 85 bX3_stepOf_85 90 = true := by decide +kernel
theorem tX3_stepOf_90 : mbk MX3_stepOf 90 (.if_icmp .ge 9) 99 = true := by decide +kernel
def bX3_stepOf_93 : List mB := [(.iload_n 0, mI 0), (.iconst 1, mI (nI 1)), (.iadd, mI 0)]
theorem kX3_stepOf_93 : mchk MX3_stepOf 93 bX3_stepOf_93 96 = true := by decide +kernel
theorem tX3_stepOf_96 : mbk MX3_stepOf 96 (.goto 5) 101 = true := by decide +kernel
def bX3_stepOf_99 : List mB := [(.bipush (-9), mI (-9))]
theorem kX3_stepOf_99 : mchk MX3_stepOf 99 bX3_stepOf_99 101 = true := by decide +kernel
theorem tX3_stepOf_101 : mrk MX3_stepOf 101 .ireturn = true := by decide +kernel
def bX3_farFromCatchers_0 : List mB := [(.bipush 99, mI (nI 99)), (.istore_n 2, mI 0), (.iconst 0, mI (nI 0)), (.istore_n 3, mI 0)]
theorem kX3_farFromCatchers_0 : mchk MX3_farFromCatchers 0 bX3_farFromCatchers_0 5 = true := by decide +kernel
def bX3_farFromCatchers_5 : List mB := [(.iload_n 3, mI 0), (.aload_n 0, mI 0), (.getfield 60, mR 3 7)]
theorem kX3_farFromCatchers_5 : mchk MX3_farFromCatchers 5 bX3_farFromCatchers_5 10 = true := by decide +kernel
theorem tX3_farFromCatchers_10 : mbk MX3_farFromCatchers 10 (.if_icmp .ge 42) 52 = true := by decide +kernel
def bX3_farFromCatchers_13 : List mB := [(.aload_n 0, mI 0), (.iload_n 3, mI 0)]
theorem kX3_farFromCatchers_13 : mchk MX3_farFromCatchers 13 bX3_farFromCatchers_13 15 = true := by decide +kernel
theorem tX3_farFromCatchers_15 : mdk MX3_farFromCatchers 15 (.invokevirtual 109) = true := by decide +kernel
theorem tX3_farFromCatchers_18 : mbk MX3_farFromCatchers 18 (.ifCond .eq 28) 46 = true := by decide +kernel
def bX3_farFromCatchers_21 : List mB := [(.iload_n 1, mI 0), (.aload_n 0, mI 0), (.getfield 16, mR 3 2), (.iload_n 3, mI 0), (.iaload, mI 0)]
theorem kX3_farFromCatchers_21 : mchk MX3_farFromCatchers 21 bX3_farFromCatchers_21 28 = true := by decide +kernel
theorem tX3_farFromCatchers_28 : mdk MX3_farFromCatchers 28 (.invokestatic 146) = true := by decide +kernel
def bX3_farFromCatchers_31 : List mB := [(.iload_n 2, mI 0)]
theorem kX3_farFromCatchers_31 : mchk MX3_farFromCatchers 31 bX3_farFromCatchers_31 32 = true := by decide +kernel
theorem tX3_farFromCatchers_32 : mbk MX3_farFromCatchers 32 (.if_icmp .ge 14) 46 = true := by decide +kernel
def bX3_farFromCatchers_35 : List mB := [(.iload_n 1, mI 0), (.aload_n 0, mI 0), (.getfield 16, mR 3 2), (.iload_n 3, mI 0), (.iaload, mI 0)]
theorem kX3_farFromCatchers_35 : mchk MX3_farFromCatchers 35 bX3_farFromCatchers_35 42 = true := by decide +kernel
theorem tX3_farFromCatchers_42 : mdk MX3_farFromCatchers 42 (.invokestatic 146) = true := by decide +kernel
def bX3_farFromCatchers_45 : List mB := [(.istore_n 2, mI 0)]
theorem kX3_farFromCatchers_45 : mchk MX3_farFromCatchers 45 bX3_farFromCatchers_45 46 = true := by decide +kernel
def bX3_farFromCatchers_46 : List mB := [(.iinc 3 1, mI (nI 1))]
theorem kX3_farFromCatchers_46 : mchk MX3_farFromCatchers 46 bX3_farFromCatchers_46 49 = true := by decide +kernel
theorem tX3_farFromCatchers_49 : mbk MX3_farFromCatchers 49 (.goto (-44)) 5 = true := by decide +kernel
def bX3_farFromCatchers_52 : List mB := [(.iload_n 2, mI 0)]
theorem kX3_farFromCatchers_52 : mchk MX3_farFromCatchers 52 bX3_farFromCatchers_52 53 = true := by decide +kernel
theorem tX3_farFromCatchers_53 : mrk MX3_farFromCatchers 53 .ireturn = true := by decide +kernel
def bX3_away_0 : List mB := [(.iload_n 1, mI 0), (.istore_n 2, mI 0), (.iconst 1, mI (nI 1)), (.istore_n 3, mI 0)]
theorem kX3_away_0 : mchk MX3_away 0 bX3_away_0 4 = true := by decide +kernel
def bX3_away_4 : List mB := [(.iload_n 3, mI 0), (.iconst 5, mI (nI 5))]
theorem kX3_away_4 : mchk MX3_away 4 bX3_away_4 6 = true := by decide +kernel
theorem tX3_away_6 : mbk MX3_away 6 (.if_icmp .ge 38) 44 = true := by decide +kernel
def bX3_away_9 : List mB := [(.iload_n 1, mI 0), (.iload_n 3, mI 0)]
theorem kX3_away_9 : mchk MX3_away 9 bX3_away_9 11 = true := by decide +kernel
theorem tX3_away_11 : mdk MX3_away 11 (.invokestatic 149) = true := by decide +kernel
def bX3_away_14 : List mB := [(.istore 4, mI 0), (.iload 4, mI 0)]
theorem kX3_away_14 : mchk MX3_away 14 bX3_away_14 18 = true := by decide +kernel
theorem tX3_away_18 : mbk MX3_away 18 (.ifCond .lt 20) 38 = true := by decide +kernel
def bX3_away_21 : List mB := [(.aload_n 0, mI 0), (.iload 4, mI 0)]
theorem kX3_away_21 : mchk MX3_away 21 bX3_away_21 24 = true := by decide +kernel
theorem tX3_away_24 : mdk MX3_away 24 (.invokevirtual 152) = true := by decide +kernel
def bX3_away_27 : List mB := [(.aload_n 0, mI 0), (.iload_n 2, mI 0)]
theorem kX3_away_27 : mchk MX3_away 27 bX3_away_27 29 = true := by decide +kernel
theorem tX3_away_29 : mdk MX3_away 29 (.invokevirtual 152) = true := by decide +kernel
theorem tX3_away_32 : mbk MX3_away 32 (.if_icmp .le 6) 38 = true := by decide +kernel
def bX3_away_35 : List mB := [(.iload 4, mI 0), (.istore_n 2, mI 0)]
theorem kX3_away_35 : mchk MX3_away 35 bX3_away_35 38 = true := by decide +kernel
def bX3_away_38 : List mB := [(.iinc 3 1, mI (nI 1))]
theorem kX3_away_38 : mchk MX3_away 38 bX3_away_38 41 = true := by decide +kernel
theorem tX3_away_41 : mbk MX3_away 41 (.goto (-37)) 4 = true := by decide +kernel
def bX3_away_44 : List mB := [(.iload_n 2, mI 0)]
theorem kX3_away_44 : mchk MX3_away 44 bX3_away_44 45 = true := by decide +kernel
theorem tX3_away_45 : mrk MX3_away 45 .ireturn = true := by decide +kernel
def bX3_toward_0 : List mB := [(.iload_n 0, mI 0), (.istore_n 2, mI 0), (.iconst 1, mI (nI 1)), (.istore_n 3, mI 0)]
theorem kX3_toward_0 : mchk MX3_toward 0 bX3_toward_0 4 = true := by decide +kernel
def bX3_toward_4 : List mB := [(.iload_n 3, mI 0), (.iconst 5, mI (nI 5))]
theorem kX3_toward_4 : mchk MX3_toward 4 bX3_toward_4 6 = true := by decide +kernel
theorem tX3_toward_6 : mbk MX3_toward 6 (.if_icmp .ge 38) 44 = true := by decide +kernel
def bX3_toward_9 : List mB := [(.iload_n 0, mI 0), (.iload_n 3, mI 0)]
theorem kX3_toward_9 : mchk MX3_toward 9 bX3_toward_9 11 = true := by decide +kernel
theorem tX3_toward_11 : mdk MX3_toward 11 (.invokestatic 149) = true := by decide +kernel
def bX3_toward_14 : List mB := [(.istore 4, mI 0), (.iload 4, mI 0)]
theorem kX3_toward_14 : mchk MX3_toward 14 bX3_toward_14 18 = true := by decide +kernel
theorem tX3_toward_18 : mbk MX3_toward 18 (.ifCond .lt 20) 38 = true := by decide +kernel
def bX3_toward_21 : List mB := [(.iload 4, mI 0), (.iload_n 1, mI 0)]
theorem kX3_toward_21 : mchk MX3_toward 21 bX3_toward_21 24 = true := by decide +kernel
theorem tX3_toward_24 : mdk MX3_toward 24 (.invokestatic 146) = true := by decide +kernel
def bX3_toward_27 : List mB := [(.iload_n 2, mI 0), (.iload_n 1, mI 0)]
theorem kX3_toward_27 : mchk MX3_toward 27 bX3_toward_27 29 = true := by decide +kernel
theorem tX3_toward_29 : mdk MX3_toward 29 (.invokestatic 146) = true := by decide +kernel
theorem tX3_toward_32 : mbk MX3_toward 32 (.if_icmp .ge 6) 38 = true := by decide +kernel
def bX3_toward_35 : List mB := [(.iload 4, mI 0), (.istore_n 2, mI 0)]
theorem kX3_toward_35 : mchk MX3_toward 35 bX3_toward_35 38 = true := by decide +kernel
def bX3_toward_38 : List mB := [(.iinc 3 1, mI (nI 1))]
theorem kX3_toward_38 : mchk MX3_toward 38 bX3_toward_38 41 = true := by decide +kernel
theorem tX3_toward_41 : mbk MX3_toward 41 (.goto (-37)) 4 = true := by decide +kernel
def bX3_toward_44 : List mB := [(.iload_n 2, mI 0)]
theorem kX3_toward_44 : mchk MX3_toward 44 bX3_toward_44 45 = true := by decide +kernel
theorem tX3_toward_45 : mrk MX3_toward 45 .ireturn = true := by decide +kernel
def bX3_doesMay_0 : List mB := [(.iload_n 2, mI 0), (.iload_n 1, mI 0)]
theorem kX3_doesMay_0 : mchk MX3_doesMay 0 bX3_doesMay_0 2 = true := by decide +kernel
theorem tX3_doesMay_2 : mbk MX3_doesMay 2 (.if_icmp .eq 47) 49 = true := by decide +kernel
def bX3_doesMay_5 : List mB := [(.aload_n 0, mI 0), (.getfield 22, mR 3 4), (.iload_n 2, mI 0), (.iaload, mI 0), (.iconst 1, mI (nI 1))]
theorem kX3_doesMay_5 : mchk MX3_doesMay 5 bX3_doesMay_5 12 = true := by decide +kernel
theorem tX3_doesMay_12 : mbk MX3_doesMay 12 (.if_icmp .ne 37) 49 = true := by decide +kernel
def bX3_doesMay_15 : List mB := [(.aload_n 0, mI 0), (.getfield 13, mR 3 1), (.iload_n 1, mI 0), (.iaload, mI 0), (.iconst 1, mI (nI 1))]
theorem kX3_doesMay_15 : mchk MX3_doesMay 15 bX3_doesMay_15 22 = true := by decide +kernel
theorem tX3_doesMay_22 : mbk MX3_doesMay 22 (.if_icmp .eq 23) 45 = true := by decide +kernel
def bX3_doesMay_25 : List mB := [(.aload_n 0, mI 0), (.getfield 13, mR 3 1), (.iload_n 1, mI 0), (.iaload, mI 0), (.iconst 2, mI (nI 2))]
theorem kX3_doesMay_25 : mchk MX3_doesMay 25 bX3_doesMay_25 32 = true := by decide +kernel
theorem tX3_doesMay_32 : mbk MX3_doesMay 32 (.if_icmp .ne 17) 49 = true := by decide +kernel
def bX3_doesMay_35 : List mB := [(.aload_n 0, mI 0), (.getfield 19, mR 3 3), (.iload_n 1, mI 0), (.iaload, mI 0), (.iload_n 2, mI 0)]
theorem kX3_doesMay_35 : mchk MX3_doesMay 35 bX3_doesMay_35 42 = true := by decide +kernel
theorem tX3_doesMay_42 : mbk MX3_doesMay 42 (.if_icmp .ne 7) 49 = true := by decide +kernel
def bX3_doesMay_45 : List mB := [(.iconst 1, mI (nI 1))]
theorem kX3_doesMay_45 : mchk MX3_doesMay 45 bX3_doesMay_45 46 = true := by decide +kernel
theorem tX3_doesMay_46 : mbk MX3_doesMay 46 (.goto 4) 50 = true := by decide +kernel
def bX3_doesMay_49 : List mB := [(.iconst 0, mI (nI 0))]
theorem kX3_doesMay_49 : mchk MX3_doesMay 49 bX3_doesMay_49 50 = true := by decide +kernel
theorem tX3_doesMay_50 : mrk MX3_doesMay 50 .ireturn = true := by decide +kernel
def bX3_nearMay_0 : List mB := [(.iconst 0, mI (nI 0)), (.istore_n 2, mI 0)]
theorem kX3_nearMay_0 : mchk MX3_nearMay 0 bX3_nearMay_0 2 = true := by decide +kernel
def bX3_nearMay_2 : List mB := [(.iload_n 2, mI 0), (.aload_n 0, mI 0), (.getfield 60, mR 3 7)]
theorem kX3_nearMay_2 : mchk MX3_nearMay 2 bX3_nearMay_2 7 = true := by decide +kernel
theorem tX3_nearMay_7 : mbk MX3_nearMay 7 (.if_icmp .ge 39) 46 = true := by decide +kernel
def bX3_nearMay_10 : List mB := [(.aload_n 0, mI 0), (.iload_n 1, mI 0), (.iload_n 2, mI 0)]
theorem kX3_nearMay_10 : mchk MX3_nearMay 10 bX3_nearMay_10 13 = true := by decide +kernel
theorem tX3_nearMay_13 : mdk MX3_nearMay 13 (.invokevirtual 155) = true := by decide +kernel
theorem tX3_nearMay_16 : mbk MX3_nearMay 16 (.ifCond .eq 24) 40 = true := by decide +kernel
def bX3_nearMay_19 : List mB := [(.aload_n 0, mI 0), (.getfield 16, mR 3 2), (.iload_n 1, mI 0), (.iaload, mI 0), (.aload_n 0, mI 0), (.getfield 16, mR 3 2), (.iload_n 2, mI 0), (.iaload, mI 0)]
theorem kX3_nearMay_19 : mchk MX3_nearMay 19 bX3_nearMay_19 31 = true := by decide +kernel
theorem tX3_nearMay_31 : mdk MX3_nearMay 31 (.invokestatic 146) = true := by decide +kernel
def bX3_nearMay_34 : List mB := [(.iconst 2, mI (nI 2))]
theorem kX3_nearMay_34 : mchk MX3_nearMay 34 bX3_nearMay_34 35 = true := by decide +kernel
theorem tX3_nearMay_35 : mbk MX3_nearMay 35 (.if_icmp .ge 5) 40 = true := by decide +kernel
def bX3_nearMay_38 : List mB := [(.iload_n 2, mI 0)]
theorem kX3_nearMay_38 : mchk MX3_nearMay 38 bX3_nearMay_38 39 = true := by decide +kernel
theorem tX3_nearMay_39 : mrk MX3_nearMay 39 .ireturn = true := by decide +kernel
def bX3_nearMay_40 : List mB := [(.iinc 2 1, mI (nI 1))]
theorem kX3_nearMay_40 : mchk MX3_nearMay 40 bX3_nearMay_40 43 = true := by decide +kernel
theorem tX3_nearMay_43 : mbk MX3_nearMay 43 (.goto (-41)) 2 = true := by decide +kernel
def bX3_nearMay_46 : List mB := [(.bipush (-9), mI (-9))]
theorem kX3_nearMay_46 : mchk MX3_nearMay 46 bX3_nearMay_46 48 = true := by decide +kernel
theorem tX3_nearMay_48 : mrk MX3_nearMay 48 .ireturn = true := by decide +kernel
def bX3_nearestMay_0 : List mB := [(.bipush (-9), mI (-9)), (.istore_n 2, mI 0), (.iconst 0, mI (nI 0)), (.istore_n 3, mI 0)]
theorem kX3_nearestMay_0 : mchk MX3_nearestMay 0 bX3_nearestMay_0 5 = true := by decide +kernel
def bX3_nearestMay_5 : List mB := [(.iload_n 3, mI 0), (.aload_n 0, mI 0), (.getfield 60, mR 3 7)]
theorem kX3_nearestMay_5 : mchk MX3_nearestMay 5 bX3_nearestMay_5 10 = true := by decide +kernel
theorem tX3_nearestMay_10 : mbk MX3_nearestMay 10 (.if_icmp .ge 57) 67 = true := by decide +kernel
def bX3_nearestMay_13 : List mB := [(.aload_n 0, mI 0), (.iload_n 1, mI 0), (.iload_n 3, mI 0)]
theorem kX3_nearestMay_13 : mchk MX3_nearestMay 13 bX3_nearestMay_13 16 = true := by decide +kernel
theorem tX3_nearestMay_16 : mdk MX3_nearestMay 16 (.invokevirtual 155) = true := by decide +kernel
theorem tX3_nearestMay_19 : mbk MX3_nearestMay 19 (.ifCond .eq 42) 61 = true := by decide +kernel
def bX3_nearestMay_22 : List mB := [(.iload_n 2, mI 0)]
theorem kX3_nearestMay_22 : mchk MX3_nearestMay 22 bX3_nearestMay_22 23 = true := by decide +kernel
theorem tX3_nearestMay_23 : mbk MX3_nearestMay 23 (.ifCond .lt 36) 59 = true := by decide +kernel
def bX3_nearestMay_26 : List mB := [(.aload_n 0, mI 0), (.getfield 16, mR 3 2), (.iload_n 1, mI 0), (.iaload, mI 0), (.aload_n 0, mI 0), (.getfield 16, mR 3 2), (.iload_n 3, mI 0), (.iaload, mI 0)]
theorem kX3_nearestMay_26 : mchk MX3_nearestMay 26 bX3_nearestMay_26 38 = true := by decide +kernel
theorem tX3_nearestMay_38 : mdk MX3_nearestMay 38 (.invokestatic 146) = true := by decide +kernel
def bX3_nearestMay_41 : List mB := [(.aload_n 0, mI 0), (.getfield 16, mR 3 2), (.iload_n 1, mI 0), (.iaload, mI 0), (.aload_n 0, mI 0), (.getfield 16, mR 3 2), (.iload_n 2, mI 0), (.iaload, mI 0)]
theorem kX3_nearestMay_41 : mchk MX3_nearestMay 41 bX3_nearestMay_41 53 = true := by decide +kernel
theorem tX3_nearestMay_53 : mdk MX3_nearestMay 53 (.invokestatic 146) = true := by decide +kernel
theorem tX3_nearestMay_56 : mbk MX3_nearestMay 56 (.if_icmp .ge 5) 61 = true := by decide +kernel
def bX3_nearestMay_59 : List mB := [(.iload_n 3, mI 0), (.istore_n 2, mI 0)]
theorem kX3_nearestMay_59 : mchk MX3_nearestMay 59 bX3_nearestMay_59 61 = true := by decide +kernel
def bX3_nearestMay_61 : List mB := [(.iinc 3 1, mI (nI 1))]
theorem kX3_nearestMay_61 : mchk MX3_nearestMay 61 bX3_nearestMay_61 64 = true := by decide +kernel
theorem tX3_nearestMay_64 : mbk MX3_nearestMay 64 (.goto (-59)) 5 = true := by decide +kernel
def bX3_nearestMay_67 : List mB := [(.iload_n 2, mI 0)]
theorem kX3_nearestMay_67 : mchk MX3_nearestMay 67 bX3_nearestMay_67 68 = true := by decide +kernel
theorem tX3_nearestMay_68 : mrk MX3_nearestMay 68 .ireturn = true := by decide +kernel
def bX3_free_0 : List mB := [(.aload_n 0, mI 0), (.getfield 22, mR 3 4), (.iload_n 2, mI 0), (.iconst 0, mI (nI 0)), (.iastore, mI 0), (.bipush 8, mI (nI 8)), (.iload_n 1, mI 0), (.imul, mI 0), (.iload_n 2, mI 0), (.iadd, mI 0), (.istore_n 3, mI 0), (.aload_n 0, mI 0), (.getfield 28, mR 3 6), (.iload_n 3, mI 0), (.aload_n 0, mI 0), (.getfield 28, mR 3 6), (.iload_n 3, mI 0), (.iaload, mI 0), (.bipush 99, mI (nI 99))]
theorem kX3_free_0 : mchk MX3_free 0 bX3_free_0 27 = true := by decide +kernel
theorem tX3_free_27 : mbk MX3_free 27 (.if_icmp .ge 14) 41 = true := by decide +kernel
def bX3_free_30 : List mB := [(.aload_n 0, mI 0), (.getfield 28, mR 3 6), (.iload_n 3, mI 0), (.iaload, mI 0), (.iconst 1, mI (nI 1)), (.iadd, mI 0)]
theorem kX3_free_30 : mchk MX3_free 30 bX3_free_30 38 = true := by decide +kernel
theorem tX3_free_38 : mbk MX3_free 38 (.goto 5) 43 = true := by decide +kernel
def bX3_free_41 : List mB := [(.bipush 99, mI (nI 99))]
theorem kX3_free_41 : mchk MX3_free 41 bX3_free_41 43 = true := by decide +kernel
def bX3_free_43 : List mB := [(.iastore, mI 0), (.aload_n 0, mI 0), (.dup, mI 0), (.getfield 158, mR 3 22), (.iconst 1, mI (nI 1)), (.iadd, mI 0), (.putfield 158, mR 3 22)]
theorem kX3_free_43 : mchk MX3_free 43 bX3_free_43 54 = true := by decide +kernel
theorem tX3_free_54 : mrk MX3_free 54 .return_ = true := by decide +kernel
def bX3_freesAll_0 : List mB := [(.aload_n 0, mI 0), (.iload_n 1, mI 0), (.iload_n 2, mI 0)]
theorem kX3_freesAll_0 : mchk MX3_freesAll 0 bX3_freesAll_0 3 = true := by decide +kernel
theorem tX3_freesAll_3 : mdk MX3_freesAll 3 (.invokevirtual 161) = true := by decide +kernel
def bX3_freesAll_6 : List mB := [(.iconst 0, mI (nI 0)), (.istore_n 3, mI 0)]
theorem kX3_freesAll_6 : mchk MX3_freesAll 6 bX3_freesAll_6 8 = true := by decide +kernel
def bX3_freesAll_8 : List mB := [(.iload_n 3, mI 0), (.aload_n 0, mI 0), (.getfield 60, mR 3 7)]
theorem kX3_freesAll_8 : mchk MX3_freesAll 8 bX3_freesAll_8 13 = true := by decide +kernel
theorem tX3_freesAll_13 : mbk MX3_freesAll 13 (.if_icmp .ge 57) 70 = true := by decide +kernel
def bX3_freesAll_16 : List mB := [(.aload_n 0, mI 0), (.getfield 112, mR 3 8), (.iconst 2, mI (nI 2))]
theorem kX3_freesAll_16 : mchk MX3_freesAll 16 bX3_freesAll_16 21 = true := by decide +kernel
theorem tX3_freesAll_21 : mbk MX3_freesAll 21 (.if_icmp .ne 49) 70 = true := by decide +kernel
def bX3_freesAll_24 : List mB := [(.iload_n 3, mI 0), (.iload_n 1, mI 0)]
theorem kX3_freesAll_24 : mchk MX3_freesAll 24 bX3_freesAll_24 26 = true := by decide +kernel
theorem tX3_freesAll_26 : mbk MX3_freesAll 26 (.if_icmp .eq 38) 64 = true := by decide +kernel
def bX3_freesAll_29 : List mB := [(.aload_n 0, mI 0), (.getfield 22, mR 3 4), (.iload_n 3, mI 0), (.iaload, mI 0), (.iconst 1, mI (nI 1))]
theorem kX3_freesAll_29 : mchk MX3_freesAll 29 bX3_freesAll_29 36 = true := by decide +kernel
theorem tX3_freesAll_36 : mbk MX3_freesAll 36 (.if_icmp .ne 28) 64 = true := by decide +kernel
def bX3_freesAll_39 : List mB := [(.aload_n 0, mI 0), (.getfield 16, mR 3 2), (.iload_n 1, mI 0), (.iaload, mI 0), (.aload_n 0, mI 0), (.getfield 16, mR 3 2), (.iload_n 3, mI 0), (.iaload, mI 0)]
theorem kX3_freesAll_39 : mchk MX3_freesAll 39 bX3_freesAll_39 51 = true := by decide +kernel
theorem tX3_freesAll_51 : mdk MX3_freesAll 51 (.invokestatic 146) = true := by decide +kernel
def bX3_freesAll_54 : List mB := [(.iconst 2, mI (nI 2))]
theorem kX3_freesAll_54 : mchk MX3_freesAll 54 bX3_freesAll_54 55 = true := by decide +kernel
theorem tX3_freesAll_55 : mbk MX3_freesAll 55 (.if_icmp .ge 9) 64 = true := by decide +kernel
def bX3_freesAll_58 : List mB := [(.aload_n 0, mI 0), (.iload_n 1, mI 0), (.iload_n 3, mI 0)]
theorem kX3_freesAll_58 : mchk MX3_freesAll 58 bX3_freesAll_58 61 = true := by decide +kernel
theorem tX3_freesAll_61 : mdk MX3_freesAll 61 (.invokevirtual 161) = true := by decide +kernel
def bX3_freesAll_64 : List mB := [(.iinc 3 1, mI (nI 1))]
theorem kX3_freesAll_64 : mchk MX3_freesAll 64 bX3_freesAll_64 67 = true := by decide +kernel
theorem tX3_freesAll_67 : mbk MX3_freesAll 67 (.goto (-59)) 8 = true := by decide +kernel
theorem tX3_freesAll_70 : mrk MX3_freesAll 70 .return_ = true := by decide +kernel
def bX3_runsTo_0 : List mB := [(.aload_n 0, mI 0), (.getfield 13, mR 3 1), (.iload_n 1, mI 0), (.iaload, mI 0), (.iconst 3, mI (nI 3))]
theorem kX3_runsTo_0 : mchk MX3_runsTo 0 bX3_runsTo_0 7 = true := by decide +kernel
theorem tX3_runsTo_7 : mbk MX3_runsTo 7 (.if_icmp .ne 49) 56 = true := by decide +kernel
def bX3_runsTo_10 : List mB := [(.aload_n 0, mI 0), (.getfield 16, mR 3 2), (.iload_n 1, mI 0), (.iaload, mI 0)]
theorem kX3_runsTo_10 : mchk MX3_runsTo 10 bX3_runsTo_10 16 = true := by decide +kernel
theorem tX3_runsTo_16 : mdk MX3_runsTo 16 (.invokestatic 165) = true := by decide +kernel
theorem tX3_runsTo_19 : mbk MX3_runsTo 19 (.ifCond .eq 26) 45 = true := by decide +kernel
def bX3_runsTo_22 : List mB := [(.aload_n 0, mI 0), (.aload_n 0, mI 0), (.getfield 16, mR 3 2), (.iload_n 1, mI 0), (.iaload, mI 0)]
theorem kX3_runsTo_22 : mchk MX3_runsTo 22 bX3_runsTo_22 29 = true := by decide +kernel
theorem tX3_runsTo_29 : mdk MX3_runsTo 29 (.invokevirtual 152) = true := by decide +kernel
def bX3_runsTo_32 : List mB := [(.iconst 1, mI (nI 1))]
theorem kX3_runsTo_32 : mchk MX3_runsTo 32 bX3_runsTo_32 33 = true := by decide +kernel
theorem tX3_runsTo_33 : mbk MX3_runsTo 33 (.if_icmp .le 12) 45 = true := by decide +kernel
def bX3_runsTo_36 : List mB := [(.aload_n 0, mI 0), (.getfield 16, mR 3 2), (.iload_n 1, mI 0), (.iaload, mI 0)]
theorem kX3_runsTo_36 : mchk MX3_runsTo 36 bX3_runsTo_36 42 = true := by decide +kernel
theorem tX3_runsTo_42 : mbk MX3_runsTo 42 (.goto 13) 55 = true := by decide +kernel
def bX3_runsTo_45 : List mB := [(.aload_n 0, mI 0), (.aload_n 0, mI 0), (.getfield 16, mR 3 2), (.iload_n 1, mI 0), (.iaload, mI 0)]
theorem kX3_runsTo_45 : mchk MX3_runsTo 45 bX3_runsTo_45 52 = true := by decide +kernel
theorem tX3_runsTo_52 : mdk MX3_runsTo 52 (.invokevirtual 168) = true := by decide +kernel
theorem tX3_runsTo_55 : mrk MX3_runsTo 55 .ireturn = true := by decide +kernel
def bX3_runsTo_56 : List mB := [(.aload_n 0, mI 0), (.iload_n 1, mI 0)]
theorem kX3_runsTo_56 : mchk MX3_runsTo 56 bX3_runsTo_56 58 = true := by decide +kernel
theorem tX3_runsTo_58 : mdk MX3_runsTo 58 (.invokevirtual 171) = true := by decide +kernel
def bX3_runsTo_61 : List mB := [(.istore_n 2, mI 0), (.iload_n 2, mI 0)]
theorem kX3_runsTo_61 : mchk MX3_runsTo 61 bX3_runsTo_61 63 = true := by decide +kernel
theorem tX3_runsTo_63 : mbk MX3_runsTo 63 (.ifCond .lt 16) 79 = true := by decide +kernel
def bX3_runsTo_66 : List mB := [(.aload_n 0, mI 0), (.iload_n 1, mI 0), (.iload_n 2, mI 0)]
theorem kX3_runsTo_66 : mchk MX3_runsTo 66 bX3_runsTo_66 69 = true := by decide +kernel
theorem tX3_runsTo_69 : mdk MX3_runsTo 69 (.invokevirtual 174) = true := by decide +kernel
def bX3_runsTo_72 : List mB := [(.aload_n 0, mI 0), (.getfield 16, mR 3 2), (.iload_n 1, mI 0), (.iaload, mI 0)]
theorem kX3_runsTo_72 : mchk MX3_runsTo 72 bX3_runsTo_72 78 = true := by decide +kernel
theorem tX3_runsTo_78 : mrk MX3_runsTo 78 .ireturn = true := by decide +kernel
def bX3_runsTo_79 : List mB := [(.aload_n 0, mI 0), (.iload_n 1, mI 0)]
theorem kX3_runsTo_79 : mchk MX3_runsTo 79 bX3_runsTo_79 81 = true := by decide +kernel
theorem tX3_runsTo_81 : mdk MX3_runsTo 81 (.invokevirtual 177) = true := by decide +kernel
def bX3_runsTo_84 : List mB := [(.istore_n 3, mI 0), (.iload_n 3, mI 0)]
theorem kX3_runsTo_84 : mchk MX3_runsTo 84 bX3_runsTo_84 86 = true := by decide +kernel
theorem tX3_runsTo_86 : mbk MX3_runsTo 86 (.ifCond .lt 35) 121 = true := by decide +kernel
def bX3_runsTo_89 : List mB := [(.aload_n 0, mI 0), (.aload_n 0, mI 0), (.getfield 16, mR 3 2), (.iload_n 1, mI 0), (.iaload, mI 0)]
theorem kX3_runsTo_89 : mchk MX3_runsTo 89 bX3_runsTo_89 96 = true := by decide +kernel
theorem tX3_runsTo_96 : mdk MX3_runsTo 96 (.invokevirtual 152) = true := by decide +kernel
def bX3_runsTo_99 : List mB := [(.iconst 1, mI (nI 1))]
theorem kX3_runsTo_99 : mchk MX3_runsTo 99 bX3_runsTo_99 100 = true := by decide +kernel
theorem tX3_runsTo_100 : mbk MX3_runsTo 100 (.if_icmp .le 21) 121 = true := by decide +kernel
def bX3_runsTo_103 : List mB := [(.aload_n 0, mI 0), (.getfield 16, mR 3 2), (.iload_n 1, mI 0), (.iaload, mI 0), (.aload_n 0, mI 0), (.getfield 16, mR 3 2), (.iload_n 3, mI 0), (.iaload, mI 0)]
theorem kX3_runsTo_103 : mchk MX3_runsTo 103 bX3_runsTo_103 115 = true := by decide +kernel
theorem tX3_runsTo_115 : mdk MX3_runsTo 115 (.invokestatic 180) = true := by decide +kernel
theorem tX3_runsTo_118 : mbk MX3_runsTo 118 (.goto 13) 131 = true := by decide +kernel
def bX3_runsTo_121 : List mB := [(.aload_n 0, mI 0), (.aload_n 0, mI 0), (.getfield 16, mR 3 2), (.iload_n 1, mI 0), (.iaload, mI 0)]
theorem kX3_runsTo_121 : mchk MX3_runsTo 121 bX3_runsTo_121 128 = true := by decide +kernel
theorem tX3_runsTo_128 : mdk MX3_runsTo 128 (.invokevirtual 168) = true := by decide +kernel
theorem tX3_runsTo_131 : mrk MX3_runsTo 131 .ireturn = true := by decide +kernel
def bX3_isRunner_0 : List mB := [(.aload_n 0, mI 0), (.iload_n 1, mI 0)]
theorem kX3_isRunner_0 : mchk MX3_isRunner 0 bX3_isRunner_0 2 = true := by decide +kernel
theorem tX3_isRunner_2 : mdk MX3_isRunner 2 (.invokevirtual 109) = true := by decide +kernel
theorem tX3_isRunner_5 : mbk MX3_isRunner 5 (.ifCond .ne 16) 21 = true := by decide +kernel
def bX3_isRunner_8 : List mB := [(.aload_n 0, mI 0), (.getfield 22, mR 3 4), (.iload_n 1, mI 0), (.iaload, mI 0)]
theorem kX3_isRunner_8 : mchk MX3_isRunner 8 bX3_isRunner_8 14 = true := by decide +kernel
theorem tX3_isRunner_14 : mbk MX3_isRunner 14 (.ifCond .ne 7) 21 = true := by decide +kernel
def bX3_isRunner_17 : List mB := [(.iconst 1, mI (nI 1))]
theorem kX3_isRunner_17 : mchk MX3_isRunner 17 bX3_isRunner_17 18 = true := by decide +kernel
theorem tX3_isRunner_18 : mbk MX3_isRunner 18 (.goto 4) 22 = true := by decide +kernel
def bX3_isRunner_21 : List mB := [(.iconst 0, mI (nI 0))]
theorem kX3_isRunner_21 : mchk MX3_isRunner 21 bX3_isRunner_21 22 = true := by decide +kernel
theorem tX3_isRunner_22 : mrk MX3_isRunner 22 .ireturn = true := by decide +kernel
def bX3_touches_0 : List mB := [(.iconst 0, mI (nI 0)), (.istore_n 2, mI 0)]
theorem kX3_touches_0 : mchk MX3_touches 0 bX3_touches_0 2 = true := by decide +kernel
def bX3_touches_2 : List mB := [(.iload_n 2, mI 0), (.aload_n 0, mI 0), (.getfield 60, mR 3 7)]
theorem kX3_touches_2 : mchk MX3_touches 2 bX3_touches_2 7 = true := by decide +kernel
theorem tX3_touches_7 : mbk MX3_touches 7 (.if_icmp .ge 76) 83 = true := by decide +kernel
def bX3_touches_10 : List mB := [(.aload_n 0, mI 0), (.iload_n 2, mI 0)]
theorem kX3_touches_10 : mchk MX3_touches 10 bX3_touches_10 12 = true := by decide +kernel
theorem tX3_touches_12 : mdk MX3_touches 12 (.invokevirtual 183) = true := by decide +kernel
theorem tX3_touches_15 : mbk MX3_touches 15 (.ifCond .eq 62) 77 = true := by decide +kernel
def bX3_touches_18 : List mB := [(.iload_n 2, mI 0), (.aload_n 0, mI 0), (.getfield 46, mR 3 21)]
theorem kX3_touches_18 : mchk MX3_touches 18 bX3_touches_18 23 = true := by decide +kernel
theorem tX3_touches_23 : mbk MX3_touches 23 (.if_icmp .eq 54) 77 = true := by decide +kernel
def bX3_touches_26 : List mB := [(.aload_n 0, mI 0), (.getfield 16, mR 3 2), (.iload_n 1, mI 0), (.iaload, mI 0), (.aload_n 0, mI 0), (.getfield 16, mR 3 2), (.iload_n 2, mI 0), (.iaload, mI 0)]
theorem kX3_touches_26 : mchk MX3_touches 26 bX3_touches_26 38 = true := by decide +kernel
theorem tX3_touches_38 : mdk MX3_touches 38 (.invokestatic 146) = true := by decide +kernel
def bX3_touches_41 : List mB := [(.iconst 1, mI (nI 1))]
theorem kX3_touches_41 : mchk MX3_touches 41 bX3_touches_41 42 = true := by decide +kernel
theorem tX3_touches_42 : mbk MX3_touches 42 (.if_icmp .gt 35) 77 = true := by decide +kernel
def bX3_touches_45 : List mB := [(.aload_n 0, mI 0), (.getfield 112, mR 3 8), (.iconst 1, mI (nI 1))]
theorem kX3_touches_45 : mchk MX3_touches 45 bX3_touches_45 50 = true := by decide +kernel
theorem tX3_touches_50 : mbk MX3_touches 50 (.if_icmp .ne 18) 68 = true := by decide +kernel
def bX3_touches_53 : List mB := [(.aload_n 0, mI 0), (.getfield 16, mR 3 2), (.iload_n 2, mI 0), (.iaload, mI 0)]
theorem kX3_touches_53 : mchk MX3_touches 53 bX3_touches_53 59 = true := by decide +kernel
theorem tX3_touches_59 : mdk MX3_touches 59 (.invokestatic 165) = true := by decide +kernel
theorem tX3_touches_62 : mbk MX3_touches 62 (.ifCond .eq 6) 68 = true := by decide +kernel
theorem tX3_touches_65 : mbk MX3_touches 65 (.goto 12) 77 = true := by decide +kernel
def bX3_touches_68 : List mB := [(.aload_n 0, mI 0), (.getfield 22, mR 3 4), (.iload_n 2, mI 0), (.iconst 1, mI (nI 1)), (.iastore, mI 0), (.iconst 1, mI (nI 1))]
theorem kX3_touches_68 : mchk MX3_touches 68 bX3_touches_68 76 = true := by decide +kernel
theorem tX3_touches_76 : mrk MX3_touches 76 .ireturn = true := by decide +kernel
def bX3_touches_77 : List mB := [(.iinc 2 1, mI (nI 1))]
theorem kX3_touches_77 : mchk MX3_touches 77 bX3_touches_77 80 = true := by decide +kernel
theorem tX3_touches_80 : mbk MX3_touches 80 (.goto (-78)) 2 = true := by decide +kernel
def bX3_touches_83 : List mB := [(.iconst 0, mI (nI 0))]
theorem kX3_touches_83 : mchk MX3_touches 83 bX3_touches_83 84 = true := by decide +kernel
theorem tX3_touches_84 : mrk MX3_touches 84 .ireturn = true := by decide +kernel
def bX3_nearest_0 : List mB := [(.bipush (-9), mI (-9)), (.istore_n 3, mI 0), (.iconst 0, mI (nI 0)), (.istore 4, mI 0)]
theorem kX3_nearest_0 : mchk MX3_nearest 0 bX3_nearest_0 6 = true := by decide +kernel
def bX3_nearest_6 : List mB := [(.iload 4, mI 0), (.aload_n 0, mI 0), (.getfield 60, mR 3 7)]
theorem kX3_nearest_6 : mchk MX3_nearest 6 bX3_nearest_6 12 = true := by decide +kernel
theorem tX3_nearest_12 : mbk MX3_nearest 12 (.if_icmp .ge 73) 85 = true := by decide +kernel
def bX3_nearest_15 : List mB := [(.aload_n 0, mI 0), (.iload 4, mI 0)]
theorem kX3_nearest_15 : mchk MX3_nearest 15 bX3_nearest_15 18 = true := by decide +kernel
theorem tX3_nearest_18 : mdk MX3_nearest 18 (.invokevirtual 109) = true := by decide +kernel
theorem tX3_nearest_21 : mbk MX3_nearest 21 (.ifCond .ne 58) 79 = true := by decide +kernel
def bX3_nearest_24 : List mB := [(.aload_n 0, mI 0), (.getfield 22, mR 3 4), (.iload 4, mI 0), (.iaload, mI 0), (.iload_n 2, mI 0)]
theorem kX3_nearest_24 : mchk MX3_nearest 24 bX3_nearest_24 32 = true := by decide +kernel
theorem tX3_nearest_32 : mbk MX3_nearest 32 (.if_icmp .eq 6) 38 = true := by decide +kernel
theorem tX3_nearest_35 : mbk MX3_nearest 35 (.goto 44) 79 = true := by decide +kernel
def bX3_nearest_38 : List mB := [(.iload_n 3, mI 0)]
theorem kX3_nearest_38 : mchk MX3_nearest 38 bX3_nearest_38 39 = true := by decide +kernel
theorem tX3_nearest_39 : mbk MX3_nearest 39 (.ifCond .lt 37) 76 = true := by decide +kernel
def bX3_nearest_42 : List mB := [(.aload_n 0, mI 0), (.getfield 16, mR 3 2), (.iload_n 1, mI 0), (.iaload, mI 0), (.aload_n 0, mI 0), (.getfield 16, mR 3 2), (.iload 4, mI 0), (.iaload, mI 0)]
theorem kX3_nearest_42 : mchk MX3_nearest 42 bX3_nearest_42 55 = true := by decide +kernel
theorem tX3_nearest_55 : mdk MX3_nearest 55 (.invokestatic 146) = true := by decide +kernel
def bX3_nearest_58 : List mB := [(.aload_n 0, mI 0), (.getfield 16, mR 3 2), (.iload_n 1, mI 0), (.iaload, mI 0), (.aload_n 0, mI 0), (.getfield 16, mR 3 2), (.iload_n 3, mI 0), (.iaload, mI 0)]
theorem kX3_nearest_58 : mchk MX3_nearest 58 bX3_nearest_58 70 = true := by decide +kernel
theorem tX3_nearest_70 : mdk MX3_nearest 70 (.invokestatic 146) = true := by decide +kernel
theorem tX3_nearest_73 : mbk MX3_nearest 73 (.if_icmp .ge 6) 79 = true := by decide +kernel
def bX3_nearest_76 : List mB := [(.iload 4, mI 0), (.istore_n 3, mI 0)]
theorem kX3_nearest_76 : mchk MX3_nearest 76 bX3_nearest_76 79 = true := by decide +kernel
def bX3_nearest_79 : List mB := [(.iinc 4 1, mI (nI 1))]
theorem kX3_nearest_79 : mchk MX3_nearest 79 bX3_nearest_79 82 = true := by decide +kernel
theorem tX3_nearest_82 : mbk MX3_nearest 82 (.goto (-76)) 6 = true := by decide +kernel
def bX3_nearest_85 : List mB := [(.iload_n 3, mI 0)]
theorem kX3_nearest_85 : mchk MX3_nearest 85 bX3_nearest_85 86 = true := by decide +kernel
theorem tX3_nearest_86 : mrk MX3_nearest 86 .ireturn = true := by decide +kernel
def bX3_hunts_0 : List mB := [(.aload_n 0, mI 0), (.iload_n 1, mI 0), (.iconst 0, mI (nI 0))]
theorem kX3_hunts_0 : mchk MX3_hunts 0 bX3_hunts_0 3 = true := by decide +kernel
theorem tX3_hunts_3 : mdk MX3_hunts 3 (.invokevirtual 186) = true := by decide +kernel
def bX3_hunts_6 : List mB := [(.istore_n 2, mI 0), (.iload_n 2, mI 0)]
theorem kX3_hunts_6 : mchk MX3_hunts 6 bX3_hunts_6 8 = true := by decide +kernel
theorem tX3_hunts_8 : mbk MX3_hunts 8 (.ifCond .ge 12) 20 = true := by decide +kernel
def bX3_hunts_11 : List mB := [(.aload_n 0, mI 0), (.getfield 16, mR 3 2), (.iload_n 1, mI 0), (.iaload, mI 0)]
theorem kX3_hunts_11 : mchk MX3_hunts 11 bX3_hunts_11 17 = true := by decide +kernel
theorem tX3_hunts_17 : mbk MX3_hunts 17 (.goto 18) 35 = true := by decide +kernel
def bX3_hunts_20 : List mB := [(.aload_n 0, mI 0), (.getfield 16, mR 3 2), (.iload_n 1, mI 0), (.iaload, mI 0), (.aload_n 0, mI 0), (.getfield 16, mR 3 2), (.iload_n 2, mI 0), (.iaload, mI 0)]
theorem kX3_hunts_20 : mchk MX3_hunts 20 bX3_hunts_20 32 = true := by decide +kernel
theorem tX3_hunts_32 : mdk MX3_hunts 32 (.invokestatic 180) = true := by decide +kernel
theorem tX3_hunts_35 : mrk MX3_hunts 35 .ireturn = true := by decide +kernel
def bX3_catches_0 : List mB := [(.aload_n 0, mI 0), (.getfield 13, mR 3 1), (.iload_n 1, mI 0), (.iaload, mI 0), (.bipush 7, mI (nI 7))]
theorem kX3_catches_0 : mchk MX3_catches 0 bX3_catches_0 8 = true := by decide +kernel
theorem tX3_catches_8 : mbk MX3_catches 8 (.if_icmp .ne 12) 20 = true := by decide +kernel
def bX3_catches_11 : List mB := [(.aload_n 0, mI 0), (.getfield 140, mR 3 9), (.iconst 3, mI (nI 3)), (.irem, mI 0)]
theorem kX3_catches_11 : mchk MX3_catches 11 bX3_catches_11 17 = true := by decide +kernel
theorem tX3_catches_17 : mbk MX3_catches 17 (.ifCond .eq 11) 28 = true := by decide +kernel
def bX3_catches_20 : List mB := [(.aload_n 0, mI 0), (.iload_n 1, mI 0)]
theorem kX3_catches_20 : mchk MX3_catches 20 bX3_catches_20 22 = true := by decide +kernel
theorem tX3_catches_22 : mdk MX3_catches 22 (.invokevirtual 189) = true := by decide +kernel
theorem tX3_catches_25 : mbk MX3_catches 25 (.ifCond .eq 4) 29 = true := by decide +kernel
theorem tX3_catches_28 : mrk MX3_catches 28 .return_ = true := by decide +kernel
def bX3_catches_29 : List mB := [(.aload_n 0, mI 0), (.iload_n 1, mI 0), (.iconst 1, mI (nI 1))]
theorem kX3_catches_29 : mchk MX3_catches 29 bX3_catches_29 32 = true := by decide +kernel
theorem tX3_catches_32 : mdk MX3_catches 32 (.invokevirtual 186) = true := by decide +kernel
def bX3_catches_35 : List mB := [(.istore_n 2, mI 0), (.iload_n 2, mI 0)]
theorem kX3_catches_35 : mchk MX3_catches 35 bX3_catches_35 37 = true := by decide +kernel
theorem tX3_catches_37 : mbk MX3_catches 37 (.ifCond .lt 24) 61 = true := by decide +kernel
def bX3_catches_40 : List mB := [(.aload_n 0, mI 0), (.getfield 13, mR 3 1), (.iload_n 1, mI 0), (.iaload, mI 0), (.iconst 4, mI (nI 4))]
theorem kX3_catches_40 : mchk MX3_catches 40 bX3_catches_40 47 = true := by decide +kernel
theorem tX3_catches_47 : mbk MX3_catches 47 (.if_icmp .eq 14) 61 = true := by decide +kernel
def bX3_catches_50 : List mB := [(.aload_n 0, mI 0), (.getfield 13, mR 3 1), (.iload_n 1, mI 0), (.iaload, mI 0), (.bipush 7, mI (nI 7))]
theorem kX3_catches_50 : mchk MX3_catches 50 bX3_catches_50 58 = true := by decide +kernel
theorem tX3_catches_58 : mbk MX3_catches 58 (.if_icmp .ne 15) 73 = true := by decide +kernel
def bX3_catches_61 : List mB := [(.aload_n 0, mI 0), (.getfield 16, mR 3 2), (.iload_n 1, mI 0), (.aload_n 0, mI 0), (.iload_n 1, mI 0)]
theorem kX3_catches_61 : mchk MX3_catches 61 bX3_catches_61 68 = true := by decide +kernel
theorem tX3_catches_68 : mdk MX3_catches 68 (.invokevirtual 192) = true := by decide +kernel
def bX3_catches_71 : List mB := [(.iastore, mI 0)]
theorem kX3_catches_71 : mchk MX3_catches 71 bX3_catches_71 72 = true := by decide +kernel
theorem tX3_catches_72 : mrk MX3_catches 72 .return_ = true := by decide +kernel
def bX3_catches_73 : List mB := [(.aload_n 0, mI 0), (.getfield 13, mR 3 1), (.iload_n 1, mI 0), (.iaload, mI 0), (.iconst 5, mI (nI 5))]
theorem kX3_catches_73 : mchk MX3_catches 73 bX3_catches_73 80 = true := by decide +kernel
theorem tX3_catches_80 : mbk MX3_catches 80 (.if_icmp .ne 43) 123 = true := by decide +kernel
def bX3_catches_83 : List mB := [(.aload_n 0, mI 0), (.getfield 16, mR 3 2), (.iload_n 1, mI 0), (.iaload, mI 0), (.aload_n 0, mI 0), (.getfield 16, mR 3 2), (.iload_n 2, mI 0), (.iaload, mI 0)]
theorem kX3_catches_83 : mchk MX3_catches 83 bX3_catches_83 95 = true := by decide +kernel
theorem tX3_catches_95 : mdk MX3_catches 95 (.invokestatic 146) = true := by decide +kernel
def bX3_catches_98 : List mB := [(.iconst 1, mI (nI 1))]
theorem kX3_catches_98 : mchk MX3_catches 98 bX3_catches_98 99 = true := by decide +kernel
theorem tX3_catches_99 : mbk MX3_catches 99 (.if_icmp .le 24) 123 = true := by decide +kernel
def bX3_catches_102 : List mB := [(.aload_n 0, mI 0), (.getfield 16, mR 3 2), (.iload_n 1, mI 0), (.aload_n 0, mI 0), (.getfield 16, mR 3 2), (.iload_n 1, mI 0), (.iaload, mI 0), (.aload_n 0, mI 0), (.getfield 16, mR 3 2), (.iload_n 2, mI 0), (.iaload, mI 0)]
theorem kX3_catches_102 : mchk MX3_catches 102 bX3_catches_102 119 = true := by decide +kernel
theorem tX3_catches_119 : mdk MX3_catches 119 (.invokestatic 180) = true := by decide +kernel
def bX3_catches_122 : List mB := [(.iastore, mI 0)]
theorem kX3_catches_122 : mchk MX3_catches 122 bX3_catches_122 123 = true := by decide +kernel
theorem tX3_catches_123 : mrk MX3_catches 123 .return_ = true := by decide +kernel
def bX3_less_0 : List mB := [(.iload_n 0, mI 0)]
theorem kX3_less_0 : mchk MX3_less 0 bX3_less_0 1 = true := by decide +kernel
theorem tX3_less_1 : mbk MX3_less 1 (.ifCond .le 9) 10 = true := by decide +kernel
def bX3_less_4 : List mB := [(.iload_n 0, mI 0), (.iconst 1, mI (nI 1)), (.isub, mI 0)]
theorem kX3_less_4 : mchk MX3_less 4 bX3_less_4 7 = true := by decide +kernel
theorem tX3_less_7 : mbk MX3_less 7 (.goto 4) 11 = true := by decide +kernel
def bX3_less_10 : List mB := [(.iconst 0, mI (nI 0))]
theorem kX3_less_10 : mchk MX3_less 10 bX3_less_10 11 = true := by decide +kernel
theorem tX3_less_11 : mrk MX3_less 11 .ireturn = true := by decide +kernel
def bX3_goesOn_0 : List mB := [(.aload_n 0, mI 0), (.iload_n 1, mI 0)]
theorem kX3_goesOn_0 : mchk MX3_goesOn 0 bX3_goesOn_0 2 = true := by decide +kernel
theorem tX3_goesOn_2 : mdk MX3_goesOn 2 (.invokevirtual 109) = true := by decide +kernel
theorem tX3_goesOn_5 : mbk MX3_goesOn 5 (.ifCond .eq 9) 14 = true := by decide +kernel
def bX3_goesOn_8 : List mB := [(.aload_n 0, mI 0), (.iload_n 1, mI 0)]
theorem kX3_goesOn_8 : mchk MX3_goesOn 8 bX3_goesOn_8 10 = true := by decide +kernel
theorem tX3_goesOn_10 : mdk MX3_goesOn 10 (.invokevirtual 195) = true := by decide +kernel
theorem tX3_goesOn_13 : mrk MX3_goesOn 13 .return_ = true := by decide +kernel
def bX3_goesOn_14 : List mB := [(.aload_n 0, mI 0), (.getfield 22, mR 3 4), (.iload_n 1, mI 0), (.iaload, mI 0), (.iconst 1, mI (nI 1))]
theorem kX3_goesOn_14 : mchk MX3_goesOn 14 bX3_goesOn_14 21 = true := by decide +kernel
theorem tX3_goesOn_21 : mbk MX3_goesOn 21 (.if_icmp .eq 11) 32 = true := by decide +kernel
def bX3_goesOn_24 : List mB := [(.iload_n 1, mI 0), (.aload_n 0, mI 0), (.getfield 46, mR 3 21)]
theorem kX3_goesOn_24 : mchk MX3_goesOn 24 bX3_goesOn_24 29 = true := by decide +kernel
theorem tX3_goesOn_29 : mbk MX3_goesOn 29 (.if_icmp .ne 19) 48 = true := by decide +kernel
def bX3_goesOn_32 : List mB := [(.aload_n 0, mI 0), (.getfield 25, mR 3 5), (.iload_n 1, mI 0), (.aload_n 0, mI 0), (.getfield 25, mR 3 5), (.iload_n 1, mI 0), (.iaload, mI 0)]
theorem kX3_goesOn_32 : mchk MX3_goesOn 32 bX3_goesOn_32 43 = true := by decide +kernel
theorem tX3_goesOn_43 : mdk MX3_goesOn 43 (.invokestatic 199) = true := by decide +kernel
def bX3_goesOn_46 : List mB := [(.iastore, mI 0)]
theorem kX3_goesOn_46 : mchk MX3_goesOn 46 bX3_goesOn_46 47 = true := by decide +kernel
theorem tX3_goesOn_47 : mrk MX3_goesOn 47 .return_ = true := by decide +kernel
def bX3_goesOn_48 : List mB := [(.aload_n 0, mI 0), (.getfield 25, mR 3 5), (.iload_n 1, mI 0), (.iaload, mI 0), (.bipush 9, mI (nI 9))]
theorem kX3_goesOn_48 : mchk MX3_goesOn 48 bX3_goesOn_48 56 = true := by decide +kernel
theorem tX3_goesOn_56 : mbk MX3_goesOn 56 (.if_icmp .ne 11) 67 = true := by decide +kernel
def bX3_goesOn_59 : List mB := [(.aload_n 0, mI 0), (.getfield 25, mR 3 5), (.iload_n 1, mI 0), (.iconst 0, mI (nI 0)), (.iastore, mI 0)]
theorem kX3_goesOn_59 : mchk MX3_goesOn 59 bX3_goesOn_59 66 = true := by decide +kernel
theorem tX3_goesOn_66 : mrk MX3_goesOn 66 .return_ = true := by decide +kernel
def bX3_goesOn_67 : List mB := [(.aload_n 0, mI 0), (.iload_n 1, mI 0)]
theorem kX3_goesOn_67 : mchk MX3_goesOn 67 bX3_goesOn_67 69 = true := by decide +kernel
theorem tX3_goesOn_69 : mdk MX3_goesOn 69 (.invokevirtual 202) = true := by decide +kernel
def bX3_goesOn_72 : List mB := [(.istore_n 2, mI 0), (.aload_n 0, mI 0), (.getfield 25, mR 3 5), (.iload_n 1, mI 0), (.iload_n 2, mI 0), (.aload_n 0, mI 0), (.getfield 16, mR 3 2), (.iload_n 1, mI 0), (.iaload, mI 0)]
theorem kX3_goesOn_72 : mchk MX3_goesOn 72 bX3_goesOn_72 85 = true := by decide +kernel
theorem tX3_goesOn_85 : mbk MX3_goesOn 85 (.if_icmp .ne 15) 100 = true := by decide +kernel
def bX3_goesOn_88 : List mB := [(.aload_n 0, mI 0), (.getfield 25, mR 3 5), (.iload_n 1, mI 0), (.iaload, mI 0)]
theorem kX3_goesOn_88 : mchk MX3_goesOn 88 bX3_goesOn_88 94 = true := by decide +kernel
theorem tX3_goesOn_94 : mdk MX3_goesOn 94 (.invokestatic 199) = true := by decide +kernel
theorem tX3_goesOn_97 : mbk MX3_goesOn 97 (.goto 11) 108 = true := by decide +kernel
def bX3_goesOn_100 : List mB := [(.aload_n 0, mI 0), (.getfield 25, mR 3 5), (.iload_n 1, mI 0), (.iaload, mI 0), (.iconst 1, mI (nI 1)), (.iadd, mI 0)]
theorem kX3_goesOn_100 : mchk MX3_goesOn 100 bX3_goesOn_100 108 = true := by decide +kernel
def bX3_goesOn_108 : List mB := [(.iastore, mI 0), (.aload_n 0, mI 0), (.getfield 16, mR 3 2), (.iload_n 1, mI 0), (.iload_n 2, mI 0), (.iastore, mI 0)]
theorem kX3_goesOn_108 : mchk MX3_goesOn 108 bX3_goesOn_108 116 = true := by decide +kernel
theorem tX3_goesOn_116 : mrk MX3_goesOn 116 .return_ = true := by decide +kernel
def bX3_goes_0 : List mB := [(.iconst 0, mI (nI 0)), (.istore_n 1, mI 0)]
theorem kX3_goes_0 : mchk MX3_goes 0 bX3_goes_0 2 = true := by decide +kernel
def bX3_goes_2 : List mB := [(.iload_n 1, mI 0), (.aload_n 0, mI 0), (.getfield 60, mR 3 7)]
theorem kX3_goes_2 : mchk MX3_goes 2 bX3_goes_2 7 = true := by decide +kernel
theorem tX3_goes_7 : mbk MX3_goes 7 (.if_icmp .ge 34) 41 = true := by decide +kernel
def bX3_goes_10 : List mB := [(.aload_n 0, mI 0), (.getfield 112, mR 3 8), (.iconst 3, mI (nI 3))]
theorem kX3_goes_10 : mchk MX3_goes 10 bX3_goes_10 15 = true := by decide +kernel
theorem tX3_goes_15 : mbk MX3_goes 15 (.if_icmp .ne 26) 41 = true := by decide +kernel
def bX3_goes_18 : List mB := [(.aload_n 0, mI 0), (.getfield 140, mR 3 9), (.bipush 10, mI (nI 10)), (.irem, mI 0)]
theorem kX3_goes_18 : mchk MX3_goes 18 bX3_goes_18 25 = true := by decide +kernel
theorem tX3_goes_25 : mbk MX3_goes 25 (.ifCond .ne 16) 41 = true := by decide +kernel
def bX3_goes_28 : List mB := [(.aload_n 0, mI 0), (.getfield 22, mR 3 4), (.iload_n 1, mI 0), (.iconst 0, mI (nI 0)), (.iastore, mI 0), (.iinc 1 1, mI (nI 1))]
theorem kX3_goes_28 : mchk MX3_goes 28 bX3_goes_28 38 = true := by decide +kernel
theorem tX3_goes_38 : mbk MX3_goes 38 (.goto (-36)) 2 = true := by decide +kernel
def bX3_goes_41 : List mB := [(.iconst 0, mI (nI 0)), (.istore_n 1, mI 0)]
theorem kX3_goes_41 : mchk MX3_goes 41 bX3_goes_41 43 = true := by decide +kernel
def bX3_goes_43 : List mB := [(.iload_n 1, mI 0), (.aload_n 0, mI 0), (.getfield 60, mR 3 7)]
theorem kX3_goes_43 : mchk MX3_goes 43 bX3_goes_43 48 = true := by decide +kernel
theorem tX3_goes_48 : mbk MX3_goes 48 (.if_icmp .ge 14) 62 = true := by decide +kernel
def bX3_goes_51 : List mB := [(.aload_n 0, mI 0), (.iload_n 1, mI 0)]
theorem kX3_goes_51 : mchk MX3_goes 51 bX3_goes_51 53 = true := by decide +kernel
theorem tX3_goes_53 : mdk MX3_goes 53 (.invokevirtual 205) = true := by decide +kernel
def bX3_goes_56 : List mB := [(.iinc 1 1, mI (nI 1))]
theorem kX3_goes_56 : mchk MX3_goes 56 bX3_goes_56 59 = true := by decide +kernel
theorem tX3_goes_59 : mbk MX3_goes 59 (.goto (-16)) 43 = true := by decide +kernel
def bX3_goes_62 : List mB := [(.aload_n 0, mI 0), (.dup, mI 0), (.getfield 140, mR 3 9), (.iconst 1, mI (nI 1)), (.iadd, mI 0), (.putfield 140, mR 3 9)]
theorem kX3_goes_62 : mchk MX3_goes 62 bX3_goes_62 72 = true := by decide +kernel
theorem tX3_goes_72 : mrk MX3_goes 72 .return_ = true := by decide +kernel
def bX3_standBits_0 : List mB := [(.iconst 0, mI (nI 0)), (.istore_n 1, mI 0), (.iconst 0, mI (nI 0)), (.istore_n 2, mI 0)]
theorem kX3_standBits_0 : mchk MX3_standBits 0 bX3_standBits_0 4 = true := by decide +kernel
def bX3_standBits_4 : List mB := [(.iload_n 2, mI 0), (.aload_n 0, mI 0), (.getfield 60, mR 3 7)]
theorem kX3_standBits_4 : mchk MX3_standBits 4 bX3_standBits_4 9 = true := by decide +kernel
theorem tX3_standBits_9 : mbk MX3_standBits 9 (.if_icmp .ge 20) 29 = true := by decide +kernel
def bX3_standBits_12 : List mB := [(.iload_n 1, mI 0), (.aload_n 0, mI 0), (.getfield 22, mR 3 4), (.iload_n 2, mI 0), (.iaload, mI 0), (.iload_n 2, mI 0), (.ishl, mI 0), (.ior, mI 0), (.istore_n 1, mI 0), (.iinc 2 1, mI (nI 1))]
theorem kX3_standBits_12 : mchk MX3_standBits 12 bX3_standBits_12 26 = true := by decide +kernel
theorem tX3_standBits_26 : mbk MX3_standBits 26 (.goto (-22)) 4 = true := by decide +kernel
def bX3_standBits_29 : List mB := [(.iload_n 1, mI 0)]
theorem kX3_standBits_29 : mchk MX3_standBits 29 bX3_standBits_29 30 = true := by decide +kernel
theorem tX3_standBits_30 : mrk MX3_standBits 30 .ireturn = true := by decide +kernel
def bX3_runnersMany_0 : List mB := [(.iconst 0, mI (nI 0)), (.istore_n 1, mI 0), (.iconst 0, mI (nI 0)), (.istore_n 2, mI 0)]
theorem kX3_runnersMany_0 : mchk MX3_runnersMany 0 bX3_runnersMany_0 4 = true := by decide +kernel
def bX3_runnersMany_4 : List mB := [(.iload_n 2, mI 0), (.aload_n 0, mI 0), (.getfield 60, mR 3 7)]
theorem kX3_runnersMany_4 : mchk MX3_runnersMany 4 bX3_runnersMany_4 9 = true := by decide +kernel
theorem tX3_runnersMany_9 : mbk MX3_runnersMany 9 (.if_icmp .ge 25) 34 = true := by decide +kernel
def bX3_runnersMany_12 : List mB := [(.iload_n 1, mI 0), (.aload_n 0, mI 0), (.iload_n 2, mI 0)]
theorem kX3_runnersMany_12 : mchk MX3_runnersMany 12 bX3_runnersMany_12 15 = true := by decide +kernel
theorem tX3_runnersMany_15 : mdk MX3_runnersMany 15 (.invokevirtual 109) = true := by decide +kernel
theorem tX3_runnersMany_18 : mbk MX3_runnersMany 18 (.ifCond .eq 7) 25 = true := by decide +kernel
def bX3_runnersMany_21 : List mB := [(.iconst 0, mI (nI 0))]
theorem kX3_runnersMany_21 : mchk MX3_runnersMany 21 bX3_runnersMany_21 22 = true := by decide +kernel
theorem tX3_runnersMany_22 : mbk MX3_runnersMany 22 (.goto 4) 26 = true := by decide +kernel
def bX3_runnersMany_25 : List mB := [(.iconst 1, mI (nI 1))]
theorem kX3_runnersMany_25 : mchk MX3_runnersMany 25 bX3_runnersMany_25 26 = true := by decide +kernel
def bX3_runnersMany_26 : List mB := [(.iadd, mI 0), (.istore_n 1, mI 0), (.iinc 2 1, mI (nI 1))]
theorem kX3_runnersMany_26 : mchk MX3_runnersMany 26 bX3_runnersMany_26 31 = true := by decide +kernel
theorem tX3_runnersMany_31 : mbk MX3_runnersMany 31 (.goto (-27)) 4 = true := by decide +kernel
def bX3_runnersMany_34 : List mB := [(.iload_n 1, mI 0)]
theorem kX3_runnersMany_34 : mchk MX3_runnersMany 34 bX3_runnersMany_34 35 = true := by decide +kernel
theorem tX3_runnersMany_35 : mrk MX3_runnersMany 35 .ireturn = true := by decide +kernel
def bX3_child_0 : List mB := [(.aload_n 0, mI 0), (.iload_n 1, mI 0)]
theorem kX3_child_0 : mchk MX3_child 0 bX3_child_0 2 = true := by decide +kernel
theorem tX3_child_2 : mdk MX3_child 2 (.invokevirtual 106) = true := by decide +kernel
theorem tX3_child_5 : mbk MX3_child 5 (.ifCond .ne 9) 14 = true := by decide +kernel
def bX3_child_8 : List mB := [(.aload_n 0, mI 0), (.iconst (-1), mI (-1))]
theorem kX3_child_8 : mchk MX3_child 8 bX3_child_8 10 = true := by decide +kernel
theorem tX3_child_10 : mdk MX3_child 10 (.invokevirtual 70) = true := by decide +kernel
theorem tX3_child_13 : mrk MX3_child 13 .ireturn = true := by decide +kernel
def bX3_child_14 : List mB := [(.iload_n 2, mI 0)]
theorem kX3_child_14 : mchk MX3_child 14 bX3_child_14 15 = true := by decide +kernel
def sX3_child_15 : Instr := .tableswitch 68 0 4 #[33, 40, 47, 54, 61]
theorem tX3_child_15 : mswk MX3_child 15 sX3_child_15 33 = true := by decide +kernel
def bX3_child_48 : List mB := [(.aload_n 0, mI 0), (.getfield 13, mR 3 1), (.iload_n 1, mI 0), (.iaload, mI 0)]
theorem kX3_child_48 : mchk MX3_child 48 bX3_child_48 54 = true := by decide +kernel
theorem tX3_child_54 : mrk MX3_child 54 .ireturn = true := by decide +kernel
def bX3_child_55 : List mB := [(.aload_n 0, mI 0), (.getfield 16, mR 3 2), (.iload_n 1, mI 0), (.iaload, mI 0)]
theorem kX3_child_55 : mchk MX3_child 55 bX3_child_55 61 = true := by decide +kernel
theorem tX3_child_61 : mrk MX3_child 61 .ireturn = true := by decide +kernel
def bX3_child_62 : List mB := [(.aload_n 0, mI 0), (.getfield 19, mR 3 3), (.iload_n 1, mI 0), (.iaload, mI 0)]
theorem kX3_child_62 : mchk MX3_child 62 bX3_child_62 68 = true := by decide +kernel
theorem tX3_child_68 : mrk MX3_child 68 .ireturn = true := by decide +kernel
def bX3_child_69 : List mB := [(.aload_n 0, mI 0), (.getfield 22, mR 3 4), (.iload_n 1, mI 0), (.iaload, mI 0)]
theorem kX3_child_69 : mchk MX3_child 69 bX3_child_69 75 = true := by decide +kernel
theorem tX3_child_75 : mrk MX3_child 75 .ireturn = true := by decide +kernel
def bX3_child_76 : List mB := [(.aload_n 0, mI 0), (.getfield 25, mR 3 5), (.iload_n 1, mI 0), (.iaload, mI 0)]
theorem kX3_child_76 : mchk MX3_child 76 bX3_child_76 82 = true := by decide +kernel
theorem tX3_child_82 : mrk MX3_child 82 .ireturn = true := by decide +kernel
def bX3_child_83 : List mB := [(.aload_n 0, mI 0), (.bipush (-2), mI (-2))]
theorem kX3_child_83 : mchk MX3_child 83 bX3_child_83 86 = true := by decide +kernel
theorem tX3_child_86 : mdk MX3_child 86 (.invokevirtual 70) = true := by decide +kernel
theorem tX3_child_89 : mrk MX3_child 89 .ireturn = true := by decide +kernel
def bX3_go_0 : List mB := [(.aload_n 0, mI 0), (.iload_n 1, mI 0)]
theorem kX3_go_0 : mchk MX3_go 0 bX3_go_0 2 = true := by decide +kernel
theorem tX3_go_2 : mdk MX3_go 2 (.invokevirtual 106) = true := by decide +kernel
theorem tX3_go_5 : mbk MX3_go 5 (.ifCond .eq 10) 15 = true := by decide +kernel
def bX3_go_8 : List mB := [(.iload_n 2, mI 0)]
theorem kX3_go_8 : mchk MX3_go 8 bX3_go_8 9 = true := by decide +kernel
theorem tX3_go_9 : mdk MX3_go 9 (.invokestatic 99) = true := by decide +kernel
theorem tX3_go_12 : mbk MX3_go 12 (.ifCond .ne 9) 21 = true := by decide +kernel
def bX3_go_15 : List mB := [(.aload_n 0, mI 0), (.iconst (-1), mI (-1))]
theorem kX3_go_15 : mchk MX3_go 15 bX3_go_15 17 = true := by decide +kernel
theorem tX3_go_17 : mdk MX3_go 17 (.invokevirtual 70) = true := by decide +kernel
theorem tX3_go_20 : mrk MX3_go 20 .ireturn = true := by decide +kernel
def bX3_go_21 : List mB := [(.aload_n 0, mI 0), (.getfield 16, mR 3 2), (.iload_n 1, mI 0), (.iaload, mI 0), (.istore_n 3, mI 0), (.aload_n 0, mI 0), (.getfield 16, mR 3 2), (.iload_n 1, mI 0), (.iload_n 2, mI 0), (.iastore, mI 0), (.iload_n 3, mI 0)]
theorem kX3_go_21 : mchk MX3_go 21 bX3_go_21 36 = true := by decide +kernel
theorem tX3_go_36 : mrk MX3_go 36 .ireturn = true := by decide +kernel
def bX3_touch_0 : List mB := [(.aload_n 0, mI 0), (.iload_n 1, mI 0)]
theorem kX3_touch_0 : mchk MX3_touch 0 bX3_touch_0 2 = true := by decide +kernel
theorem tX3_touch_2 : mdk MX3_touch 2 (.invokevirtual 106) = true := by decide +kernel
theorem tX3_touch_5 : mbk MX3_touch 5 (.ifCond .ne 7) 12 = true := by decide +kernel
def bX3_touch_8 : List mB := [(.iconst (-1), mI (-1))]
theorem kX3_touch_8 : mchk MX3_touch 8 bX3_touch_8 9 = true := by decide +kernel
theorem tX3_touch_9 : mbk MX3_touch 9 (.goto 17) 26 = true := by decide +kernel
def bX3_touch_12 : List mB := [(.aload_n 0, mI 0), (.iload_n 1, mI 0)]
theorem kX3_touch_12 : mchk MX3_touch 12 bX3_touch_12 14 = true := by decide +kernel
theorem tX3_touch_14 : mdk MX3_touch 14 (.invokevirtual 109) = true := by decide +kernel
theorem tX3_touch_17 : mbk MX3_touch 17 (.ifCond .eq 8) 25 = true := by decide +kernel
def bX3_touch_20 : List mB := [(.bipush (-3), mI (-3))]
theorem kX3_touch_20 : mchk MX3_touch 20 bX3_touch_20 22 = true := by decide +kernel
theorem tX3_touch_22 : mbk MX3_touch 22 (.goto 4) 26 = true := by decide +kernel
def bX3_touch_25 : List mB := [(.iconst 0, mI (nI 0))]
theorem kX3_touch_25 : mchk MX3_touch 25 bX3_touch_25 26 = true := by decide +kernel
def bX3_touch_26 : List mB := [(.istore_n 2, mI 0), (.iload_n 2, mI 0)]
theorem kX3_touch_26 : mchk MX3_touch 26 bX3_touch_26 28 = true := by decide +kernel
theorem tX3_touch_28 : mbk MX3_touch 28 (.ifCond .eq 9) 37 = true := by decide +kernel
def bX3_touch_31 : List mB := [(.aload_n 0, mI 0), (.iload_n 2, mI 0)]
theorem kX3_touch_31 : mchk MX3_touch 31 bX3_touch_31 33 = true := by decide +kernel
theorem tX3_touch_33 : mdk MX3_touch 33 (.invokevirtual 70) = true := by decide +kernel
theorem tX3_touch_36 : mrk MX3_touch 36 .ireturn = true := by decide +kernel
def bX3_touch_37 : List mB := [(.aload_n 0, mI 0), (.getfield 22, mR 3 4), (.iload_n 1, mI 0), (.iconst 1, mI (nI 1)), (.aload_n 0, mI 0), (.getfield 22, mR 3 4), (.iload_n 1, mI 0), (.iaload, mI 0), (.isub, mI 0), (.iastore, mI 0), (.aload_n 0, mI 0), (.getfield 22, mR 3 4), (.iload_n 1, mI 0), (.iaload, mI 0)]
theorem kX3_touch_37 : mchk MX3_touch 37 bX3_touch_37 57 = true := by decide +kernel
theorem tX3_touch_57 : mrk MX3_touch 57 .ireturn = true := by decide +kernel
def bX3_law_0 : List mB := [(.iload_n 1, mI 0), (.iconst 0, mI (nI 0)), (.iconst 3, mI (nI 3))]
theorem kX3_law_0 : mchk MX3_law 0 bX3_law_0 3 = true := by decide +kernel
theorem tX3_law_3 : mdk MX3_law 3 (.invokestatic 81) = true := by decide +kernel
theorem tX3_law_6 : mbk MX3_law 6 (.ifCond .ne 10) 16 = true := by decide +kernel
def bX3_law_9 : List mB := [(.aload_n 0, mI 0), (.bipush (-2), mI (-2))]
theorem kX3_law_9 : mchk MX3_law 9 bX3_law_9 12 = true := by decide +kernel
theorem tX3_law_12 : mdk MX3_law 12 (.invokevirtual 70) = true := by decide +kernel
theorem tX3_law_15 : mrk MX3_law 15 .ireturn = true := by decide +kernel
def bX3_law_16 : List mB := [(.aload_n 0, mI 0), (.getfield 112, mR 3 8), (.istore_n 2, mI 0), (.aload_n 0, mI 0), (.iload_n 1, mI 0), (.putfield 112, mR 3 8), (.iload_n 2, mI 0)]
theorem kX3_law_16 : mchk MX3_law 16 bX3_law_16 27 = true := by decide +kernel
theorem tX3_law_27 : mrk MX3_law 27 .ireturn = true := by decide +kernel
def bX3_far_0 : List mB := [(.iload_n 1, mI 0)]
theorem kX3_far_0 : mchk MX3_far 0 bX3_far_0 1 = true := by decide +kernel
theorem tX3_far_1 : mdk MX3_far 1 (.invokestatic 99) = true := by decide +kernel
theorem tX3_far_4 : mbk MX3_far 4 (.ifCond .eq 18) 22 = true := by decide +kernel
def bX3_far_7 : List mB := [(.iload_n 2, mI 0)]
theorem kX3_far_7 : mchk MX3_far 7 bX3_far_7 8 = true := by decide +kernel
theorem tX3_far_8 : mdk MX3_far 8 (.invokestatic 99) = true := by decide +kernel
theorem tX3_far_11 : mbk MX3_far 11 (.ifCond .eq 11) 22 = true := by decide +kernel
def bX3_far_14 : List mB := [(.iload_n 1, mI 0), (.iload_n 2, mI 0)]
theorem kX3_far_14 : mchk MX3_far 14 bX3_far_14 16 = true := by decide +kernel
theorem tX3_far_16 : mdk MX3_far 16 (.invokestatic 146) = true := by decide +kernel
theorem tX3_far_19 : mbk MX3_far 19 (.goto 8) 27 = true := by decide +kernel
def bX3_far_22 : List mB := [(.aload_n 0, mI 0), (.iconst (-1), mI (-1))]
theorem kX3_far_22 : mchk MX3_far 22 bX3_far_22 24 = true := by decide +kernel
theorem tX3_far_24 : mdk MX3_far 24 (.invokevirtual 70) = true := by decide +kernel
theorem tX3_far_27 : mrk MX3_far 27 .ireturn = true := by decide +kernel
def bX3_seconds_0 : List mB := [(.iload_n 1, mI 0), (.iconst 1, mI (nI 1)), (.bipush 60, mI (nI 60))]
theorem kX3_seconds_0 : mchk MX3_seconds 0 bX3_seconds_0 4 = true := by decide +kernel
theorem tX3_seconds_4 : mdk MX3_seconds 4 (.invokestatic 63) = true := by decide +kernel
def bX3_seconds_7 : List mB := [(.istore_n 2, mI 0), (.iload_n 2, mI 0)]
theorem kX3_seconds_7 : mchk MX3_seconds 7 bX3_seconds_7 9 = true := by decide +kernel
theorem tX3_seconds_9 : mbk MX3_seconds 9 (.ifCond .ne 18) 27 = true := by decide +kernel
def bX3_seconds_12 : List mB := [(.aload_n 0, mI 0), (.getfield 140, mR 3 9), (.iload_n 1, mI 0), (.iadd, mI 0), (.sipush 999, mI (nI 999))]
theorem kX3_seconds_12 : mchk MX3_seconds 12 bX3_seconds_12 21 = true := by decide +kernel
theorem tX3_seconds_21 : mbk MX3_seconds 21 (.if_icmp .le 6) 27 = true := by decide +kernel
def bX3_seconds_24 : List mB := [(.bipush (-6), mI (-6)), (.istore_n 2, mI 0)]
theorem kX3_seconds_24 : mchk MX3_seconds 24 bX3_seconds_24 27 = true := by decide +kernel
def bX3_seconds_27 : List mB := [(.iload_n 2, mI 0)]
theorem kX3_seconds_27 : mchk MX3_seconds 27 bX3_seconds_27 28 = true := by decide +kernel
theorem tX3_seconds_28 : mbk MX3_seconds 28 (.ifCond .eq 9) 37 = true := by decide +kernel
def bX3_seconds_31 : List mB := [(.aload_n 0, mI 0), (.iload_n 2, mI 0)]
theorem kX3_seconds_31 : mchk MX3_seconds 31 bX3_seconds_31 33 = true := by decide +kernel
theorem tX3_seconds_33 : mdk MX3_seconds 33 (.invokevirtual 70) = true := by decide +kernel
theorem tX3_seconds_36 : mrk MX3_seconds 36 .ireturn = true := by decide +kernel
def bX3_seconds_37 : List mB := [(.iconst 0, mI (nI 0)), (.istore_n 3, mI 0)]
theorem kX3_seconds_37 : mchk MX3_seconds 37 bX3_seconds_37 39 = true := by decide +kernel
def bX3_seconds_39 : List mB := [(.iload_n 3, mI 0), (.iload_n 1, mI 0)]
theorem kX3_seconds_39 : mchk MX3_seconds 39 bX3_seconds_39 41 = true := by decide +kernel
theorem tX3_seconds_41 : mbk MX3_seconds 41 (.if_icmp .ge 13) 54 = true := by decide +kernel
def bX3_seconds_44 : List mB := [(.aload_n 0, mI 0)]
theorem kX3_seconds_44 : mchk MX3_seconds 44 bX3_seconds_44 45 = true := by decide +kernel
theorem tX3_seconds_45 : mdk MX3_seconds 45 (.invokevirtual 208) = true := by decide +kernel
def bX3_seconds_48 : List mB := [(.iinc 3 1, mI (nI 1))]
theorem kX3_seconds_48 : mchk MX3_seconds 48 bX3_seconds_48 51 = true := by decide +kernel
theorem tX3_seconds_51 : mbk MX3_seconds 51 (.goto (-12)) 39 = true := by decide +kernel
def bX3_seconds_54 : List mB := [(.aload_n 0, mI 0), (.getfield 140, mR 3 9)]
theorem kX3_seconds_54 : mchk MX3_seconds 54 bX3_seconds_54 58 = true := by decide +kernel
theorem tX3_seconds_58 : mrk MX3_seconds 58 .ireturn = true := by decide +kernel
def bX3_goesInMind_0 : List mB := [(.aload_n 0, mI 0), (.iconst 1, mI (nI 1)), (.iconst 1, mI (nI 1))]
theorem kX3_goesInMind_0 : mchk MX3_goesInMind 0 bX3_goesInMind_0 3 = true := by decide +kernel
theorem tX3_goesInMind_3 : mdk MX3_goesInMind 3 (.invokevirtual 119) = true := by decide +kernel
def bX3_goesInMind_6 : List mB := [(.aload_n 0, mI 0), (.iconst 0, mI (nI 0)), (.putfield 211, mR 3 23), (.aload_n 0, mI 0), (.iload_n 1, mI 0)]
theorem kX3_goesInMind_6 : mchk MX3_goesInMind 6 bX3_goesInMind_6 13 = true := by decide +kernel
theorem tX3_goesInMind_13 : mbk MX3_goesInMind 13 (.ifCond .ne 10) 23 = true := by decide +kernel
def bX3_goesInMind_16 : List mB := [(.aload_n 0, mI 0)]
theorem kX3_goesInMind_16 : mchk MX3_goesInMind 16 bX3_goesInMind_16 17 = true := by decide +kernel
theorem tX3_goesInMind_17 : mdk MX3_goesInMind 17 (.invokevirtual 214) = true := by decide +kernel
theorem tX3_goesInMind_20 : mbk MX3_goesInMind 20 (.goto 4) 24 = true := by decide +kernel
def bX3_goesInMind_23 : List mB := [(.iconst (-1), mI (-1))]
theorem kX3_goesInMind_23 : mchk MX3_goesInMind 23 bX3_goesInMind_23 24 = true := by decide +kernel
def bX3_goesInMind_24 : List mB := [(.putfield 217, mR 3 24), (.aload_n 0, mI 0), (.iconst 0, mI (nI 0)), (.putfield 158, mR 3 22), (.iconst 0, mI (nI 0)), (.istore_n 3, mI 0)]
theorem kX3_goesInMind_24 : mchk MX3_goesInMind 24 bX3_goesInMind_24 34 = true := by decide +kernel
def bX3_goesInMind_34 : List mB := [(.iload_n 3, mI 0), (.iload_n 1, mI 0)]
theorem kX3_goesInMind_34 : mchk MX3_goesInMind 34 bX3_goesInMind_34 36 = true := by decide +kernel
theorem tX3_goesInMind_36 : mbk MX3_goesInMind 36 (.if_icmp .ge 42) 78 = true := by decide +kernel
def bX3_goesInMind_39 : List mB := [(.aload_n 0, mI 0)]
theorem kX3_goesInMind_39 : mchk MX3_goesInMind 39 bX3_goesInMind_39 40 = true := by decide +kernel
theorem tX3_goesInMind_40 : mdk MX3_goesInMind 40 (.invokevirtual 208) = true := by decide +kernel
def bX3_goesInMind_43 : List mB := [(.aload_n 0, mI 0), (.dup, mI 0), (.getfield 211, mR 3 23), (.aload_n 0, mI 0)]
theorem kX3_goesInMind_43 : mchk MX3_goesInMind 43 bX3_goesInMind_43 49 = true := by decide +kernel
theorem tX3_goesInMind_49 : mdk MX3_goesInMind 49 (.invokevirtual 214) = true := by decide +kernel
theorem tX3_goesInMind_52 : mdk MX3_goesInMind 52 (.invokestatic 220) = true := by decide +kernel
def bX3_goesInMind_55 : List mB := [(.iadd, mI 0), (.putfield 211, mR 3 23), (.aload_n 0, mI 0), (.dup, mI 0), (.getfield 217, mR 3 24), (.aload_n 0, mI 0)]
theorem kX3_goesInMind_55 : mchk MX3_goesInMind 55 bX3_goesInMind_55 65 = true := by decide +kernel
theorem tX3_goesInMind_65 : mdk MX3_goesInMind 65 (.invokevirtual 214) = true := by decide +kernel
def bX3_goesInMind_68 : List mB := [(.iand, mI 0), (.putfield 217, mR 3 24), (.iinc 3 1, mI (nI 1))]
theorem kX3_goesInMind_68 : mchk MX3_goesInMind 68 bX3_goesInMind_68 75 = true := by decide +kernel
theorem tX3_goesInMind_75 : mbk MX3_goesInMind 75 (.goto (-41)) 34 = true := by decide +kernel
def bX3_goesInMind_78 : List mB := [(.aload_n 0, mI 0), (.aload_n 0, mI 0)]
theorem kX3_goesInMind_78 : mchk MX3_goesInMind 78 bX3_goesInMind_78 80 = true := by decide +kernel
theorem tX3_goesInMind_80 : mdk MX3_goesInMind 80 (.invokevirtual 214) = true := by decide +kernel
def bX3_goesInMind_83 : List mB := [(.putfield 223, mR 3 25), (.aload_n 0, mI 0), (.aload_n 0, mI 0), (.getfield 158, mR 3 22), (.putfield 226, mR 3 26), (.aload_n 0, mI 0), (.aload_n 0, mI 0), (.getfield 16, mR 3 2), (.iload_n 2, mI 0), (.iaload, mI 0), (.putfield 229, mR 3 27), (.aload_n 0, mI 0), (.iconst 1, mI (nI 1)), (.iconst 0, mI (nI 0))]
theorem kX3_goesInMind_83 : mchk MX3_goesInMind 83 bX3_goesInMind_83 107 = true := by decide +kernel
theorem tX3_goesInMind_107 : mdk MX3_goesInMind 107 (.invokevirtual 119) = true := by decide +kernel
theorem tX3_goesInMind_110 : mrk MX3_goesInMind 110 .return_ = true := by decide +kernel
def bX3_stand_0 : List mB := [(.iload_n 1, mI 0), (.iconst 0, mI (nI 0)), (.bipush 60, mI (nI 60))]
theorem kX3_stand_0 : mchk MX3_stand 0 bX3_stand_0 4 = true := by decide +kernel
theorem tX3_stand_4 : mdk MX3_stand 4 (.invokestatic 63) = true := by decide +kernel
def bX3_stand_7 : List mB := [(.istore_n 2, mI 0), (.iload_n 2, mI 0)]
theorem kX3_stand_7 : mchk MX3_stand 7 bX3_stand_7 9 = true := by decide +kernel
theorem tX3_stand_9 : mbk MX3_stand 9 (.ifCond .eq 9) 18 = true := by decide +kernel
def bX3_stand_12 : List mB := [(.aload_n 0, mI 0), (.iload_n 2, mI 0)]
theorem kX3_stand_12 : mchk MX3_stand 12 bX3_stand_12 14 = true := by decide +kernel
theorem tX3_stand_14 : mdk MX3_stand 14 (.invokevirtual 70) = true := by decide +kernel
theorem tX3_stand_17 : mrk MX3_stand 17 .ireturn = true := by decide +kernel
def bX3_stand_18 : List mB := [(.aload_n 0, mI 0), (.iload_n 1, mI 0), (.iconst 0, mI (nI 0))]
theorem kX3_stand_18 : mchk MX3_stand 18 bX3_stand_18 21 = true := by decide +kernel
theorem tX3_stand_21 : mdk MX3_stand 21 (.invokevirtual 232) = true := by decide +kernel
def bX3_stand_24 : List mB := [(.aload_n 0, mI 0), (.getfield 223, mR 3 25)]
theorem kX3_stand_24 : mchk MX3_stand 24 bX3_stand_24 28 = true := by decide +kernel
theorem tX3_stand_28 : mrk MX3_stand 28 .ireturn = true := by decide +kernel
def bX3_where_0 : List mB := [(.aload_n 0, mI 0), (.iload_n 1, mI 0)]
theorem kX3_where_0 : mchk MX3_where 0 bX3_where_0 2 = true := by decide +kernel
theorem tX3_where_2 : mdk MX3_where 2 (.invokevirtual 106) = true := by decide +kernel
theorem tX3_where_5 : mbk MX3_where 5 (.ifCond .ne 7) 12 = true := by decide +kernel
def bX3_where_8 : List mB := [(.iconst (-1), mI (-1))]
theorem kX3_where_8 : mchk MX3_where 8 bX3_where_8 9 = true := by decide +kernel
theorem tX3_where_9 : mbk MX3_where 9 (.goto 10) 19 = true := by decide +kernel
def bX3_where_12 : List mB := [(.iload_n 2, mI 0), (.iconst 0, mI (nI 0)), (.bipush 60, mI (nI 60))]
theorem kX3_where_12 : mchk MX3_where 12 bX3_where_12 16 = true := by decide +kernel
theorem tX3_where_16 : mdk MX3_where 16 (.invokestatic 63) = true := by decide +kernel
def bX3_where_19 : List mB := [(.istore_n 3, mI 0), (.iload_n 3, mI 0)]
theorem kX3_where_19 : mchk MX3_where 19 bX3_where_19 21 = true := by decide +kernel
theorem tX3_where_21 : mbk MX3_where 21 (.ifCond .eq 9) 30 = true := by decide +kernel
def bX3_where_24 : List mB := [(.aload_n 0, mI 0), (.iload_n 3, mI 0)]
theorem kX3_where_24 : mchk MX3_where 24 bX3_where_24 26 = true := by decide +kernel
theorem tX3_where_26 : mdk MX3_where 26 (.invokevirtual 70) = true := by decide +kernel
theorem tX3_where_29 : mrk MX3_where 29 .ireturn = true := by decide +kernel
def bX3_where_30 : List mB := [(.aload_n 0, mI 0), (.iload_n 2, mI 0), (.iload_n 1, mI 0)]
theorem kX3_where_30 : mchk MX3_where 30 bX3_where_30 33 = true := by decide +kernel
theorem tX3_where_33 : mdk MX3_where 33 (.invokevirtual 232) = true := by decide +kernel
def bX3_where_36 : List mB := [(.aload_n 0, mI 0), (.getfield 229, mR 3 27)]
theorem kX3_where_36 : mchk MX3_where 36 bX3_where_36 40 = true := by decide +kernel
theorem tX3_where_40 : mrk MX3_where 40 .ireturn = true := by decide +kernel
def bX3_overIn_0 : List mB := [(.aload_n 0, mI 0), (.iconst 1, mI (nI 1)), (.iconst 1, mI (nI 1))]
theorem kX3_overIn_0 : mchk MX3_overIn 0 bX3_overIn_0 3 = true := by decide +kernel
theorem tX3_overIn_3 : mdk MX3_overIn 3 (.invokevirtual 119) = true := by decide +kernel
def bX3_overIn_6 : List mB := [(.iconst 0, mI (nI 0)), (.istore_n 1, mI 0)]
theorem kX3_overIn_6 : mchk MX3_overIn 6 bX3_overIn_6 8 = true := by decide +kernel
def bX3_overIn_8 : List mB := [(.aload_n 0, mI 0)]
theorem kX3_overIn_8 : mchk MX3_overIn 8 bX3_overIn_8 9 = true := by decide +kernel
theorem tX3_overIn_9 : mdk MX3_overIn 9 (.invokevirtual 214) = true := by decide +kernel
theorem tX3_overIn_12 : mdk MX3_overIn 12 (.invokestatic 220) = true := by decide +kernel
def bX3_overIn_15 : List mB := [(.aload_n 0, mI 0)]
theorem kX3_overIn_15 : mchk MX3_overIn 15 bX3_overIn_15 16 = true := by decide +kernel
theorem tX3_overIn_16 : mdk MX3_overIn 16 (.invokevirtual 235) = true := by decide +kernel
theorem tX3_overIn_19 : mbk MX3_overIn 19 (.if_icmp .ge 19) 38 = true := by decide +kernel
def bX3_overIn_22 : List mB := [(.iload_n 1, mI 0), (.bipush 60, mI (nI 60))]
theorem kX3_overIn_22 : mchk MX3_overIn 22 bX3_overIn_22 25 = true := by decide +kernel
theorem tX3_overIn_25 : mbk MX3_overIn 25 (.if_icmp .gt 13) 38 = true := by decide +kernel
def bX3_overIn_28 : List mB := [(.aload_n 0, mI 0)]
theorem kX3_overIn_28 : mchk MX3_overIn 28 bX3_overIn_28 29 = true := by decide +kernel
theorem tX3_overIn_29 : mdk MX3_overIn 29 (.invokevirtual 208) = true := by decide +kernel
def bX3_overIn_32 : List mB := [(.iinc 1 1, mI (nI 1))]
theorem kX3_overIn_32 : mchk MX3_overIn 32 bX3_overIn_32 35 = true := by decide +kernel
theorem tX3_overIn_35 : mbk MX3_overIn 35 (.goto (-27)) 8 = true := by decide +kernel
def bX3_overIn_38 : List mB := [(.aload_n 0, mI 0), (.iconst 1, mI (nI 1)), (.iconst 0, mI (nI 0))]
theorem kX3_overIn_38 : mchk MX3_overIn 38 bX3_overIn_38 41 = true := by decide +kernel
theorem tX3_overIn_41 : mdk MX3_overIn 41 (.invokevirtual 119) = true := by decide +kernel
def bX3_overIn_44 : List mB := [(.iload_n 1, mI 0), (.bipush 60, mI (nI 60))]
theorem kX3_overIn_44 : mchk MX3_overIn 44 bX3_overIn_44 47 = true := by decide +kernel
theorem tX3_overIn_47 : mbk MX3_overIn 47 (.if_icmp .le 8) 55 = true := by decide +kernel
def bX3_overIn_50 : List mB := [(.bipush (-9), mI (-9))]
theorem kX3_overIn_50 : mchk MX3_overIn 50 bX3_overIn_50 52 = true := by decide +kernel
theorem tX3_overIn_52 : mbk MX3_overIn 52 (.goto 4) 56 = true := by decide +kernel
def bX3_overIn_55 : List mB := [(.iload_n 1, mI 0)]
theorem kX3_overIn_55 : mchk MX3_overIn 55 bX3_overIn_55 56 = true := by decide +kernel
theorem tX3_overIn_56 : mrk MX3_overIn 56 .ireturn = true := by decide +kernel
def bX3_over_0 : List mB := [(.aload_n 0, mI 0)]
theorem kX3_over_0 : mchk MX3_over 0 bX3_over_0 1 = true := by decide +kernel
theorem tX3_over_1 : mdk MX3_over 1 (.invokevirtual 235) = true := by decide +kernel
theorem tX3_over_4 : mbk MX3_over 4 (.ifCond .ne 12) 16 = true := by decide +kernel
def bX3_over_7 : List mB := [(.aload_n 0, mI 0), (.bipush (-3), mI (-3))]
theorem kX3_over_7 : mchk MX3_over 7 bX3_over_7 10 = true := by decide +kernel
theorem tX3_over_10 : mdk MX3_over 10 (.invokevirtual 70) = true := by decide +kernel
theorem tX3_over_13 : mbk MX3_over 13 (.goto 7) 20 = true := by decide +kernel
def bX3_over_16 : List mB := [(.aload_n 0, mI 0)]
theorem kX3_over_16 : mchk MX3_over 16 bX3_over_16 17 = true := by decide +kernel
theorem tX3_over_17 : mdk MX3_over 17 (.invokevirtual 238) = true := by decide +kernel
theorem tX3_over_20 : mrk MX3_over 20 .ireturn = true := by decide +kernel
def bX3_divisor_0 : List mB := [(.lload_n 0, mI 0), (.lstore 4, mI 0), (.lload_n 2, mI 0), (.lstore 6, mI 0)]
theorem kX3_divisor_0 : mchk MX3_divisor 0 bX3_divisor_0 6 = true := by decide +kernel
def bX3_divisor_6 : List mB := [(.lload 6, mI 0), (.lconst 0, mJ (lN 0)), (.lcmp, mI 0)]
theorem kX3_divisor_6 : mchk MX3_divisor 6 bX3_divisor_6 10 = true := by decide +kernel
theorem tX3_divisor_10 : mbk MX3_divisor 10 (.ifCond .eq 21) 31 = true := by decide +kernel
def bX3_divisor_13 : List mB := [(.lload 4, mI 0), (.lload 6, mI 0), (.lrem, mI 0), (.lstore 8, mI 0), (.lload 6, mI 0), (.lstore 4, mI 0), (.lload 8, mI 0), (.lstore 6, mI 0)]
theorem kX3_divisor_13 : mchk MX3_divisor 13 bX3_divisor_13 28 = true := by decide +kernel
theorem tX3_divisor_28 : mbk MX3_divisor 28 (.goto (-22)) 6 = true := by decide +kernel
def bX3_divisor_31 : List mB := [(.lload 4, mI 0)]
theorem kX3_divisor_31 : mchk MX3_divisor 31 bX3_divisor_31 33 = true := by decide +kernel
theorem tX3_divisor_33 : mrk MX3_divisor 33 .lreturn = true := by decide +kernel
def bX3_mean_0 : List mB := [(.iload_n 1, mI 0), (.iconst 0, mI (nI 0)), (.bipush 60, mI (nI 60))]
theorem kX3_mean_0 : mchk MX3_mean 0 bX3_mean_0 4 = true := by decide +kernel
theorem tX3_mean_4 : mdk MX3_mean 4 (.invokestatic 63) = true := by decide +kernel
def bX3_mean_7 : List mB := [(.istore_n 3, mI 0), (.iload_n 3, mI 0)]
theorem kX3_mean_7 : mchk MX3_mean 7 bX3_mean_7 9 = true := by decide +kernel
theorem tX3_mean_9 : mbk MX3_mean 9 (.ifCond .ne 15) 24 = true := by decide +kernel
def bX3_mean_12 : List mB := [(.iload_n 2, mI 0), (.iconst 0, mI (nI 0)), (.iconst 1, mI (nI 1))]
theorem kX3_mean_12 : mchk MX3_mean 12 bX3_mean_12 15 = true := by decide +kernel
theorem tX3_mean_15 : mdk MX3_mean 15 (.invokestatic 81) = true := by decide +kernel
theorem tX3_mean_18 : mbk MX3_mean 18 (.ifCond .ne 6) 24 = true := by decide +kernel
def bX3_mean_21 : List mB := [(.bipush (-2), mI (-2)), (.istore_n 3, mI 0)]
theorem kX3_mean_21 : mchk MX3_mean 21 bX3_mean_21 24 = true := by decide +kernel
def bX3_mean_24 : List mB := [(.iload_n 3, mI 0)]
theorem kX3_mean_24 : mchk MX3_mean 24 bX3_mean_24 25 = true := by decide +kernel
theorem tX3_mean_25 : mbk MX3_mean 25 (.ifCond .eq 9) 34 = true := by decide +kernel
def bX3_mean_28 : List mB := [(.aload_n 0, mI 0), (.iload_n 3, mI 0)]
theorem kX3_mean_28 : mchk MX3_mean 28 bX3_mean_28 30 = true := by decide +kernel
theorem tX3_mean_30 : mdk MX3_mean 30 (.invokevirtual 241) = true := by decide +kernel
theorem tX3_mean_33 : mrk MX3_mean 33 .lreturn = true := by decide +kernel
def bX3_mean_34 : List mB := [(.aload_n 0, mI 0), (.iload_n 1, mI 0), (.iconst 0, mI (nI 0))]
theorem kX3_mean_34 : mchk MX3_mean 34 bX3_mean_34 37 = true := by decide +kernel
theorem tX3_mean_37 : mdk MX3_mean 37 (.invokevirtual 232) = true := by decide +kernel
def bX3_mean_40 : List mB := [(.aload_n 0, mI 0), (.getfield 211, mR 3 23), (.aload_n 0, mI 0)]
theorem kX3_mean_40 : mchk MX3_mean 40 bX3_mean_40 45 = true := by decide +kernel
theorem tX3_mean_45 : mdk MX3_mean 45 (.invokevirtual 214) = true := by decide +kernel
theorem tX3_mean_48 : mdk MX3_mean 48 (.invokestatic 220) = true := by decide +kernel
def bX3_mean_51 : List mB := [(.iadd, mI 0), (.i2l, mI 0), (.lstore 4, mI 0), (.iload_n 1, mI 0), (.iconst 1, mI (nI 1)), (.iadd, mI 0), (.i2l, mI 0), (.lstore 6, mI 0), (.iload_n 2, mI 0)]
theorem kX3_mean_51 : mchk MX3_mean 51 bX3_mean_51 62 = true := by decide +kernel
theorem tX3_mean_62 : mbk MX3_mean 62 (.ifCond .ne 8) 70 = true := by decide +kernel
def bX3_mean_65 : List mB := [(.lload 4, mI 0)]
theorem kX3_mean_65 : mchk MX3_mean 65 bX3_mean_65 67 = true := by decide +kernel
theorem tX3_mean_67 : mbk MX3_mean 67 (.goto 5) 72 = true := by decide +kernel
def bX3_mean_70 : List mB := [(.lload 6, mI 0)]
theorem kX3_mean_70 : mchk MX3_mean 70 bX3_mean_70 72 = true := by decide +kernel
def bX3_mean_72 : List mB := [(.lload 4, mI 0), (.lload 6, mI 0)]
theorem kX3_mean_72 : mchk MX3_mean 72 bX3_mean_72 76 = true := by decide +kernel
theorem tX3_mean_76 : mdk MX3_mean 76 (.invokestatic 245) = true := by decide +kernel
def bX3_mean_79 : List mB := [(.ldiv, mI 0)]
theorem kX3_mean_79 : mchk MX3_mean 79 bX3_mean_79 80 = true := by decide +kernel
theorem tX3_mean_80 : mrk MX3_mean 80 .lreturn = true := by decide +kernel
def bX3_frees_0 : List mB := [(.iload_n 1, mI 0), (.iconst 0, mI (nI 0)), (.bipush 60, mI (nI 60))]
theorem kX3_frees_0 : mchk MX3_frees 0 bX3_frees_0 4 = true := by decide +kernel
theorem tX3_frees_4 : mdk MX3_frees 4 (.invokestatic 63) = true := by decide +kernel
def bX3_frees_7 : List mB := [(.istore_n 2, mI 0), (.iload_n 2, mI 0)]
theorem kX3_frees_7 : mchk MX3_frees 7 bX3_frees_7 9 = true := by decide +kernel
theorem tX3_frees_9 : mbk MX3_frees 9 (.ifCond .eq 9) 18 = true := by decide +kernel
def bX3_frees_12 : List mB := [(.aload_n 0, mI 0), (.iload_n 2, mI 0)]
theorem kX3_frees_12 : mchk MX3_frees 12 bX3_frees_12 14 = true := by decide +kernel
theorem tX3_frees_14 : mdk MX3_frees 14 (.invokevirtual 70) = true := by decide +kernel
theorem tX3_frees_17 : mrk MX3_frees 17 .ireturn = true := by decide +kernel
def bX3_frees_18 : List mB := [(.aload_n 0, mI 0), (.iload_n 1, mI 0), (.iconst 0, mI (nI 0))]
theorem kX3_frees_18 : mchk MX3_frees 18 bX3_frees_18 21 = true := by decide +kernel
theorem tX3_frees_21 : mdk MX3_frees 21 (.invokevirtual 232) = true := by decide +kernel
def bX3_frees_24 : List mB := [(.aload_n 0, mI 0), (.getfield 226, mR 3 26)]
theorem kX3_frees_24 : mchk MX3_frees 24 bX3_frees_24 28 = true := by decide +kernel
theorem tX3_frees_28 : mrk MX3_frees 28 .ireturn = true := by decide +kernel
def bX3_never_0 : List mB := [(.iload_n 1, mI 0), (.iconst 0, mI (nI 0)), (.bipush 60, mI (nI 60))]
theorem kX3_never_0 : mchk MX3_never 0 bX3_never_0 4 = true := by decide +kernel
theorem tX3_never_4 : mdk MX3_never 4 (.invokestatic 63) = true := by decide +kernel
def bX3_never_7 : List mB := [(.istore_n 2, mI 0), (.iload_n 2, mI 0)]
theorem kX3_never_7 : mchk MX3_never 7 bX3_never_7 9 = true := by decide +kernel
theorem tX3_never_9 : mbk MX3_never 9 (.ifCond .eq 9) 18 = true := by decide +kernel
def bX3_never_12 : List mB := [(.aload_n 0, mI 0), (.iload_n 2, mI 0)]
theorem kX3_never_12 : mchk MX3_never 12 bX3_never_12 14 = true := by decide +kernel
theorem tX3_never_14 : mdk MX3_never 14 (.invokevirtual 70) = true := by decide +kernel
theorem tX3_never_17 : mrk MX3_never 17 .ireturn = true := by decide +kernel
def bX3_never_18 : List mB := [(.aload_n 0, mI 0), (.iload_n 1, mI 0), (.iconst 0, mI (nI 0))]
theorem kX3_never_18 : mchk MX3_never 18 bX3_never_18 21 = true := by decide +kernel
theorem tX3_never_21 : mdk MX3_never 21 (.invokevirtual 232) = true := by decide +kernel
def bX3_never_24 : List mB := [(.aload_n 0, mI 0), (.getfield 217, mR 3 24)]
theorem kX3_never_24 : mchk MX3_never 24 bX3_never_24 28 = true := by decide +kernel
theorem tX3_never_28 : mrk MX3_never 28 .ireturn = true := by decide +kernel
def bX3_mayFree_0 : List mB := [(.aload_n 0, mI 0), (.iload_n 1, mI 0)]
theorem kX3_mayFree_0 : mchk MX3_mayFree 0 bX3_mayFree_0 2 = true := by decide +kernel
theorem tX3_mayFree_2 : mdk MX3_mayFree 2 (.invokevirtual 106) = true := by decide +kernel
theorem tX3_mayFree_5 : mbk MX3_mayFree 5 (.ifCond .ne 9) 14 = true := by decide +kernel
def bX3_mayFree_8 : List mB := [(.aload_n 0, mI 0), (.iconst (-1), mI (-1))]
theorem kX3_mayFree_8 : mchk MX3_mayFree 8 bX3_mayFree_8 10 = true := by decide +kernel
theorem tX3_mayFree_10 : mdk MX3_mayFree 10 (.invokevirtual 70) = true := by decide +kernel
theorem tX3_mayFree_13 : mrk MX3_mayFree 13 .ireturn = true := by decide +kernel
def bX3_mayFree_14 : List mB := [(.aload_n 0, mI 0), (.iload_n 1, mI 0)]
theorem kX3_mayFree_14 : mchk MX3_mayFree 14 bX3_mayFree_14 16 = true := by decide +kernel
theorem tX3_mayFree_16 : mdk MX3_mayFree 16 (.invokevirtual 109) = true := by decide +kernel
theorem tX3_mayFree_19 : mbk MX3_mayFree 19 (.ifCond .ne 13) 32 = true := by decide +kernel
def bX3_mayFree_22 : List mB := [(.aload_n 0, mI 0), (.getfield 22, mR 3 4), (.iload_n 1, mI 0), (.iaload, mI 0), (.iconst 1, mI (nI 1))]
theorem kX3_mayFree_22 : mchk MX3_mayFree 22 bX3_mayFree_22 29 = true := by decide +kernel
theorem tX3_mayFree_29 : mbk MX3_mayFree 29 (.if_icmp .ne 8) 37 = true := by decide +kernel
def bX3_mayFree_32 : List mB := [(.bipush (-9), mI (-9))]
theorem kX3_mayFree_32 : mchk MX3_mayFree 32 bX3_mayFree_32 34 = true := by decide +kernel
theorem tX3_mayFree_34 : mbk MX3_mayFree 34 (.goto 8) 42 = true := by decide +kernel
def bX3_mayFree_37 : List mB := [(.aload_n 0, mI 0), (.iload_n 1, mI 0)]
theorem kX3_mayFree_37 : mchk MX3_mayFree 37 bX3_mayFree_37 39 = true := by decide +kernel
theorem tX3_mayFree_39 : mdk MX3_mayFree 39 (.invokevirtual 171) = true := by decide +kernel
theorem tX3_mayFree_42 : mrk MX3_mayFree 42 .ireturn = true := by decide +kernel
def bX3_othersStand_0 : List mB := [(.aload_n 0, mI 0), (.iconst 1, mI (nI 1)), (.iconst 1, mI (nI 1))]
theorem kX3_othersStand_0 : mchk MX3_othersStand 0 bX3_othersStand_0 3 = true := by decide +kernel
theorem tX3_othersStand_3 : mdk MX3_othersStand 3 (.invokevirtual 119) = true := by decide +kernel
def bX3_othersStand_6 : List mB := [(.iconst 0, mI (nI 0)), (.istore_n 2, mI 0), (.iconst 0, mI (nI 0)), (.istore_n 3, mI 0)]
theorem kX3_othersStand_6 : mchk MX3_othersStand 6 bX3_othersStand_6 10 = true := by decide +kernel
def bX3_othersStand_10 : List mB := [(.iload_n 3, mI 0), (.bipush 20, mI (nI 20))]
theorem kX3_othersStand_10 : mchk MX3_othersStand 10 bX3_othersStand_10 13 = true := by decide +kernel
theorem tX3_othersStand_13 : mbk MX3_othersStand 13 (.if_icmp .ge 29) 42 = true := by decide +kernel
def bX3_othersStand_16 : List mB := [(.aload_n 0, mI 0)]
theorem kX3_othersStand_16 : mchk MX3_othersStand 16 bX3_othersStand_16 17 = true := by decide +kernel
theorem tX3_othersStand_17 : mdk MX3_othersStand 17 (.invokevirtual 208) = true := by decide +kernel
def bX3_othersStand_20 : List mB := [(.iload_n 2, mI 0), (.aload_n 0, mI 0)]
theorem kX3_othersStand_20 : mchk MX3_othersStand 20 bX3_othersStand_20 22 = true := by decide +kernel
theorem tX3_othersStand_22 : mdk MX3_othersStand 22 (.invokevirtual 214) = true := by decide +kernel
def bX3_othersStand_25 : List mB := [(.iconst 1, mI (nI 1)), (.iload_n 1, mI 0), (.ishl, mI 0), (.iconst (-1), mI (-1)), (.ixor, mI 0), (.iand, mI 0)]
theorem kX3_othersStand_25 : mchk MX3_othersStand 25 bX3_othersStand_25 31 = true := by decide +kernel
theorem tX3_othersStand_31 : mdk MX3_othersStand 31 (.invokestatic 220) = true := by decide +kernel
def bX3_othersStand_34 : List mB := [(.iadd, mI 0), (.istore_n 2, mI 0), (.iinc 3 1, mI (nI 1))]
theorem kX3_othersStand_34 : mchk MX3_othersStand 34 bX3_othersStand_34 39 = true := by decide +kernel
theorem tX3_othersStand_39 : mbk MX3_othersStand 39 (.goto (-29)) 10 = true := by decide +kernel
def bX3_othersStand_42 : List mB := [(.aload_n 0, mI 0), (.iconst 1, mI (nI 1)), (.iconst 0, mI (nI 0))]
theorem kX3_othersStand_42 : mchk MX3_othersStand 42 bX3_othersStand_42 45 = true := by decide +kernel
theorem tX3_othersStand_45 : mdk MX3_othersStand 45 (.invokevirtual 119) = true := by decide +kernel
def bX3_othersStand_48 : List mB := [(.iload_n 2, mI 0)]
theorem kX3_othersStand_48 : mchk MX3_othersStand 48 bX3_othersStand_48 49 = true := by decide +kernel
theorem tX3_othersStand_49 : mrk MX3_othersStand 49 .ireturn = true := by decide +kernel
def bX3_worth_0 : List mB := [(.aload_n 0, mI 0), (.iload_n 1, mI 0)]
theorem kX3_worth_0 : mchk MX3_worth 0 bX3_worth_0 2 = true := by decide +kernel
theorem tX3_worth_2 : mdk MX3_worth 2 (.invokevirtual 106) = true := by decide +kernel
theorem tX3_worth_5 : mbk MX3_worth 5 (.ifCond .ne 9) 14 = true := by decide +kernel
def bX3_worth_8 : List mB := [(.aload_n 0, mI 0), (.iconst (-1), mI (-1))]
theorem kX3_worth_8 : mchk MX3_worth 8 bX3_worth_8 10 = true := by decide +kernel
theorem tX3_worth_10 : mdk MX3_worth 10 (.invokevirtual 249) = true := by decide +kernel
theorem tX3_worth_13 : mrk MX3_worth 13 .ireturn = true := by decide +kernel
def bX3_worth_14 : List mB := [(.aload_n 0, mI 0), (.iload_n 1, mI 0)]
theorem kX3_worth_14 : mchk MX3_worth 14 bX3_worth_14 16 = true := by decide +kernel
theorem tX3_worth_16 : mdk MX3_worth 16 (.invokevirtual 109) = true := by decide +kernel
theorem tX3_worth_19 : mbk MX3_worth 19 (.ifCond .eq 10) 29 = true := by decide +kernel
def bX3_worth_22 : List mB := [(.aload_n 0, mI 0), (.bipush (-3), mI (-3))]
theorem kX3_worth_22 : mchk MX3_worth 22 bX3_worth_22 25 = true := by decide +kernel
theorem tX3_worth_25 : mdk MX3_worth 25 (.invokevirtual 249) = true := by decide +kernel
theorem tX3_worth_28 : mrk MX3_worth 28 .ireturn = true := by decide +kernel
def bX3_worth_29 : List mB := [(.aload_n 0, mI 0), (.iload_n 1, mI 0)]
theorem kX3_worth_29 : mchk MX3_worth 29 bX3_worth_29 31 = true := by decide +kernel
theorem tX3_worth_31 : mdk MX3_worth 31 (.invokevirtual 252) = true := by decide +kernel
def bX3_worth_34 : List mB := [(.istore_n 2, mI 0), (.aload_n 0, mI 0), (.iload_n 1, mI 0), (.putfield 46, mR 3 21), (.aload_n 0, mI 0), (.iload_n 1, mI 0)]
theorem kX3_worth_34 : mchk MX3_worth 34 bX3_worth_34 42 = true := by decide +kernel
theorem tX3_worth_42 : mdk MX3_worth 42 (.invokevirtual 252) = true := by decide +kernel
def bX3_worth_45 : List mB := [(.iload_n 2, mI 0), (.isub, mI 0), (.istore_n 3, mI 0), (.aload_n 0, mI 0), (.bipush (-9), mI (-9)), (.putfield 46, mR 3 21), (.iload_n 3, mI 0)]
theorem kX3_worth_45 : mchk MX3_worth 45 bX3_worth_45 55 = true := by decide +kernel
theorem tX3_worth_55 : mrk MX3_worth 55 .ireturn = true := by decide +kernel
def bX3_hunt_0 : List mB := [(.aload_n 0, mI 0), (.iload_n 1, mI 0)]
theorem kX3_hunt_0 : mchk MX3_hunt 0 bX3_hunt_0 2 = true := by decide +kernel
theorem tX3_hunt_2 : mdk MX3_hunt 2 (.invokevirtual 106) = true := by decide +kernel
theorem tX3_hunt_5 : mbk MX3_hunt 5 (.ifCond .ne 7) 12 = true := by decide +kernel
def bX3_hunt_8 : List mB := [(.iconst (-1), mI (-1))]
theorem kX3_hunt_8 : mchk MX3_hunt 8 bX3_hunt_8 9 = true := by decide +kernel
theorem tX3_hunt_9 : mbk MX3_hunt 9 (.goto 23) 32 = true := by decide +kernel
def bX3_hunt_12 : List mB := [(.aload_n 0, mI 0), (.iload_n 1, mI 0)]
theorem kX3_hunt_12 : mchk MX3_hunt 12 bX3_hunt_12 14 = true := by decide +kernel
theorem tX3_hunt_14 : mdk MX3_hunt 14 (.invokevirtual 109) = true := by decide +kernel
theorem tX3_hunt_17 : mbk MX3_hunt 17 (.ifCond .ne 8) 25 = true := by decide +kernel
def bX3_hunt_20 : List mB := [(.bipush (-3), mI (-3))]
theorem kX3_hunt_20 : mchk MX3_hunt 20 bX3_hunt_20 22 = true := by decide +kernel
theorem tX3_hunt_22 : mbk MX3_hunt 22 (.goto 10) 32 = true := by decide +kernel
def bX3_hunt_25 : List mB := [(.iload_n 2, mI 0), (.iconst 1, mI (nI 1)), (.bipush 60, mI (nI 60))]
theorem kX3_hunt_25 : mchk MX3_hunt 25 bX3_hunt_25 29 = true := by decide +kernel
theorem tX3_hunt_29 : mdk MX3_hunt 29 (.invokestatic 63) = true := by decide +kernel
def bX3_hunt_32 : List mB := [(.istore 4, mI 0), (.iload 4, mI 0)]
theorem kX3_hunt_32 : mchk MX3_hunt 32 bX3_hunt_32 36 = true := by decide +kernel
theorem tX3_hunt_36 : mbk MX3_hunt 36 (.ifCond .ne 16) 52 = true := by decide +kernel
def bX3_hunt_39 : List mB := [(.iload_n 3, mI 0), (.iconst 0, mI (nI 0)), (.iconst 1, mI (nI 1))]
theorem kX3_hunt_39 : mchk MX3_hunt 39 bX3_hunt_39 42 = true := by decide +kernel
theorem tX3_hunt_42 : mdk MX3_hunt 42 (.invokestatic 81) = true := by decide +kernel
theorem tX3_hunt_45 : mbk MX3_hunt 45 (.ifCond .ne 7) 52 = true := by decide +kernel
def bX3_hunt_48 : List mB := [(.bipush (-2), mI (-2)), (.istore 4, mI 0)]
theorem kX3_hunt_48 : mchk MX3_hunt 48 bX3_hunt_48 52 = true := by decide +kernel
def bX3_hunt_52 : List mB := [(.iload 4, mI 0)]
theorem kX3_hunt_52 : mchk MX3_hunt 52 bX3_hunt_52 54 = true := by decide +kernel
theorem tX3_hunt_54 : mbk MX3_hunt 54 (.ifCond .eq 10) 64 = true := by decide +kernel
def bX3_hunt_57 : List mB := [(.aload_n 0, mI 0), (.iload 4, mI 0)]
theorem kX3_hunt_57 : mchk MX3_hunt 57 bX3_hunt_57 60 = true := by decide +kernel
theorem tX3_hunt_60 : mdk MX3_hunt 60 (.invokevirtual 70) = true := by decide +kernel
theorem tX3_hunt_63 : mrk MX3_hunt 63 .ireturn = true := by decide +kernel
def bX3_hunt_64 : List mB := [(.aload_n 0, mI 0), (.getfield 13, mR 3 1), (.iload_n 1, mI 0), (.iaload, mI 0), (.istore 5, mI 0), (.iconst 0, mI (nI 0)), (.istore 6, mI 0), (.iconst (-1), mI (-1)), (.istore 7, mI 0), (.iconst 0, mI (nI 0)), (.istore 8, mI 0)]
theorem kX3_hunt_64 : mchk MX3_hunt 64 bX3_hunt_64 81 = true := by decide +kernel
def bX3_hunt_81 : List mB := [(.iload 8, mI 0), (.iconst 4, mI (nI 4))]
theorem kX3_hunt_81 : mchk MX3_hunt 81 bX3_hunt_81 84 = true := by decide +kernel
theorem tX3_hunt_84 : mbk MX3_hunt 84 (.if_icmp .ge 47) 131 = true := by decide +kernel
def bX3_hunt_87 : List mB := [(.aload_n 0, mI 0), (.getfield 13, mR 3 1), (.iload_n 1, mI 0), (.iconst 4, mI (nI 4)), (.iload 8, mI 0), (.iadd, mI 0), (.iastore, mI 0), (.aload_n 0, mI 0), (.iload_n 2, mI 0), (.iconst 0, mI (nI 0))]
theorem kX3_hunt_87 : mchk MX3_hunt 87 bX3_hunt_87 100 = true := by decide +kernel
theorem tX3_hunt_100 : mdk MX3_hunt 100 (.invokevirtual 232) = true := by decide +kernel
def bX3_hunt_103 : List mB := [(.aload_n 0, mI 0), (.getfield 211, mR 3 23), (.iload 7, mI 0)]
theorem kX3_hunt_103 : mchk MX3_hunt 103 bX3_hunt_103 109 = true := by decide +kernel
theorem tX3_hunt_109 : mbk MX3_hunt 109 (.if_icmp .gt 6) 115 = true := by decide +kernel
theorem tX3_hunt_112 : mbk MX3_hunt 112 (.goto 13) 125 = true := by decide +kernel
def bX3_hunt_115 : List mB := [(.iload 8, mI 0), (.istore 6, mI 0), (.aload_n 0, mI 0), (.getfield 211, mR 3 23), (.istore 7, mI 0)]
theorem kX3_hunt_115 : mchk MX3_hunt 115 bX3_hunt_115 125 = true := by decide +kernel
def bX3_hunt_125 : List mB := [(.iinc 8 1, mI (nI 1))]
theorem kX3_hunt_125 : mchk MX3_hunt 125 bX3_hunt_125 128 = true := by decide +kernel
theorem tX3_hunt_128 : mbk MX3_hunt 128 (.goto (-47)) 81 = true := by decide +kernel
def bX3_hunt_131 : List mB := [(.aload_n 0, mI 0), (.getfield 13, mR 3 1), (.iload_n 1, mI 0), (.iload 5, mI 0), (.iastore, mI 0), (.iload_n 3, mI 0)]
theorem kX3_hunt_131 : mchk MX3_hunt 131 bX3_hunt_131 140 = true := by decide +kernel
theorem tX3_hunt_140 : mbk MX3_hunt 140 (.ifCond .ne 8) 148 = true := by decide +kernel
def bX3_hunt_143 : List mB := [(.iload 6, mI 0)]
theorem kX3_hunt_143 : mchk MX3_hunt 143 bX3_hunt_143 145 = true := by decide +kernel
theorem tX3_hunt_145 : mbk MX3_hunt 145 (.goto 5) 150 = true := by decide +kernel
def bX3_hunt_148 : List mB := [(.iload 7, mI 0)]
theorem kX3_hunt_148 : mchk MX3_hunt 148 bX3_hunt_148 150 = true := by decide +kernel
theorem tX3_hunt_150 : mrk MX3_hunt 150 .ireturn = true := by decide +kernel
def bX3_enough_0 : List mB := [(.aload_n 0, mI 0)]
theorem kX3_enough_0 : mchk MX3_enough 0 bX3_enough_0 1 = true := by decide +kernel
theorem tX3_enough_1 : mdk MX3_enough 1 (.invokevirtual 235) = true := by decide +kernel
theorem tX3_enough_4 : mbk MX3_enough 4 (.ifCond .ne 10) 14 = true := by decide +kernel
def bX3_enough_7 : List mB := [(.aload_n 0, mI 0), (.bipush (-3), mI (-3))]
theorem kX3_enough_7 : mchk MX3_enough 7 bX3_enough_7 10 = true := by decide +kernel
theorem tX3_enough_10 : mdk MX3_enough 10 (.invokevirtual 70) = true := by decide +kernel
theorem tX3_enough_13 : mrk MX3_enough 13 .ireturn = true := by decide +kernel
def bX3_enough_14 : List mB := [(.aload_n 0, mI 0), (.getfield 60, mR 3 7), (.istore_n 1, mI 0), (.bipush (-9), mI (-9)), (.istore_n 2, mI 0), (.iconst 0, mI (nI 0)), (.istore_n 3, mI 0)]
theorem kX3_enough_14 : mchk MX3_enough 14 bX3_enough_14 24 = true := by decide +kernel
def bX3_enough_24 : List mB := [(.iload_n 3, mI 0), (.iconst 4, mI (nI 4))]
theorem kX3_enough_24 : mchk MX3_enough 24 bX3_enough_24 26 = true := by decide +kernel
theorem tX3_enough_26 : mbk MX3_enough 26 (.if_icmp .ge 47) 73 = true := by decide +kernel
def bX3_enough_29 : List mB := [(.iload_n 2, mI 0)]
theorem kX3_enough_29 : mchk MX3_enough 29 bX3_enough_29 30 = true := by decide +kernel
theorem tX3_enough_30 : mbk MX3_enough 30 (.ifCond .ge 43) 73 = true := by decide +kernel
def bX3_enough_33 : List mB := [(.iload_n 3, mI 0)]
theorem kX3_enough_33 : mchk MX3_enough 33 bX3_enough_33 34 = true := by decide +kernel
theorem tX3_enough_34 : mbk MX3_enough 34 (.ifCond .le 19) 53 = true := by decide +kernel
def bX3_enough_37 : List mB := [(.aload_n 0, mI 0), (.getfield 60, mR 3 7), (.bipush 8, mI (nI 8))]
theorem kX3_enough_37 : mchk MX3_enough 37 bX3_enough_37 43 = true := by decide +kernel
theorem tX3_enough_43 : mbk MX3_enough 43 (.if_icmp .ge 10) 53 = true := by decide +kernel
def bX3_enough_46 : List mB := [(.aload_n 0, mI 0), (.iconst 4, mI (nI 4)), (.iconst 0, mI (nI 0)), (.iconst 0, mI (nI 0))]
theorem kX3_enough_46 : mchk MX3_enough 46 bX3_enough_46 50 = true := by decide +kernel
theorem tX3_enough_50 : mdk MX3_enough 50 (.invokevirtual 102) = true := by decide +kernel
def bX3_enough_53 : List mB := [(.aload_n 0, mI 0)]
theorem kX3_enough_53 : mchk MX3_enough 53 bX3_enough_53 54 = true := by decide +kernel
theorem tX3_enough_54 : mdk MX3_enough 54 (.invokevirtual 238) = true := by decide +kernel
theorem tX3_enough_57 : mbk MX3_enough 57 (.ifCond .lt 7) 64 = true := by decide +kernel
def bX3_enough_60 : List mB := [(.iload_n 3, mI 0)]
theorem kX3_enough_60 : mchk MX3_enough 60 bX3_enough_60 61 = true := by decide +kernel
theorem tX3_enough_61 : mbk MX3_enough 61 (.goto 5) 66 = true := by decide +kernel
def bX3_enough_64 : List mB := [(.bipush (-9), mI (-9))]
theorem kX3_enough_64 : mchk MX3_enough 64 bX3_enough_64 66 = true := by decide +kernel
def bX3_enough_66 : List mB := [(.istore_n 2, mI 0), (.iinc 3 1, mI (nI 1))]
theorem kX3_enough_66 : mchk MX3_enough 66 bX3_enough_66 70 = true := by decide +kernel
theorem tX3_enough_70 : mbk MX3_enough 70 (.goto (-46)) 24 = true := by decide +kernel
def bX3_enough_73 : List mB := [(.aload_n 0, mI 0), (.iload_n 1, mI 0), (.putfield 60, mR 3 7), (.iload_n 2, mI 0)]
theorem kX3_enough_73 : mchk MX3_enough 73 bX3_enough_73 79 = true := by decide +kernel
theorem tX3_enough_79 : mrk MX3_enough 79 .ireturn = true := by decide +kernel
def bX3_standAfterChange_0 : List mB := [(.aload_n 0, mI 0), (.iconst 1, mI (nI 1)), (.iconst 1, mI (nI 1))]
theorem kX3_standAfterChange_0 : mchk MX3_standAfterChange 0 bX3_standAfterChange_0 3 = true := by decide +kernel
theorem tX3_standAfterChange_3 : mdk MX3_standAfterChange 3 (.invokevirtual 119) = true := by decide +kernel
def bX3_standAfterChange_6 : List mB := [(.iconst 0, mI (nI 0)), (.istore 4, mI 0)]
theorem kX3_standAfterChange_6 : mchk MX3_standAfterChange 6 bX3_standAfterChange_6 9 = true := by decide +kernel
def bX3_standAfterChange_9 : List mB := [(.iload 4, mI 0), (.bipush 30, mI (nI 30))]
theorem kX3_standAfterChange_9 : mchk MX3_standAfterChange 9 bX3_standAfterChange_9 13 = true := by decide +kernel
theorem tX3_standAfterChange_13 : mbk MX3_standAfterChange 13 (.if_icmp .ge 25) 38 = true := by decide +kernel
def bX3_standAfterChange_16 : List mB := [(.iload 4, mI 0), (.iload_n 3, mI 0)]
theorem kX3_standAfterChange_16 : mchk MX3_standAfterChange 16 bX3_standAfterChange_16 19 = true := by decide +kernel
theorem tX3_standAfterChange_19 : mbk MX3_standAfterChange 19 (.if_icmp .ne 9) 28 = true := by decide +kernel
def bX3_standAfterChange_22 : List mB := [(.aload_n 0, mI 0), (.iload_n 1, mI 0), (.iload_n 2, mI 0)]
theorem kX3_standAfterChange_22 : mchk MX3_standAfterChange 22 bX3_standAfterChange_22 25 = true := by decide +kernel
theorem tX3_standAfterChange_25 : mdk MX3_standAfterChange 25 (.invokevirtual 255) = true := by decide +kernel
def bX3_standAfterChange_28 : List mB := [(.aload_n 0, mI 0)]
theorem kX3_standAfterChange_28 : mchk MX3_standAfterChange 28 bX3_standAfterChange_28 29 = true := by decide +kernel
theorem tX3_standAfterChange_29 : mdk MX3_standAfterChange 29 (.invokevirtual 208) = true := by decide +kernel
def bX3_standAfterChange_32 : List mB := [(.iinc 4 1, mI (nI 1))]
theorem kX3_standAfterChange_32 : mchk MX3_standAfterChange 32 bX3_standAfterChange_32 35 = true := by decide +kernel
theorem tX3_standAfterChange_35 : mbk MX3_standAfterChange 35 (.goto (-26)) 9 = true := by decide +kernel
def bX3_standAfterChange_38 : List mB := [(.aload_n 0, mI 0)]
theorem kX3_standAfterChange_38 : mchk MX3_standAfterChange 38 bX3_standAfterChange_38 39 = true := by decide +kernel
theorem tX3_standAfterChange_39 : mdk MX3_standAfterChange 39 (.invokevirtual 214) = true := by decide +kernel
theorem tX3_standAfterChange_42 : mdk MX3_standAfterChange 42 (.invokestatic 220) = true := by decide +kernel
def bX3_standAfterChange_45 : List mB := [(.istore 4, mI 0), (.aload_n 0, mI 0), (.iconst 1, mI (nI 1)), (.iconst 0, mI (nI 0))]
theorem kX3_standAfterChange_45 : mchk MX3_standAfterChange 45 bX3_standAfterChange_45 50 = true := by decide +kernel
theorem tX3_standAfterChange_50 : mdk MX3_standAfterChange 50 (.invokevirtual 119) = true := by decide +kernel
def bX3_standAfterChange_53 : List mB := [(.iload 4, mI 0)]
theorem kX3_standAfterChange_53 : mchk MX3_standAfterChange 53 bX3_standAfterChange_53 55 = true := by decide +kernel
theorem tX3_standAfterChange_55 : mrk MX3_standAfterChange 55 .ireturn = true := by decide +kernel
def bX3_changes_0 : List mB := [(.aload_n 0, mI 0), (.getfield 13, mR 3 1), (.iload_n 1, mI 0), (.iaload, mI 0), (.istore_n 3, mI 0), (.aload_n 0, mI 0), (.getfield 13, mR 3 1), (.iload_n 1, mI 0), (.aload_n 0, mI 0), (.getfield 13, mR 3 1), (.iload_n 2, mI 0), (.iaload, mI 0), (.iastore, mI 0), (.aload_n 0, mI 0), (.getfield 13, mR 3 1), (.iload_n 2, mI 0), (.iload_n 3, mI 0), (.iastore, mI 0), (.aload_n 0, mI 0), (.getfield 22, mR 3 4), (.iload_n 2, mI 0), (.iconst 0, mI (nI 0)), (.iastore, mI 0)]
theorem kX3_changes_0 : mchk MX3_changes 0 bX3_changes_0 33 = true := by decide +kernel
theorem tX3_changes_33 : mrk MX3_changes 33 .return_ = true := by decide +kernel
def bX3_change_0 : List mB := [(.aload_n 0, mI 0), (.iload_n 1, mI 0)]
theorem kX3_change_0 : mchk MX3_change 0 bX3_change_0 2 = true := by decide +kernel
theorem tX3_change_2 : mdk MX3_change 2 (.invokevirtual 106) = true := by decide +kernel
theorem tX3_change_5 : mbk MX3_change 5 (.ifCond .eq 11) 16 = true := by decide +kernel
def bX3_change_8 : List mB := [(.aload_n 0, mI 0), (.iload_n 2, mI 0)]
theorem kX3_change_8 : mchk MX3_change 8 bX3_change_8 10 = true := by decide +kernel
theorem tX3_change_10 : mdk MX3_change 10 (.invokevirtual 106) = true := by decide +kernel
theorem tX3_change_13 : mbk MX3_change 13 (.ifCond .ne 7) 20 = true := by decide +kernel
def bX3_change_16 : List mB := [(.iconst (-1), mI (-1))]
theorem kX3_change_16 : mchk MX3_change 16 bX3_change_16 17 = true := by decide +kernel
theorem tX3_change_17 : mbk MX3_change 17 (.goto 39) 56 = true := by decide +kernel
def bX3_change_20 : List mB := [(.aload_n 0, mI 0), (.iload_n 1, mI 0)]
theorem kX3_change_20 : mchk MX3_change 20 bX3_change_20 22 = true := by decide +kernel
theorem tX3_change_22 : mdk MX3_change 22 (.invokevirtual 109) = true := by decide +kernel
theorem tX3_change_25 : mbk MX3_change 25 (.ifCond .eq 11) 36 = true := by decide +kernel
def bX3_change_28 : List mB := [(.aload_n 0, mI 0), (.iload_n 2, mI 0)]
theorem kX3_change_28 : mchk MX3_change 28 bX3_change_28 30 = true := by decide +kernel
theorem tX3_change_30 : mdk MX3_change 30 (.invokevirtual 109) = true := by decide +kernel
theorem tX3_change_33 : mbk MX3_change 33 (.ifCond .eq 8) 41 = true := by decide +kernel
def bX3_change_36 : List mB := [(.bipush (-3), mI (-3))]
theorem kX3_change_36 : mchk MX3_change 36 bX3_change_36 38 = true := by decide +kernel
theorem tX3_change_38 : mbk MX3_change 38 (.goto 18) 56 = true := by decide +kernel
def bX3_change_41 : List mB := [(.iload_n 3, mI 0), (.iconst 0, mI (nI 0)), (.iconst 1, mI (nI 1))]
theorem kX3_change_41 : mchk MX3_change 41 bX3_change_41 44 = true := by decide +kernel
theorem tX3_change_44 : mdk MX3_change 44 (.invokestatic 81) = true := by decide +kernel
theorem tX3_change_47 : mbk MX3_change 47 (.ifCond .ne 8) 55 = true := by decide +kernel
def bX3_change_50 : List mB := [(.bipush (-2), mI (-2))]
theorem kX3_change_50 : mchk MX3_change 50 bX3_change_50 52 = true := by decide +kernel
theorem tX3_change_52 : mbk MX3_change 52 (.goto 4) 56 = true := by decide +kernel
def bX3_change_55 : List mB := [(.iconst 0, mI (nI 0))]
theorem kX3_change_55 : mchk MX3_change 55 bX3_change_55 56 = true := by decide +kernel
def bX3_change_56 : List mB := [(.istore 4, mI 0), (.iload 4, mI 0)]
theorem kX3_change_56 : mchk MX3_change 56 bX3_change_56 60 = true := by decide +kernel
theorem tX3_change_60 : mbk MX3_change 60 (.ifCond .eq 10) 70 = true := by decide +kernel
def bX3_change_63 : List mB := [(.aload_n 0, mI 0), (.iload 4, mI 0)]
theorem kX3_change_63 : mchk MX3_change 63 bX3_change_63 66 = true := by decide +kernel
theorem tX3_change_66 : mdk MX3_change 66 (.invokevirtual 70) = true := by decide +kernel
theorem tX3_change_69 : mrk MX3_change 69 .ireturn = true := by decide +kernel
def bX3_change_70 : List mB := [(.iconst 0, mI (nI 0)), (.istore 5, mI 0), (.iconst (-1), mI (-1)), (.istore 6, mI 0), (.iconst 0, mI (nI 0)), (.istore 7, mI 0)]
theorem kX3_change_70 : mchk MX3_change 70 bX3_change_70 79 = true := by decide +kernel
def bX3_change_79 : List mB := [(.iload 7, mI 0), (.bipush 21, mI (nI 21))]
theorem kX3_change_79 : mchk MX3_change 79 bX3_change_79 83 = true := by decide +kernel
theorem tX3_change_83 : mbk MX3_change 83 (.if_icmp .ge 37) 120 = true := by decide +kernel
def bX3_change_86 : List mB := [(.aload_n 0, mI 0), (.iload_n 1, mI 0), (.iload_n 2, mI 0), (.iload 7, mI 0)]
theorem kX3_change_86 : mchk MX3_change 86 bX3_change_86 91 = true := by decide +kernel
theorem tX3_change_91 : mdk MX3_change 91 (.invokevirtual 258) = true := by decide +kernel
def bX3_change_94 : List mB := [(.istore 8, mI 0), (.iload 8, mI 0), (.iload 6, mI 0)]
theorem kX3_change_94 : mchk MX3_change 94 bX3_change_94 100 = true := by decide +kernel
theorem tX3_change_100 : mbk MX3_change 100 (.if_icmp .gt 6) 106 = true := by decide +kernel
theorem tX3_change_103 : mbk MX3_change 103 (.goto 11) 114 = true := by decide +kernel
def bX3_change_106 : List mB := [(.iload 7, mI 0), (.istore 5, mI 0), (.iload 8, mI 0), (.istore 6, mI 0)]
theorem kX3_change_106 : mchk MX3_change 106 bX3_change_106 114 = true := by decide +kernel
def bX3_change_114 : List mB := [(.iinc 7 1, mI (nI 1))]
theorem kX3_change_114 : mchk MX3_change 114 bX3_change_114 117 = true := by decide +kernel
theorem tX3_change_117 : mbk MX3_change 117 (.goto (-38)) 79 = true := by decide +kernel
def bX3_change_120 : List mB := [(.iload_n 3, mI 0)]
theorem kX3_change_120 : mchk MX3_change 120 bX3_change_120 121 = true := by decide +kernel
theorem tX3_change_121 : mbk MX3_change 121 (.ifCond .ne 8) 129 = true := by decide +kernel
def bX3_change_124 : List mB := [(.iload 5, mI 0)]
theorem kX3_change_124 : mchk MX3_change 124 bX3_change_124 126 = true := by decide +kernel
theorem tX3_change_126 : mbk MX3_change 126 (.goto 5) 131 = true := by decide +kernel
def bX3_change_129 : List mB := [(.iload 6, mI 0)]
theorem kX3_change_129 : mchk MX3_change 129 bX3_change_129 131 = true := by decide +kernel
theorem tX3_change_131 : mrk MX3_change 131 .ireturn = true := by decide +kernel
def bX3_longest_0 : List mB := [(.aload_n 0, mI 0)]
theorem kX3_longest_0 : mchk MX3_longest 0 bX3_longest_0 1 = true := by decide +kernel
theorem tX3_longest_1 : mdk MX3_longest 1 (.invokevirtual 235) = true := by decide +kernel
theorem tX3_longest_4 : mbk MX3_longest 4 (.ifCond .ne 10) 14 = true := by decide +kernel
def bX3_longest_7 : List mB := [(.aload_n 0, mI 0), (.bipush (-3), mI (-3))]
theorem kX3_longest_7 : mchk MX3_longest 7 bX3_longest_7 10 = true := by decide +kernel
theorem tX3_longest_10 : mdk MX3_longest 10 (.invokevirtual 70) = true := by decide +kernel
theorem tX3_longest_13 : mrk MX3_longest 13 .ireturn = true := by decide +kernel
def bX3_longest_14 : List mB := [(.aload_n 0, mI 0), (.getfield 112, mR 3 8), (.istore_n 1, mI 0), (.iconst 0, mI (nI 0)), (.istore_n 2, mI 0), (.iconst (-1), mI (-1)), (.istore_n 3, mI 0), (.iconst 0, mI (nI 0)), (.istore 4, mI 0)]
theorem kX3_longest_14 : mchk MX3_longest 14 bX3_longest_14 26 = true := by decide +kernel
def bX3_longest_26 : List mB := [(.iload 4, mI 0), (.iconst 4, mI (nI 4))]
theorem kX3_longest_26 : mchk MX3_longest 26 bX3_longest_26 29 = true := by decide +kernel
theorem tX3_longest_29 : mbk MX3_longest 29 (.if_icmp .ge 50) 79 = true := by decide +kernel
def bX3_longest_32 : List mB := [(.aload_n 0, mI 0), (.iload 4, mI 0), (.putfield 112, mR 3 8), (.aload_n 0, mI 0)]
theorem kX3_longest_32 : mchk MX3_longest 32 bX3_longest_32 39 = true := by decide +kernel
theorem tX3_longest_39 : mdk MX3_longest 39 (.invokevirtual 238) = true := by decide +kernel
def bX3_longest_42 : List mB := [(.istore 5, mI 0), (.iload 5, mI 0)]
theorem kX3_longest_42 : mchk MX3_longest 42 bX3_longest_42 46 = true := by decide +kernel
theorem tX3_longest_46 : mbk MX3_longest 46 (.ifCond .ge 8) 54 = true := by decide +kernel
def bX3_longest_49 : List mB := [(.bipush 61, mI (nI 61))]
theorem kX3_longest_49 : mchk MX3_longest 49 bX3_longest_49 51 = true := by decide +kernel
theorem tX3_longest_51 : mbk MX3_longest 51 (.goto 5) 56 = true := by decide +kernel
def bX3_longest_54 : List mB := [(.iload 5, mI 0)]
theorem kX3_longest_54 : mchk MX3_longest 54 bX3_longest_54 56 = true := by decide +kernel
def bX3_longest_56 : List mB := [(.istore 5, mI 0), (.iload 5, mI 0), (.iload_n 3, mI 0)]
theorem kX3_longest_56 : mchk MX3_longest 56 bX3_longest_56 61 = true := by decide +kernel
theorem tX3_longest_61 : mbk MX3_longest 61 (.if_icmp .gt 6) 67 = true := by decide +kernel
theorem tX3_longest_64 : mbk MX3_longest 64 (.goto 9) 73 = true := by decide +kernel
def bX3_longest_67 : List mB := [(.iload 4, mI 0), (.istore_n 2, mI 0), (.iload 5, mI 0), (.istore_n 3, mI 0)]
theorem kX3_longest_67 : mchk MX3_longest 67 bX3_longest_67 73 = true := by decide +kernel
def bX3_longest_73 : List mB := [(.iinc 4 1, mI (nI 1))]
theorem kX3_longest_73 : mchk MX3_longest 73 bX3_longest_73 76 = true := by decide +kernel
theorem tX3_longest_76 : mbk MX3_longest 76 (.goto (-50)) 26 = true := by decide +kernel
def bX3_longest_79 : List mB := [(.aload_n 0, mI 0), (.iload_n 1, mI 0), (.putfield 112, mR 3 8), (.iload_n 2, mI 0)]
theorem kX3_longest_79 : mchk MX3_longest 79 bX3_longest_79 85 = true := by decide +kernel
theorem tX3_longest_85 : mrk MX3_longest 85 .ireturn = true := by decide +kernel
def bX3_owes_0 : List mB := [(.aload_n 0, mI 0), (.iload_n 1, mI 0)]
theorem kX3_owes_0 : mchk MX3_owes 0 bX3_owes_0 2 = true := by decide +kernel
theorem tX3_owes_2 : mdk MX3_owes 2 (.invokevirtual 106) = true := by decide +kernel
theorem tX3_owes_5 : mbk MX3_owes 5 (.ifCond .eq 25) 30 = true := by decide +kernel
def bX3_owes_8 : List mB := [(.aload_n 0, mI 0), (.iload_n 2, mI 0)]
theorem kX3_owes_8 : mchk MX3_owes 8 bX3_owes_8 10 = true := by decide +kernel
theorem tX3_owes_10 : mdk MX3_owes 10 (.invokevirtual 106) = true := by decide +kernel
theorem tX3_owes_13 : mbk MX3_owes 13 (.ifCond .eq 17) 30 = true := by decide +kernel
def bX3_owes_16 : List mB := [(.aload_n 0, mI 0), (.getfield 28, mR 3 6), (.bipush 8, mI (nI 8)), (.iload_n 2, mI 0), (.imul, mI 0), (.iload_n 1, mI 0), (.iadd, mI 0), (.iaload, mI 0)]
theorem kX3_owes_16 : mchk MX3_owes 16 bX3_owes_16 27 = true := by decide +kernel
theorem tX3_owes_27 : mbk MX3_owes 27 (.goto 8) 35 = true := by decide +kernel
def bX3_owes_30 : List mB := [(.aload_n 0, mI 0), (.iconst (-1), mI (-1))]
theorem kX3_owes_30 : mchk MX3_owes 30 bX3_owes_30 32 = true := by decide +kernel
theorem tX3_owes_32 : mdk MX3_owes 32 (.invokevirtual 70) = true := by decide +kernel
theorem tX3_owes_35 : mrk MX3_owes 35 .ireturn = true := by decide +kernel
def bX3_debt_0 : List mB := [(.aload_n 0, mI 0), (.iload_n 1, mI 0)]
theorem kX3_debt_0 : mchk MX3_debt 0 bX3_debt_0 2 = true := by decide +kernel
theorem tX3_debt_2 : mdk MX3_debt 2 (.invokevirtual 106) = true := by decide +kernel
theorem tX3_debt_5 : mbk MX3_debt 5 (.ifCond .ne 9) 14 = true := by decide +kernel
def bX3_debt_8 : List mB := [(.aload_n 0, mI 0), (.iconst (-1), mI (-1))]
theorem kX3_debt_8 : mchk MX3_debt 8 bX3_debt_8 10 = true := by decide +kernel
theorem tX3_debt_10 : mdk MX3_debt 10 (.invokevirtual 249) = true := by decide +kernel
theorem tX3_debt_13 : mrk MX3_debt 13 .ireturn = true := by decide +kernel
def bX3_debt_14 : List mB := [(.iconst 0, mI (nI 0)), (.istore_n 2, mI 0), (.iconst 0, mI (nI 0)), (.istore_n 3, mI 0)]
theorem kX3_debt_14 : mchk MX3_debt 14 bX3_debt_14 18 = true := by decide +kernel
def bX3_debt_18 : List mB := [(.iload_n 3, mI 0), (.bipush 8, mI (nI 8))]
theorem kX3_debt_18 : mchk MX3_debt 18 bX3_debt_18 21 = true := by decide +kernel
theorem tX3_debt_21 : mbk MX3_debt 21 (.if_icmp .ge 35) 56 = true := by decide +kernel
def bX3_debt_24 : List mB := [(.iload_n 2, mI 0), (.aload_n 0, mI 0), (.getfield 28, mR 3 6), (.bipush 8, mI (nI 8)), (.iload_n 1, mI 0), (.imul, mI 0), (.iload_n 3, mI 0), (.iadd, mI 0), (.iaload, mI 0), (.aload_n 0, mI 0), (.getfield 28, mR 3 6), (.bipush 8, mI (nI 8)), (.iload_n 3, mI 0), (.imul, mI 0), (.iload_n 1, mI 0), (.iadd, mI 0), (.iaload, mI 0), (.isub, mI 0), (.iadd, mI 0), (.istore_n 2, mI 0), (.iinc 3 1, mI (nI 1))]
theorem kX3_debt_24 : mchk MX3_debt 24 bX3_debt_24 53 = true := by decide +kernel
theorem tX3_debt_53 : mbk MX3_debt 53 (.goto (-35)) 18 = true := by decide +kernel
def bX3_debt_56 : List mB := [(.iload_n 2, mI 0)]
theorem kX3_debt_56 : mchk MX3_debt 56 bX3_debt_56 57 = true := by decide +kernel
theorem tX3_debt_57 : mrk MX3_debt 57 .ireturn = true := by decide +kernel
def bX3_isMayed_0 : List mB := [(.iconst 0, mI (nI 0)), (.istore_n 2, mI 0)]
theorem kX3_isMayed_0 : mchk MX3_isMayed 0 bX3_isMayed_0 2 = true := by decide +kernel
def bX3_isMayed_2 : List mB := [(.iload_n 2, mI 0), (.aload_n 0, mI 0), (.getfield 60, mR 3 7)]
theorem kX3_isMayed_2 : mchk MX3_isMayed 2 bX3_isMayed_2 7 = true := by decide +kernel
theorem tX3_isMayed_7 : mbk MX3_isMayed 7 (.if_icmp .ge 46) 53 = true := by decide +kernel
def bX3_isMayed_10 : List mB := [(.iload_n 2, mI 0), (.iload_n 1, mI 0)]
theorem kX3_isMayed_10 : mchk MX3_isMayed 10 bX3_isMayed_10 12 = true := by decide +kernel
theorem tX3_isMayed_12 : mbk MX3_isMayed 12 (.if_icmp .eq 35) 47 = true := by decide +kernel
def bX3_isMayed_15 : List mB := [(.aload_n 0, mI 0), (.getfield 13, mR 3 1), (.iload_n 2, mI 0), (.iaload, mI 0), (.iconst 1, mI (nI 1))]
theorem kX3_isMayed_15 : mchk MX3_isMayed 15 bX3_isMayed_15 22 = true := by decide +kernel
theorem tX3_isMayed_22 : mbk MX3_isMayed 22 (.if_icmp .eq 23) 45 = true := by decide +kernel
def bX3_isMayed_25 : List mB := [(.aload_n 0, mI 0), (.getfield 13, mR 3 1), (.iload_n 2, mI 0), (.iaload, mI 0), (.iconst 2, mI (nI 2))]
theorem kX3_isMayed_25 : mchk MX3_isMayed 25 bX3_isMayed_25 32 = true := by decide +kernel
theorem tX3_isMayed_32 : mbk MX3_isMayed 32 (.if_icmp .ne 15) 47 = true := by decide +kernel
def bX3_isMayed_35 : List mB := [(.aload_n 0, mI 0), (.getfield 19, mR 3 3), (.iload_n 2, mI 0), (.iaload, mI 0), (.iload_n 1, mI 0)]
theorem kX3_isMayed_35 : mchk MX3_isMayed 35 bX3_isMayed_35 42 = true := by decide +kernel
theorem tX3_isMayed_42 : mbk MX3_isMayed 42 (.if_icmp .ne 5) 47 = true := by decide +kernel
def bX3_isMayed_45 : List mB := [(.iconst 1, mI (nI 1))]
theorem kX3_isMayed_45 : mchk MX3_isMayed 45 bX3_isMayed_45 46 = true := by decide +kernel
theorem tX3_isMayed_46 : mrk MX3_isMayed 46 .ireturn = true := by decide +kernel
def bX3_isMayed_47 : List mB := [(.iinc 2 1, mI (nI 1))]
theorem kX3_isMayed_47 : mchk MX3_isMayed 47 bX3_isMayed_47 50 = true := by decide +kernel
theorem tX3_isMayed_50 : mbk MX3_isMayed 50 (.goto (-48)) 2 = true := by decide +kernel
def bX3_isMayed_53 : List mB := [(.iconst 0, mI (nI 0))]
theorem kX3_isMayed_53 : mchk MX3_isMayed 53 bX3_isMayed_53 54 = true := by decide +kernel
theorem tX3_isMayed_54 : mrk MX3_isMayed 54 .ireturn = true := by decide +kernel
def bX3_isWatched_0 : List mB := [(.aload_n 0, mI 0), (.iconst 1, mI (nI 1)), (.iconst 1, mI (nI 1))]
theorem kX3_isWatched_0 : mchk MX3_isWatched 0 bX3_isWatched_0 3 = true := by decide +kernel
theorem tX3_isWatched_3 : mdk MX3_isWatched 3 (.invokevirtual 119) = true := by decide +kernel
def bX3_isWatched_6 : List mB := [(.iconst 1, mI (nI 1)), (.istore_n 3, mI 0), (.iconst 0, mI (nI 0)), (.istore 4, mI 0)]
theorem kX3_isWatched_6 : mchk MX3_isWatched 6 bX3_isWatched_6 11 = true := by decide +kernel
def bX3_isWatched_11 : List mB := [(.iload 4, mI 0), (.iload_n 2, mI 0)]
theorem kX3_isWatched_11 : mchk MX3_isWatched 11 bX3_isWatched_11 14 = true := by decide +kernel
theorem tX3_isWatched_14 : mbk MX3_isWatched 14 (.if_icmp .ge 35) 49 = true := by decide +kernel
def bX3_isWatched_17 : List mB := [(.aload_n 0, mI 0)]
theorem kX3_isWatched_17 : mchk MX3_isWatched 17 bX3_isWatched_17 18 = true := by decide +kernel
theorem tX3_isWatched_18 : mdk MX3_isWatched 18 (.invokevirtual 208) = true := by decide +kernel
def bX3_isWatched_21 : List mB := [(.iload_n 3, mI 0), (.aload_n 0, mI 0), (.aload_n 0, mI 0), (.getfield 16, mR 3 2), (.iload_n 1, mI 0), (.iaload, mI 0)]
theorem kX3_isWatched_21 : mchk MX3_isWatched 21 bX3_isWatched_21 29 = true := by decide +kernel
theorem tX3_isWatched_29 : mdk MX3_isWatched 29 (.invokevirtual 152) = true := by decide +kernel
def bX3_isWatched_32 : List mB := [(.iconst 2, mI (nI 2))]
theorem kX3_isWatched_32 : mchk MX3_isWatched 32 bX3_isWatched_32 33 = true := by decide +kernel
theorem tX3_isWatched_33 : mbk MX3_isWatched 33 (.if_icmp .ge 7) 40 = true := by decide +kernel
def bX3_isWatched_36 : List mB := [(.iconst 1, mI (nI 1))]
theorem kX3_isWatched_36 : mchk MX3_isWatched 36 bX3_isWatched_36 37 = true := by decide +kernel
theorem tX3_isWatched_37 : mbk MX3_isWatched 37 (.goto 4) 41 = true := by decide +kernel
def bX3_isWatched_40 : List mB := [(.iconst 0, mI (nI 0))]
theorem kX3_isWatched_40 : mchk MX3_isWatched 40 bX3_isWatched_40 41 = true := by decide +kernel
def bX3_isWatched_41 : List mB := [(.iand, mI 0), (.istore_n 3, mI 0), (.iinc 4 1, mI (nI 1))]
theorem kX3_isWatched_41 : mchk MX3_isWatched 41 bX3_isWatched_41 46 = true := by decide +kernel
theorem tX3_isWatched_46 : mbk MX3_isWatched 46 (.goto (-35)) 11 = true := by decide +kernel
def bX3_isWatched_49 : List mB := [(.aload_n 0, mI 0), (.iconst 1, mI (nI 1)), (.iconst 0, mI (nI 0))]
theorem kX3_isWatched_49 : mchk MX3_isWatched 49 bX3_isWatched_49 52 = true := by decide +kernel
theorem tX3_isWatched_52 : mdk MX3_isWatched 52 (.invokevirtual 119) = true := by decide +kernel
def bX3_isWatched_55 : List mB := [(.iload_n 3, mI 0)]
theorem kX3_isWatched_55 : mchk MX3_isWatched 55 bX3_isWatched_55 56 = true := by decide +kernel
theorem tX3_isWatched_56 : mrk MX3_isWatched 56 .ireturn = true := by decide +kernel
def bX3_why_0 : List mB := [(.aload_n 0, mI 0), (.iload_n 1, mI 0)]
theorem kX3_why_0 : mchk MX3_why 0 bX3_why_0 2 = true := by decide +kernel
theorem tX3_why_2 : mdk MX3_why 2 (.invokevirtual 106) = true := by decide +kernel
theorem tX3_why_5 : mbk MX3_why 5 (.ifCond .ne 7) 12 = true := by decide +kernel
def bX3_why_8 : List mB := [(.iconst (-1), mI (-1))]
theorem kX3_why_8 : mchk MX3_why 8 bX3_why_8 9 = true := by decide +kernel
theorem tX3_why_9 : mbk MX3_why 9 (.goto 24) 33 = true := by decide +kernel
def bX3_why_12 : List mB := [(.aload_n 0, mI 0), (.getfield 22, mR 3 4), (.iload_n 1, mI 0), (.iaload, mI 0)]
theorem kX3_why_12 : mchk MX3_why 12 bX3_why_12 18 = true := by decide +kernel
theorem tX3_why_18 : mbk MX3_why 18 (.ifCond .ne 8) 26 = true := by decide +kernel
def bX3_why_21 : List mB := [(.bipush (-3), mI (-3))]
theorem kX3_why_21 : mchk MX3_why 21 bX3_why_21 23 = true := by decide +kernel
theorem tX3_why_23 : mbk MX3_why 23 (.goto 10) 33 = true := by decide +kernel
def bX3_why_26 : List mB := [(.iload_n 2, mI 0), (.iconst 1, mI (nI 1)), (.bipush 60, mI (nI 60))]
theorem kX3_why_26 : mchk MX3_why 26 bX3_why_26 30 = true := by decide +kernel
theorem tX3_why_30 : mdk MX3_why 30 (.invokestatic 63) = true := by decide +kernel
def bX3_why_33 : List mB := [(.istore_n 3, mI 0), (.iload_n 3, mI 0)]
theorem kX3_why_33 : mchk MX3_why 33 bX3_why_33 35 = true := by decide +kernel
theorem tX3_why_35 : mbk MX3_why 35 (.ifCond .eq 9) 44 = true := by decide +kernel
def bX3_why_38 : List mB := [(.aload_n 0, mI 0), (.iload_n 3, mI 0)]
theorem kX3_why_38 : mchk MX3_why 38 bX3_why_38 40 = true := by decide +kernel
theorem tX3_why_40 : mdk MX3_why 40 (.invokevirtual 70) = true := by decide +kernel
theorem tX3_why_43 : mrk MX3_why 43 .ireturn = true := by decide +kernel
def bX3_why_44 : List mB := [(.aload_n 0, mI 0), (.iload_n 2, mI 0), (.iconst 0, mI (nI 0))]
theorem kX3_why_44 : mchk MX3_why 44 bX3_why_44 47 = true := by decide +kernel
theorem tX3_why_47 : mdk MX3_why 47 (.invokevirtual 232) = true := by decide +kernel
def bX3_why_50 : List mB := [(.aload_n 0, mI 0), (.getfield 217, mR 3 24), (.iload_n 1, mI 0), (.ishr, mI 0), (.iconst 1, mI (nI 1)), (.iand, mI 0)]
theorem kX3_why_50 : mchk MX3_why 50 bX3_why_50 58 = true := by decide +kernel
theorem tX3_why_58 : mbk MX3_why 58 (.ifCond .ne 5) 63 = true := by decide +kernel
def bX3_why_61 : List mB := [(.iconst 0, mI (nI 0))]
theorem kX3_why_61 : mchk MX3_why 61 bX3_why_61 62 = true := by decide +kernel
theorem tX3_why_62 : mrk MX3_why 62 .ireturn = true := by decide +kernel
def bX3_why_63 : List mB := [(.aload_n 0, mI 0), (.iload_n 1, mI 0)]
theorem kX3_why_63 : mchk MX3_why 63 bX3_why_63 65 = true := by decide +kernel
theorem tX3_why_65 : mdk MX3_why 65 (.invokevirtual 261) = true := by decide +kernel
theorem tX3_why_68 : mbk MX3_why 68 (.ifCond .ne 7) 75 = true := by decide +kernel
def bX3_why_71 : List mB := [(.iconst 1, mI (nI 1))]
theorem kX3_why_71 : mchk MX3_why 71 bX3_why_71 72 = true := by decide +kernel
theorem tX3_why_72 : mbk MX3_why 72 (.goto 17) 89 = true := by decide +kernel
def bX3_why_75 : List mB := [(.aload_n 0, mI 0), (.iload_n 1, mI 0), (.iload_n 2, mI 0)]
theorem kX3_why_75 : mchk MX3_why 75 bX3_why_75 78 = true := by decide +kernel
theorem tX3_why_78 : mdk MX3_why 78 (.invokevirtual 264) = true := by decide +kernel
theorem tX3_why_81 : mbk MX3_why 81 (.ifCond .eq 7) 88 = true := by decide +kernel
def bX3_why_84 : List mB := [(.iconst 2, mI (nI 2))]
theorem kX3_why_84 : mchk MX3_why 84 bX3_why_84 85 = true := by decide +kernel
theorem tX3_why_85 : mbk MX3_why 85 (.goto 4) 89 = true := by decide +kernel
def bX3_why_88 : List mB := [(.iconst 3, mI (nI 3))]
theorem kX3_why_88 : mchk MX3_why 88 bX3_why_88 89 = true := by decide +kernel
theorem tX3_why_89 : mrk MX3_why 89 .ireturn = true := by decide +kernel
def bX3_row_0 : List mB := [(.iload_n 1, mI 0), (.iconst 0, mI (nI 0)), (.bipush 8, mI (nI 8))]
theorem kX3_row_0 : mchk MX3_row 0 bX3_row_0 4 = true := by decide +kernel
theorem tX3_row_4 : mdk MX3_row 4 (.invokestatic 63) = true := by decide +kernel
def bX3_row_7 : List mB := [(.istore_n 2, mI 0), (.iload_n 2, mI 0)]
theorem kX3_row_7 : mchk MX3_row 7 bX3_row_7 9 = true := by decide +kernel
theorem tX3_row_9 : mbk MX3_row 9 (.ifCond .ne 15) 24 = true := by decide +kernel
def bX3_row_12 : List mB := [(.aload_n 0, mI 0), (.getfield 267, mR 3 29), (.bipush 20, mI (nI 20))]
theorem kX3_row_12 : mchk MX3_row 12 bX3_row_12 18 = true := by decide +kernel
theorem tX3_row_18 : mbk MX3_row 18 (.if_icmp .ne 6) 24 = true := by decide +kernel
def bX3_row_21 : List mB := [(.bipush (-6), mI (-6)), (.istore_n 2, mI 0)]
theorem kX3_row_21 : mchk MX3_row 21 bX3_row_21 24 = true := by decide +kernel
def bX3_row_24 : List mB := [(.iload_n 2, mI 0)]
theorem kX3_row_24 : mchk MX3_row 24 bX3_row_24 25 = true := by decide +kernel
theorem tX3_row_25 : mbk MX3_row 25 (.ifCond .eq 9) 34 = true := by decide +kernel
def bX3_row_28 : List mB := [(.aload_n 0, mI 0), (.iload_n 2, mI 0)]
theorem kX3_row_28 : mchk MX3_row 28 bX3_row_28 30 = true := by decide +kernel
theorem tX3_row_30 : mdk MX3_row 30 (.invokevirtual 70) = true := by decide +kernel
theorem tX3_row_33 : mrk MX3_row 33 .ireturn = true := by decide +kernel
def bX3_row_34 : List mB := [(.aload_n 0, mI 0), (.getfield 50, mR 3 28), (.aload_n 0, mI 0), (.getfield 267, mR 3 29), (.iload_n 1, mI 0), (.iastore, mI 0), (.aload_n 0, mI 0), (.dup, mI 0), (.getfield 267, mR 3 29), (.iconst 1, mI (nI 1)), (.iadd, mI 0), (.putfield 267, mR 3 29), (.aload_n 0, mI 0), (.getfield 267, mR 3 29)]
theorem kX3_row_34 : mchk MX3_row 34 bX3_row_34 58 = true := by decide +kernel
theorem tX3_row_58 : mrk MX3_row 58 .ireturn = true := by decide +kernel
def bX3_wrongAt_0 : List mB := [(.aload_n 0, mI 0), (.iconst 1, mI (nI 1)), (.iconst 1, mI (nI 1))]
theorem kX3_wrongAt_0 : mchk MX3_wrongAt 0 bX3_wrongAt_0 3 = true := by decide +kernel
theorem tX3_wrongAt_3 : mdk MX3_wrongAt 3 (.invokevirtual 119) = true := by decide +kernel
def bX3_wrongAt_6 : List mB := [(.bipush (-9), mI (-9)), (.istore_n 1, mI 0), (.iconst 0, mI (nI 0)), (.istore_n 2, mI 0)]
theorem kX3_wrongAt_6 : mchk MX3_wrongAt 6 bX3_wrongAt_6 11 = true := by decide +kernel
def bX3_wrongAt_11 : List mB := [(.iload_n 2, mI 0), (.aload_n 0, mI 0), (.getfield 267, mR 3 29)]
theorem kX3_wrongAt_11 : mchk MX3_wrongAt 11 bX3_wrongAt_11 16 = true := by decide +kernel
theorem tX3_wrongAt_16 : mbk MX3_wrongAt 16 (.if_icmp .ge 40) 56 = true := by decide +kernel
def bX3_wrongAt_19 : List mB := [(.iload_n 1, mI 0)]
theorem kX3_wrongAt_19 : mchk MX3_wrongAt 19 bX3_wrongAt_19 20 = true := by decide +kernel
theorem tX3_wrongAt_20 : mbk MX3_wrongAt 20 (.ifCond .ge 36) 56 = true := by decide +kernel
def bX3_wrongAt_23 : List mB := [(.aload_n 0, mI 0)]
theorem kX3_wrongAt_23 : mchk MX3_wrongAt 23 bX3_wrongAt_23 24 = true := by decide +kernel
theorem tX3_wrongAt_24 : mdk MX3_wrongAt 24 (.invokevirtual 208) = true := by decide +kernel
def bX3_wrongAt_27 : List mB := [(.aload_n 0, mI 0)]
theorem kX3_wrongAt_27 : mchk MX3_wrongAt 27 bX3_wrongAt_27 28 = true := by decide +kernel
theorem tX3_wrongAt_28 : mdk MX3_wrongAt 28 (.invokevirtual 214) = true := by decide +kernel
theorem tX3_wrongAt_31 : mdk MX3_wrongAt 31 (.invokestatic 220) = true := by decide +kernel
def bX3_wrongAt_34 : List mB := [(.aload_n 0, mI 0), (.getfield 50, mR 3 28), (.iload_n 2, mI 0), (.iaload, mI 0)]
theorem kX3_wrongAt_34 : mchk MX3_wrongAt 34 bX3_wrongAt_34 40 = true := by decide +kernel
theorem tX3_wrongAt_40 : mbk MX3_wrongAt 40 (.if_icmp .eq 7) 47 = true := by decide +kernel
def bX3_wrongAt_43 : List mB := [(.iload_n 2, mI 0)]
theorem kX3_wrongAt_43 : mchk MX3_wrongAt 43 bX3_wrongAt_43 44 = true := by decide +kernel
theorem tX3_wrongAt_44 : mbk MX3_wrongAt 44 (.goto 5) 49 = true := by decide +kernel
def bX3_wrongAt_47 : List mB := [(.bipush (-9), mI (-9))]
theorem kX3_wrongAt_47 : mchk MX3_wrongAt 47 bX3_wrongAt_47 49 = true := by decide +kernel
def bX3_wrongAt_49 : List mB := [(.istore_n 1, mI 0), (.iinc 2 1, mI (nI 1))]
theorem kX3_wrongAt_49 : mchk MX3_wrongAt 49 bX3_wrongAt_49 53 = true := by decide +kernel
theorem tX3_wrongAt_53 : mbk MX3_wrongAt 53 (.goto (-42)) 11 = true := by decide +kernel
def bX3_wrongAt_56 : List mB := [(.aload_n 0, mI 0), (.iconst 1, mI (nI 1)), (.iconst 0, mI (nI 0))]
theorem kX3_wrongAt_56 : mchk MX3_wrongAt 56 bX3_wrongAt_56 59 = true := by decide +kernel
theorem tX3_wrongAt_59 : mdk MX3_wrongAt 59 (.invokevirtual 119) = true := by decide +kernel
def bX3_wrongAt_62 : List mB := [(.iload_n 1, mI 0)]
theorem kX3_wrongAt_62 : mchk MX3_wrongAt 62 bX3_wrongAt_62 63 = true := by decide +kernel
theorem tX3_wrongAt_63 : mrk MX3_wrongAt 63 .ireturn = true := by decide +kernel
def bX3_fits_0 : List mB := [(.aload_n 0, mI 0), (.iload_n 1, mI 0)]
theorem kX3_fits_0 : mchk MX3_fits 0 bX3_fits_0 2 = true := by decide +kernel
theorem tX3_fits_2 : mdk MX3_fits 2 (.invokevirtual 106) = true := by decide +kernel
theorem tX3_fits_5 : mbk MX3_fits 5 (.ifCond .ne 9) 14 = true := by decide +kernel
def bX3_fits_8 : List mB := [(.aload_n 0, mI 0), (.iconst (-1), mI (-1))]
theorem kX3_fits_8 : mchk MX3_fits 8 bX3_fits_8 10 = true := by decide +kernel
theorem tX3_fits_10 : mdk MX3_fits 10 (.invokevirtual 70) = true := by decide +kernel
theorem tX3_fits_13 : mrk MX3_fits 13 .ireturn = true := by decide +kernel
def bX3_fits_14 : List mB := [(.aload_n 0, mI 0), (.getfield 16, mR 3 2), (.iload_n 1, mI 0), (.iaload, mI 0), (.istore_n 2, mI 0), (.iconst 0, mI (nI 0)), (.istore_n 3, mI 0), (.iconst 0, mI (nI 0)), (.istore 4, mI 0)]
theorem kX3_fits_14 : mchk MX3_fits 14 bX3_fits_14 26 = true := by decide +kernel
def bX3_fits_26 : List mB := [(.iload 4, mI 0), (.bipush 24, mI (nI 24))]
theorem kX3_fits_26 : mchk MX3_fits 26 bX3_fits_26 30 = true := by decide +kernel
theorem tX3_fits_30 : mbk MX3_fits 30 (.if_icmp .ge 35) 65 = true := by decide +kernel
def bX3_fits_33 : List mB := [(.aload_n 0, mI 0), (.getfield 16, mR 3 2), (.iload_n 1, mI 0), (.iload 4, mI 0), (.iastore, mI 0), (.iload_n 3, mI 0), (.aload_n 0, mI 0)]
theorem kX3_fits_33 : mchk MX3_fits 33 bX3_fits_33 43 = true := by decide +kernel
theorem tX3_fits_43 : mdk MX3_fits 43 (.invokevirtual 270) = true := by decide +kernel
theorem tX3_fits_46 : mbk MX3_fits 46 (.ifCond .ge 10) 56 = true := by decide +kernel
def bX3_fits_49 : List mB := [(.iconst 1, mI (nI 1)), (.iload 4, mI 0), (.ishl, mI 0)]
theorem kX3_fits_49 : mchk MX3_fits 49 bX3_fits_49 53 = true := by decide +kernel
theorem tX3_fits_53 : mbk MX3_fits 53 (.goto 4) 57 = true := by decide +kernel
def bX3_fits_56 : List mB := [(.iconst 0, mI (nI 0))]
theorem kX3_fits_56 : mchk MX3_fits 56 bX3_fits_56 57 = true := by decide +kernel
def bX3_fits_57 : List mB := [(.ior, mI 0), (.istore_n 3, mI 0), (.iinc 4 1, mI (nI 1))]
theorem kX3_fits_57 : mchk MX3_fits 57 bX3_fits_57 62 = true := by decide +kernel
theorem tX3_fits_62 : mbk MX3_fits 62 (.goto (-36)) 26 = true := by decide +kernel
def bX3_fits_65 : List mB := [(.aload_n 0, mI 0), (.getfield 16, mR 3 2), (.iload_n 1, mI 0), (.iload_n 2, mI 0), (.iastore, mI 0), (.iload_n 3, mI 0)]
theorem kX3_fits_65 : mchk MX3_fits 65 bX3_fits_65 73 = true := by decide +kernel
theorem tX3_fits_73 : mrk MX3_fits 73 .ireturn = true := by decide +kernel
def bX3_judge_0 : List mB := [(.aload_n 0, mI 0)]
theorem kX3_judge_0 : mchk MX3_judge 0 bX3_judge_0 1 = true := by decide +kernel
theorem tX3_judge_1 : mdk MX3_judge 1 (.invokevirtual 270) = true := by decide +kernel
def bX3_judge_4 : List mB := [(.istore_n 1, mI 0), (.aload_n 0, mI 0), (.iconst 0, mI (nI 0)), (.putfield 267, mR 3 29), (.iload_n 1, mI 0)]
theorem kX3_judge_4 : mchk MX3_judge 4 bX3_judge_4 11 = true := by decide +kernel
theorem tX3_judge_11 : mrk MX3_judge 11 .ireturn = true := by decide +kernel
def bX3_lots_0 : List mB := [(.iload_n 1, mI 0), (.iconst 1, mI (nI 1)), (.bipush 20, mI (nI 20))]
theorem kX3_lots_0 : mchk MX3_lots 0 bX3_lots_0 4 = true := by decide +kernel
theorem tX3_lots_4 : mdk MX3_lots 4 (.invokestatic 63) = true := by decide +kernel
def bX3_lots_7 : List mB := [(.istore_n 3, mI 0), (.iload_n 3, mI 0)]
theorem kX3_lots_7 : mchk MX3_lots 7 bX3_lots_7 9 = true := by decide +kernel
theorem tX3_lots_9 : mbk MX3_lots 9 (.ifCond .eq 9) 18 = true := by decide +kernel
def bX3_lots_12 : List mB := [(.aload_n 0, mI 0), (.iload_n 3, mI 0)]
theorem kX3_lots_12 : mchk MX3_lots 12 bX3_lots_12 14 = true := by decide +kernel
theorem tX3_lots_14 : mdk MX3_lots 14 (.invokevirtual 70) = true := by decide +kernel
theorem tX3_lots_17 : mrk MX3_lots 17 .ireturn = true := by decide +kernel
def bX3_lots_18 : List mB := [(.aload_n 0, mI 0), (.iconst 1, mI (nI 1)), (.iconst 1, mI (nI 1))]
theorem kX3_lots_18 : mchk MX3_lots 18 bX3_lots_18 21 = true := by decide +kernel
theorem tX3_lots_21 : mdk MX3_lots 21 (.invokevirtual 119) = true := by decide +kernel
def bX3_lots_24 : List mB := [(.iload_n 2, mI 0), (.istore 4, mI 0), (.iconst 0, mI (nI 0)), (.istore 5, mI 0), (.aload_n 0, mI 0), (.getfield 140, mR 3 9), (.istore 6, mI 0), (.iconst 0, mI (nI 0)), (.istore 7, mI 0)]
theorem kX3_lots_24 : mchk MX3_lots 24 bX3_lots_24 39 = true := by decide +kernel
def bX3_lots_39 : List mB := [(.iload 7, mI 0), (.iload_n 1, mI 0)]
theorem kX3_lots_39 : mchk MX3_lots 39 bX3_lots_39 42 = true := by decide +kernel
theorem tX3_lots_42 : mbk MX3_lots 42 (.if_icmp .ge 113) 155 = true := by decide +kernel
def bX3_lots_45 : List mB := [(.iconst 0, mI (nI 0)), (.istore 8, mI 0)]
theorem kX3_lots_45 : mchk MX3_lots 45 bX3_lots_45 48 = true := by decide +kernel
def bX3_lots_48 : List mB := [(.iload 8, mI 0), (.aload_n 0, mI 0), (.getfield 60, mR 3 7)]
theorem kX3_lots_48 : mchk MX3_lots 48 bX3_lots_48 54 = true := by decide +kernel
theorem tX3_lots_54 : mbk MX3_lots 54 (.if_icmp .ge 57) 111 = true := by decide +kernel
def bX3_lots_57 : List mB := [(.iload 4, mI 0), (.ldc_w 273, mI (nI 1664525)), (.imul, mI 0), (.ldc_w 274, mI (nI 1013904223)), (.iadd, mI 0), (.istore 4, mI 0), (.aload_n 0, mI 0), (.getfield 16, mR 3 2), (.iload 8, mI 0), (.iload 4, mI 0), (.ldc_w 275, mI (nI 2147483647)), (.iand, mI 0), (.sipush 256, mI (nI 256)), (.idiv, mI 0), (.bipush 24, mI (nI 24)), (.irem, mI 0), (.iastore, mI 0), (.aload_n 0, mI 0), (.getfield 22, mR 3 4), (.iload 8, mI 0), (.iconst 0, mI (nI 0)), (.iastore, mI 0), (.aload_n 0, mI 0), (.getfield 25, mR 3 5), (.iload 8, mI 0), (.iconst 0, mI (nI 0)), (.iastore, mI 0), (.iinc 8 1, mI (nI 1))]
theorem kX3_lots_57 : mchk MX3_lots 57 bX3_lots_57 108 = true := by decide +kernel
theorem tX3_lots_108 : mbk MX3_lots 108 (.goto (-60)) 48 = true := by decide +kernel
def bX3_lots_111 : List mB := [(.aload_n 0, mI 0), (.iload 6, mI 0), (.putfield 140, mR 3 9), (.iconst 0, mI (nI 0)), (.istore 8, mI 0)]
theorem kX3_lots_111 : mchk MX3_lots 111 bX3_lots_111 120 = true := by decide +kernel
def bX3_lots_120 : List mB := [(.iload 8, mI 0), (.bipush 30, mI (nI 30))]
theorem kX3_lots_120 : mchk MX3_lots 120 bX3_lots_120 124 = true := by decide +kernel
theorem tX3_lots_124 : mbk MX3_lots 124 (.if_icmp .ge 13) 137 = true := by decide +kernel
def bX3_lots_127 : List mB := [(.aload_n 0, mI 0)]
theorem kX3_lots_127 : mchk MX3_lots 127 bX3_lots_127 128 = true := by decide +kernel
theorem tX3_lots_128 : mdk MX3_lots 128 (.invokevirtual 208) = true := by decide +kernel
def bX3_lots_131 : List mB := [(.iinc 8 1, mI (nI 1))]
theorem kX3_lots_131 : mchk MX3_lots 131 bX3_lots_131 134 = true := by decide +kernel
theorem tX3_lots_134 : mbk MX3_lots 134 (.goto (-14)) 120 = true := by decide +kernel
def bX3_lots_137 : List mB := [(.iload 5, mI 0), (.aload_n 0, mI 0)]
theorem kX3_lots_137 : mchk MX3_lots 137 bX3_lots_137 140 = true := by decide +kernel
theorem tX3_lots_140 : mdk MX3_lots 140 (.invokevirtual 214) = true := by decide +kernel
theorem tX3_lots_143 : mdk MX3_lots 143 (.invokestatic 220) = true := by decide +kernel
def bX3_lots_146 : List mB := [(.iadd, mI 0), (.istore 5, mI 0), (.iinc 7 1, mI (nI 1))]
theorem kX3_lots_146 : mchk MX3_lots 146 bX3_lots_146 152 = true := by decide +kernel
theorem tX3_lots_152 : mbk MX3_lots 152 (.goto (-113)) 39 = true := by decide +kernel
def bX3_lots_155 : List mB := [(.aload_n 0, mI 0), (.iconst 1, mI (nI 1)), (.iconst 0, mI (nI 0))]
theorem kX3_lots_155 : mchk MX3_lots 155 bX3_lots_155 158 = true := by decide +kernel
theorem tX3_lots_158 : mdk MX3_lots 158 (.invokevirtual 119) = true := by decide +kernel
def bX3_lots_161 : List mB := [(.iload 5, mI 0)]
theorem kX3_lots_161 : mchk MX3_lots 161 bX3_lots_161 163 = true := by decide +kernel
theorem tX3_lots_163 : mrk MX3_lots 163 .ireturn = true := by decide +kernel
def bX3_count_0 : List mB := [(.iload_n 1, mI 0), (.bipush 11, mI (nI 11)), (.bipush 16, mI (nI 16))]
theorem kX3_count_0 : mchk MX3_count 0 bX3_count_0 5 = true := by decide +kernel
theorem tX3_count_5 : mdk MX3_count 5 (.invokestatic 81) = true := by decide +kernel
theorem tX3_count_8 : mbk MX3_count 8 (.ifCond .eq 13) 21 = true := by decide +kernel
def bX3_count_11 : List mB := [(.aload_n 0, mI 0), (.getfield 7, mR 3 0), (.iload_n 1, mI 0), (.bipush 10, mI (nI 10)), (.isub, mI 0), (.iaload, mI 0)]
theorem kX3_count_11 : mchk MX3_count 11 bX3_count_11 20 = true := by decide +kernel
theorem tX3_count_20 : mrk MX3_count 20 .ireturn = true := by decide +kernel
def bX3_count_21 : List mB := [(.iconst 0, mI (nI 0)), (.istore_n 2, mI 0), (.iload_n 1, mI 0)]
theorem kX3_count_21 : mchk MX3_count 21 bX3_count_21 24 = true := by decide +kernel
def sX3_count_24 : Instr := .tableswitch 150 0 8 #[52, 57, 67, 75, 80, 85, 112, 140, 145]
theorem tX3_count_24 : mswk MX3_count 24 sX3_count_24 52 = true := by decide +kernel
def bX3_count_76 : List mB := [(.aload_n 0, mI 0), (.getfield 60, mR 3 7)]
theorem kX3_count_76 : mchk MX3_count 76 bX3_count_76 80 = true := by decide +kernel
theorem tX3_count_80 : mrk MX3_count 80 .ireturn = true := by decide +kernel
def bX3_count_81 : List mB := [(.aload_n 0, mI 0), (.getfield 60, mR 3 7), (.aload_n 0, mI 0)]
theorem kX3_count_81 : mchk MX3_count 81 bX3_count_81 86 = true := by decide +kernel
theorem tX3_count_86 : mdk MX3_count 86 (.invokevirtual 235) = true := by decide +kernel
def bX3_count_89 : List mB := [(.isub, mI 0)]
theorem kX3_count_89 : mchk MX3_count 89 bX3_count_89 90 = true := by decide +kernel
theorem tX3_count_90 : mrk MX3_count 90 .ireturn = true := by decide +kernel
def bX3_count_91 : List mB := [(.aload_n 0, mI 0)]
theorem kX3_count_91 : mchk MX3_count 91 bX3_count_91 92 = true := by decide +kernel
theorem tX3_count_92 : mdk MX3_count 92 (.invokevirtual 214) = true := by decide +kernel
theorem tX3_count_95 : mdk MX3_count 95 (.invokestatic 220) = true := by decide +kernel
theorem tX3_count_98 : mrk MX3_count 98 .ireturn = true := by decide +kernel
def bX3_count_99 : List mB := [(.aload_n 0, mI 0), (.getfield 140, mR 3 9)]
theorem kX3_count_99 : mchk MX3_count 99 bX3_count_99 103 = true := by decide +kernel
theorem tX3_count_103 : mrk MX3_count 103 .ireturn = true := by decide +kernel
def bX3_count_104 : List mB := [(.aload_n 0, mI 0), (.getfield 112, mR 3 8)]
theorem kX3_count_104 : mchk MX3_count 104 bX3_count_104 108 = true := by decide +kernel
theorem tX3_count_108 : mrk MX3_count 108 .ireturn = true := by decide +kernel
def bX3_count_109 : List mB := [(.iconst 0, mI (nI 0)), (.istore_n 3, mI 0)]
theorem kX3_count_109 : mchk MX3_count 109 bX3_count_109 111 = true := by decide +kernel
def bX3_count_111 : List mB := [(.iload_n 3, mI 0), (.aload_n 0, mI 0), (.getfield 60, mR 3 7)]
theorem kX3_count_111 : mchk MX3_count 111 bX3_count_111 116 = true := by decide +kernel
theorem tX3_count_116 : mbk MX3_count 116 (.if_icmp .ge 18) 134 = true := by decide +kernel
def bX3_count_119 : List mB := [(.iload_n 2, mI 0), (.aload_n 0, mI 0), (.getfield 25, mR 3 5), (.iload_n 3, mI 0), (.iaload, mI 0), (.iadd, mI 0), (.istore_n 2, mI 0), (.iinc 3 1, mI (nI 1))]
theorem kX3_count_119 : mchk MX3_count 119 bX3_count_119 131 = true := by decide +kernel
theorem tX3_count_131 : mbk MX3_count 131 (.goto (-20)) 111 = true := by decide +kernel
def bX3_count_134 : List mB := [(.iload_n 2, mI 0)]
theorem kX3_count_134 : mchk MX3_count 134 bX3_count_134 135 = true := by decide +kernel
theorem tX3_count_135 : mrk MX3_count 135 .ireturn = true := by decide +kernel
def bX3_count_136 : List mB := [(.iconst 0, mI (nI 0)), (.istore_n 3, mI 0)]
theorem kX3_count_136 : mchk MX3_count 136 bX3_count_136 138 = true := by decide +kernel
def bX3_count_138 : List mB := [(.iload_n 3, mI 0), (.aload_n 0, mI 0), (.getfield 28, mR 3 6), (.arraylength, mI 0)]
theorem kX3_count_138 : mchk MX3_count 138 bX3_count_138 144 = true := by decide +kernel
theorem tX3_count_144 : mbk MX3_count 144 (.if_icmp .ge 18) 162 = true := by decide +kernel
def bX3_count_147 : List mB := [(.iload_n 2, mI 0), (.aload_n 0, mI 0), (.getfield 28, mR 3 6), (.iload_n 3, mI 0), (.iaload, mI 0), (.iadd, mI 0), (.istore_n 2, mI 0), (.iinc 3 1, mI (nI 1))]
theorem kX3_count_147 : mchk MX3_count 147 bX3_count_147 159 = true := by decide +kernel
theorem tX3_count_159 : mbk MX3_count 159 (.goto (-21)) 138 = true := by decide +kernel
def bX3_count_162 : List mB := [(.iload_n 2, mI 0)]
theorem kX3_count_162 : mchk MX3_count 162 bX3_count_162 163 = true := by decide +kernel
theorem tX3_count_163 : mrk MX3_count 163 .ireturn = true := by decide +kernel
def bX3_count_164 : List mB := [(.aload_n 0, mI 0), (.getfield 267, mR 3 29)]
theorem kX3_count_164 : mchk MX3_count 164 bX3_count_164 168 = true := by decide +kernel
theorem tX3_count_168 : mrk MX3_count 168 .ireturn = true := by decide +kernel
def bX3_count_169 : List mB := [(.aload_n 0, mI 0), (.getfield 67, mR 3 14)]
theorem kX3_count_169 : mchk MX3_count 169 bX3_count_169 173 = true := by decide +kernel
theorem tX3_count_173 : mrk MX3_count 173 .ireturn = true := by decide +kernel
def bX3_count_174 : List mB := [(.bipush (-9), mI (-9))]
theorem kX3_count_174 : mchk MX3_count 174 bX3_count_174 176 = true := by decide +kernel
theorem tX3_count_176 : mrk MX3_count 176 .ireturn = true := by decide +kernel

def bX2_letter_0 : List mB := [(.iload_n 1, mI 0)]
theorem kX2_letter_0 : mchk MX2_letter 0 bX2_letter_0 1 = true := by decide +kernel
theorem tX2_letter_1 : mbk MX2_letter 1 (.ifCond .ge 10) 11 = true := by decide +kernel
def bX2_letter_4 : List mB := [(.aload_n 0, mI 0), (.bipush (-4), mI (-4))]
theorem kX2_letter_4 : mchk MX2_letter 4 bX2_letter_4 7 = true := by decide +kernel
theorem tX2_letter_7 : mdk MX2_letter 7 (.invokevirtual 39) = true := by decide +kernel
theorem tX2_letter_10 : mrk MX2_letter 10 .ireturn = true := by decide +kernel
def bX2_letter_11 : List mB := [(.iload_n 1, mI 0), (.sipush 255, mI (nI 255))]
theorem kX2_letter_11 : mchk MX2_letter 11 bX2_letter_11 15 = true := by decide +kernel
theorem tX2_letter_15 : mbk MX2_letter 15 (.if_icmp .gt 13) 28 = true := by decide +kernel
def bX2_letter_18 : List mB := [(.aload_n 0, mI 0), (.getfield 28, mR 2 5)]
theorem kX2_letter_18 : mchk MX2_letter 18 bX2_letter_18 22 = true := by decide +kernel
theorem tX2_letter_22 : mdk MX2_letter 22 (.invokevirtual 43) = true := by decide +kernel
theorem tX2_letter_25 : mbk MX2_letter 25 (.ifCond .ne 10) 35 = true := by decide +kernel
def bX2_letter_28 : List mB := [(.aload_n 0, mI 0), (.bipush (-6), mI (-6))]
theorem kX2_letter_28 : mchk MX2_letter 28 bX2_letter_28 31 = true := by decide +kernel
theorem tX2_letter_31 : mdk MX2_letter 31 (.invokevirtual 39) = true := by decide +kernel
theorem tX2_letter_34 : mrk MX2_letter 34 .ireturn = true := by decide +kernel
def bX2_letter_35 : List mB := [(.aload_n 0, mI 0), (.getfield 28, mR 2 5), (.iload_n 1, mI 0)]
theorem kX2_letter_35 : mchk MX2_letter 35 bX2_letter_35 40 = true := by decide +kernel
theorem tX2_letter_40 : mdk MX2_letter 40 (.invokevirtual 47) = true := by decide +kernel
theorem tX2_letter_43 : mrk MX2_letter 43 .ireturn = true := by decide +kernel
def bX2_yard_0 : List mB := [(.aload_n 0, mI 0)]
theorem kX2_yard_0 : mchk MX2_yard 0 bX2_yard_0 1 = true := by decide +kernel
theorem tX2_yard_1 : mdk MX2_yard 1 (.invokevirtual 50) = true := by decide +kernel
def bX2_yard_4 : List mB := [(.istore_n 1, mI 0), (.aload_n 0, mI 0), (.getfield 28, mR 2 5)]
theorem kX2_yard_4 : mchk MX2_yard 4 bX2_yard_4 9 = true := by decide +kernel
theorem tX2_yard_9 : mdk MX2_yard 9 (.invokevirtual 54) = true := by decide +kernel
def bX2_yard_12 : List mB := [(.iload_n 1, mI 0)]
theorem kX2_yard_12 : mchk MX2_yard 12 bX2_yard_12 13 = true := by decide +kernel
theorem tX2_yard_13 : mrk MX2_yard 13 .ireturn = true := by decide +kernel
def bX2_child_0 : List mB := [(.aload_n 0, mI 0), (.getfield 10, mR 2 0), (.iload_n 1, mI 0)]
theorem kX2_child_0 : mchk MX2_child 0 bX2_child_0 5 = true := by decide +kernel
theorem tX2_child_5 : mdk MX2_child 5 (.invokevirtual 57) = true := by decide +kernel
theorem tX2_child_8 : mbk MX2_child 8 (.ifCond .ne 9) 17 = true := by decide +kernel
def bX2_child_11 : List mB := [(.aload_n 0, mI 0), (.iconst (-1), mI (-1))]
theorem kX2_child_11 : mchk MX2_child 11 bX2_child_11 13 = true := by decide +kernel
theorem tX2_child_13 : mdk MX2_child 13 (.invokevirtual 39) = true := by decide +kernel
theorem tX2_child_16 : mrk MX2_child 16 .ireturn = true := by decide +kernel
def bX2_child_17 : List mB := [(.iload_n 2, mI 0)]
theorem kX2_child_17 : mchk MX2_child 17 bX2_child_17 18 = true := by decide +kernel
def sX2_child_18 : Instr := .tableswitch 87 0 4 #[34, 43, 52, 61, 78]
theorem tX2_child_18 : mswk MX2_child 18 sX2_child_18 34 = true := by decide +kernel
def bX2_child_52 : List mB := [(.aload_n 0, mI 0), (.getfield 10, mR 2 0), (.iload_n 1, mI 0)]
theorem kX2_child_52 : mchk MX2_child 52 bX2_child_52 57 = true := by decide +kernel
theorem tX2_child_57 : mdk MX2_child 57 (.invokevirtual 61) = true := by decide +kernel
theorem tX2_child_60 : mrk MX2_child 60 .ireturn = true := by decide +kernel
def bX2_child_61 : List mB := [(.aload_n 0, mI 0), (.getfield 10, mR 2 0), (.iload_n 1, mI 0)]
theorem kX2_child_61 : mchk MX2_child 61 bX2_child_61 66 = true := by decide +kernel
theorem tX2_child_66 : mdk MX2_child 66 (.invokevirtual 64) = true := by decide +kernel
theorem tX2_child_69 : mrk MX2_child 69 .ireturn = true := by decide +kernel
def bX2_child_70 : List mB := [(.aload_n 0, mI 0), (.getfield 10, mR 2 0), (.iload_n 1, mI 0)]
theorem kX2_child_70 : mchk MX2_child 70 bX2_child_70 75 = true := by decide +kernel
theorem tX2_child_75 : mdk MX2_child 75 (.invokevirtual 67) = true := by decide +kernel
theorem tX2_child_78 : mrk MX2_child 78 .ireturn = true := by decide +kernel
def bX2_child_79 : List mB := [(.aload_n 0, mI 0), (.getfield 10, mR 2 0), (.iload_n 1, mI 0)]
theorem kX2_child_79 : mchk MX2_child 79 bX2_child_79 84 = true := by decide +kernel
theorem tX2_child_84 : mdk MX2_child 84 (.invokevirtual 70) = true := by decide +kernel
theorem tX2_child_87 : mbk MX2_child 87 (.ifCond .eq 7) 94 = true := by decide +kernel
def bX2_child_90 : List mB := [(.iconst 1, mI (nI 1))]
theorem kX2_child_90 : mchk MX2_child 90 bX2_child_90 91 = true := by decide +kernel
theorem tX2_child_91 : mbk MX2_child 91 (.goto 4) 95 = true := by decide +kernel
def bX2_child_94 : List mB := [(.iconst 0, mI (nI 0))]
theorem kX2_child_94 : mchk MX2_child 94 bX2_child_94 95 = true := by decide +kernel
theorem tX2_child_95 : mrk MX2_child 95 .ireturn = true := by decide +kernel
def bX2_child_96 : List mB := [(.aload_n 0, mI 0), (.getfield 10, mR 2 0), (.iload_n 1, mI 0)]
theorem kX2_child_96 : mchk MX2_child 96 bX2_child_96 101 = true := by decide +kernel
theorem tX2_child_101 : mdk MX2_child 101 (.invokevirtual 73) = true := by decide +kernel
theorem tX2_child_104 : mrk MX2_child 104 .ireturn = true := by decide +kernel
def bX2_child_105 : List mB := [(.aload_n 0, mI 0), (.bipush (-2), mI (-2))]
theorem kX2_child_105 : mchk MX2_child 105 bX2_child_105 108 = true := by decide +kernel
theorem tX2_child_108 : mdk MX2_child 108 (.invokevirtual 39) = true := by decide +kernel
theorem tX2_child_111 : mrk MX2_child 111 .ireturn = true := by decide +kernel
def bX2_go_0 : List mB := [(.aload_n 0, mI 0), (.getfield 10, mR 2 0), (.iload_n 1, mI 0)]
theorem kX2_go_0 : mchk MX2_go 0 bX2_go_0 5 = true := by decide +kernel
theorem tX2_go_5 : mdk MX2_go 5 (.invokevirtual 57) = true := by decide +kernel
theorem tX2_go_8 : mbk MX2_go 8 (.ifCond .eq 10) 18 = true := by decide +kernel
def bX2_go_11 : List mB := [(.iload_n 2, mI 0)]
theorem kX2_go_11 : mchk MX2_go 11 bX2_go_11 12 = true := by decide +kernel
theorem tX2_go_12 : mdk MX2_go 12 (.invokestatic 76) = true := by decide +kernel
theorem tX2_go_15 : mbk MX2_go 15 (.ifCond .ne 9) 24 = true := by decide +kernel
def bX2_go_18 : List mB := [(.aload_n 0, mI 0), (.iconst (-1), mI (-1))]
theorem kX2_go_18 : mchk MX2_go 18 bX2_go_18 20 = true := by decide +kernel
theorem tX2_go_20 : mdk MX2_go 20 (.invokevirtual 39) = true := by decide +kernel
theorem tX2_go_23 : mrk MX2_go 23 .ireturn = true := by decide +kernel
def bX2_go_24 : List mB := [(.aload_n 0, mI 0), (.getfield 10, mR 2 0), (.iload_n 1, mI 0)]
theorem kX2_go_24 : mchk MX2_go 24 bX2_go_24 29 = true := by decide +kernel
theorem tX2_go_29 : mdk MX2_go 29 (.invokevirtual 64) = true := by decide +kernel
def bX2_go_32 : List mB := [(.istore_n 3, mI 0), (.aload_n 0, mI 0), (.getfield 10, mR 2 0), (.iload_n 1, mI 0), (.iload_n 2, mI 0)]
theorem kX2_go_32 : mchk MX2_go 32 bX2_go_32 39 = true := by decide +kernel
theorem tX2_go_39 : mdk MX2_go 39 (.invokevirtual 79) = true := by decide +kernel
def bX2_go_42 : List mB := [(.pop, mI 0), (.iload_n 3, mI 0)]
theorem kX2_go_42 : mchk MX2_go 42 bX2_go_42 44 = true := by decide +kernel
theorem tX2_go_44 : mrk MX2_go 44 .ireturn = true := by decide +kernel
def bX2_touch_0 : List mB := [(.aload_n 0, mI 0), (.getfield 10, mR 2 0), (.iload_n 1, mI 0)]
theorem kX2_touch_0 : mchk MX2_touch 0 bX2_touch_0 5 = true := by decide +kernel
theorem tX2_touch_5 : mdk MX2_touch 5 (.invokevirtual 57) = true := by decide +kernel
theorem tX2_touch_8 : mbk MX2_touch 8 (.ifCond .ne 9) 17 = true := by decide +kernel
def bX2_touch_11 : List mB := [(.aload_n 0, mI 0), (.iconst (-1), mI (-1))]
theorem kX2_touch_11 : mchk MX2_touch 11 bX2_touch_11 13 = true := by decide +kernel
theorem tX2_touch_13 : mdk MX2_touch 13 (.invokevirtual 39) = true := by decide +kernel
theorem tX2_touch_16 : mrk MX2_touch 16 .ireturn = true := by decide +kernel
def bX2_touch_17 : List mB := [(.aload_n 0, mI 0), (.getfield 10, mR 2 0), (.iload_n 1, mI 0)]
theorem kX2_touch_17 : mchk MX2_touch 17 bX2_touch_17 22 = true := by decide +kernel
theorem tX2_touch_22 : mdk MX2_touch 22 (.invokevirtual 83) = true := by decide +kernel
theorem tX2_touch_25 : mbk MX2_touch 25 (.ifCond .ne 10) 35 = true := by decide +kernel
def bX2_touch_28 : List mB := [(.aload_n 0, mI 0), (.bipush (-3), mI (-3))]
theorem kX2_touch_28 : mchk MX2_touch 28 bX2_touch_28 31 = true := by decide +kernel
theorem tX2_touch_31 : mdk MX2_touch 31 (.invokevirtual 39) = true := by decide +kernel
theorem tX2_touch_34 : mrk MX2_touch 34 .ireturn = true := by decide +kernel
def bX2_touch_35 : List mB := [(.aload_n 0, mI 0), (.getfield 10, mR 2 0), (.iload_n 1, mI 0)]
theorem kX2_touch_35 : mchk MX2_touch 35 bX2_touch_35 40 = true := by decide +kernel
theorem tX2_touch_40 : mdk MX2_touch 40 (.invokevirtual 70) = true := by decide +kernel
theorem tX2_touch_43 : mbk MX2_touch 43 (.ifCond .eq 7) 50 = true := by decide +kernel
def bX2_touch_46 : List mB := [(.iconst 1, mI (nI 1))]
theorem kX2_touch_46 : mchk MX2_touch 46 bX2_touch_46 47 = true := by decide +kernel
theorem tX2_touch_47 : mbk MX2_touch 47 (.goto 4) 51 = true := by decide +kernel
def bX2_touch_50 : List mB := [(.iconst 0, mI (nI 0))]
theorem kX2_touch_50 : mchk MX2_touch 50 bX2_touch_50 51 = true := by decide +kernel
theorem tX2_touch_51 : mrk MX2_touch 51 .ireturn = true := by decide +kernel
def bX2_law_0 : List mB := [(.aload_n 0, mI 0), (.getfield 10, mR 2 0)]
theorem kX2_law_0 : mchk MX2_law 0 bX2_law_0 4 = true := by decide +kernel
theorem tX2_law_4 : mdk MX2_law 4 (.invokevirtual 86) = true := by decide +kernel
def bX2_law_7 : List mB := [(.istore_n 2, mI 0), (.aload_n 0, mI 0), (.getfield 10, mR 2 0), (.iload_n 1, mI 0)]
theorem kX2_law_7 : mchk MX2_law 7 bX2_law_7 13 = true := by decide +kernel
theorem tX2_law_13 : mdk MX2_law 13 (.invokevirtual 89) = true := by decide +kernel
theorem tX2_law_16 : mbk MX2_law 16 (.ifCond .eq 7) 23 = true := by decide +kernel
def bX2_law_19 : List mB := [(.iload_n 2, mI 0)]
theorem kX2_law_19 : mchk MX2_law 19 bX2_law_19 20 = true := by decide +kernel
theorem tX2_law_20 : mbk MX2_law 20 (.goto 9) 29 = true := by decide +kernel
def bX2_law_23 : List mB := [(.aload_n 0, mI 0), (.bipush (-2), mI (-2))]
theorem kX2_law_23 : mchk MX2_law 23 bX2_law_23 26 = true := by decide +kernel
theorem tX2_law_26 : mdk MX2_law 26 (.invokevirtual 39) = true := by decide +kernel
theorem tX2_law_29 : mrk MX2_law 29 .ireturn = true := by decide +kernel
def bX2_far_0 : List mB := [(.iload_n 1, mI 0)]
theorem kX2_far_0 : mchk MX2_far 0 bX2_far_0 1 = true := by decide +kernel
theorem tX2_far_1 : mdk MX2_far 1 (.invokestatic 76) = true := by decide +kernel
theorem tX2_far_4 : mbk MX2_far 4 (.ifCond .eq 10) 14 = true := by decide +kernel
def bX2_far_7 : List mB := [(.iload_n 2, mI 0)]
theorem kX2_far_7 : mchk MX2_far 7 bX2_far_7 8 = true := by decide +kernel
theorem tX2_far_8 : mdk MX2_far 8 (.invokestatic 76) = true := by decide +kernel
theorem tX2_far_11 : mbk MX2_far 11 (.ifCond .ne 9) 20 = true := by decide +kernel
def bX2_far_14 : List mB := [(.aload_n 0, mI 0), (.iconst (-1), mI (-1))]
theorem kX2_far_14 : mchk MX2_far 14 bX2_far_14 16 = true := by decide +kernel
theorem tX2_far_16 : mdk MX2_far 16 (.invokevirtual 39) = true := by decide +kernel
theorem tX2_far_19 : mrk MX2_far 19 .ireturn = true := by decide +kernel
def bX2_far_20 : List mB := [(.iload_n 1, mI 0), (.iload_n 2, mI 0)]
theorem kX2_far_20 : mchk MX2_far 20 bX2_far_20 22 = true := by decide +kernel
theorem tX2_far_22 : mdk MX2_far 22 (.invokestatic 92) = true := by decide +kernel
theorem tX2_far_25 : mrk MX2_far 25 .ireturn = true := by decide +kernel
def bX2_seconds_0 : List mB := [(.iload_n 1, mI 0), (.iconst 1, mI (nI 1)), (.bipush 60, mI (nI 60))]
theorem kX2_seconds_0 : mchk MX2_seconds 0 bX2_seconds_0 4 = true := by decide +kernel
theorem tX2_seconds_4 : mdk MX2_seconds 4 (.invokestatic 96) = true := by decide +kernel
def bX2_seconds_7 : List mB := [(.istore_n 2, mI 0), (.iload_n 2, mI 0)]
theorem kX2_seconds_7 : mchk MX2_seconds 7 bX2_seconds_7 9 = true := by decide +kernel
theorem tX2_seconds_9 : mbk MX2_seconds 9 (.ifCond .ne 21) 30 = true := by decide +kernel
def bX2_seconds_12 : List mB := [(.aload_n 0, mI 0), (.getfield 10, mR 2 0)]
theorem kX2_seconds_12 : mchk MX2_seconds 12 bX2_seconds_12 16 = true := by decide +kernel
theorem tX2_seconds_16 : mdk MX2_seconds 16 (.invokevirtual 100) = true := by decide +kernel
def bX2_seconds_19 : List mB := [(.iload_n 1, mI 0), (.iadd, mI 0), (.sipush 999, mI (nI 999))]
theorem kX2_seconds_19 : mchk MX2_seconds 19 bX2_seconds_19 24 = true := by decide +kernel
theorem tX2_seconds_24 : mbk MX2_seconds 24 (.if_icmp .le 6) 30 = true := by decide +kernel
def bX2_seconds_27 : List mB := [(.bipush (-6), mI (-6)), (.istore_n 2, mI 0)]
theorem kX2_seconds_27 : mchk MX2_seconds 27 bX2_seconds_27 30 = true := by decide +kernel
def bX2_seconds_30 : List mB := [(.iload_n 2, mI 0)]
theorem kX2_seconds_30 : mchk MX2_seconds 30 bX2_seconds_30 31 = true := by decide +kernel
theorem tX2_seconds_31 : mbk MX2_seconds 31 (.ifCond .eq 9) 40 = true := by decide +kernel
def bX2_seconds_34 : List mB := [(.aload_n 0, mI 0), (.iload_n 2, mI 0)]
theorem kX2_seconds_34 : mchk MX2_seconds 34 bX2_seconds_34 36 = true := by decide +kernel
theorem tX2_seconds_36 : mdk MX2_seconds 36 (.invokevirtual 39) = true := by decide +kernel
theorem tX2_seconds_39 : mrk MX2_seconds 39 .ireturn = true := by decide +kernel
def bX2_seconds_40 : List mB := [(.aload_n 0, mI 0), (.getfield 10, mR 2 0), (.iload_n 1, mI 0)]
theorem kX2_seconds_40 : mchk MX2_seconds 40 bX2_seconds_40 45 = true := by decide +kernel
theorem tX2_seconds_45 : mdk MX2_seconds 45 (.invokevirtual 103) = true := by decide +kernel
def bX2_seconds_48 : List mB := [(.aload_n 0, mI 0), (.getfield 10, mR 2 0)]
theorem kX2_seconds_48 : mchk MX2_seconds 48 bX2_seconds_48 52 = true := by decide +kernel
theorem tX2_seconds_52 : mdk MX2_seconds 52 (.invokevirtual 100) = true := by decide +kernel
theorem tX2_seconds_55 : mrk MX2_seconds 55 .ireturn = true := by decide +kernel
def bX2_stand_0 : List mB := [(.iload_n 1, mI 0), (.iconst 0, mI (nI 0)), (.bipush 60, mI (nI 60))]
theorem kX2_stand_0 : mchk MX2_stand 0 bX2_stand_0 4 = true := by decide +kernel
theorem tX2_stand_4 : mdk MX2_stand 4 (.invokestatic 96) = true := by decide +kernel
def bX2_stand_7 : List mB := [(.istore_n 2, mI 0), (.iload_n 2, mI 0)]
theorem kX2_stand_7 : mchk MX2_stand 7 bX2_stand_7 9 = true := by decide +kernel
theorem tX2_stand_9 : mbk MX2_stand 9 (.ifCond .eq 9) 18 = true := by decide +kernel
def bX2_stand_12 : List mB := [(.aload_n 0, mI 0), (.iload_n 2, mI 0)]
theorem kX2_stand_12 : mchk MX2_stand 12 bX2_stand_12 14 = true := by decide +kernel
theorem tX2_stand_14 : mdk MX2_stand 14 (.invokevirtual 39) = true := by decide +kernel
theorem tX2_stand_17 : mrk MX2_stand 17 .ireturn = true := by decide +kernel
def bX2_stand_18 : List mB := [(.aload_n 0, mI 0), (.getfield 16, mR 2 1), (.aload_n 0, mI 0), (.getfield 10, mR 2 0)]
theorem kX2_stand_18 : mchk MX2_stand 18 bX2_stand_18 26 = true := by decide +kernel
theorem tX2_stand_26 : mdk MX2_stand 26 (.invokevirtual 107) = true := by decide +kernel
def bX2_stand_29 : List mB := [(.aload_n 0, mI 0), (.getfield 16, mR 2 1), (.iload_n 1, mI 0)]
theorem kX2_stand_29 : mchk MX2_stand 29 bX2_stand_29 34 = true := by decide +kernel
theorem tX2_stand_34 : mdk MX2_stand 34 (.invokevirtual 103) = true := by decide +kernel
def bX2_stand_37 : List mB := [(.aload_n 0, mI 0), (.getfield 16, mR 2 1)]
theorem kX2_stand_37 : mchk MX2_stand 37 bX2_stand_37 41 = true := by decide +kernel
theorem tX2_stand_41 : mdk MX2_stand 41 (.invokevirtual 111) = true := by decide +kernel
theorem tX2_stand_44 : mrk MX2_stand 44 .ireturn = true := by decide +kernel
def bX2_where_0 : List mB := [(.aload_n 0, mI 0), (.getfield 10, mR 2 0), (.iload_n 1, mI 0)]
theorem kX2_where_0 : mchk MX2_where 0 bX2_where_0 5 = true := by decide +kernel
theorem tX2_where_5 : mdk MX2_where 5 (.invokevirtual 57) = true := by decide +kernel
theorem tX2_where_8 : mbk MX2_where 8 (.ifCond .eq 13) 21 = true := by decide +kernel
def bX2_where_11 : List mB := [(.iload_n 2, mI 0), (.iconst 0, mI (nI 0)), (.bipush 60, mI (nI 60))]
theorem kX2_where_11 : mchk MX2_where 11 bX2_where_11 15 = true := by decide +kernel
theorem tX2_where_15 : mdk MX2_where 15 (.invokestatic 96) = true := by decide +kernel
theorem tX2_where_18 : mbk MX2_where 18 (.goto 4) 22 = true := by decide +kernel
def bX2_where_21 : List mB := [(.iconst (-1), mI (-1))]
theorem kX2_where_21 : mchk MX2_where 21 bX2_where_21 22 = true := by decide +kernel
def bX2_where_22 : List mB := [(.istore_n 3, mI 0), (.iload_n 3, mI 0)]
theorem kX2_where_22 : mchk MX2_where 22 bX2_where_22 24 = true := by decide +kernel
theorem tX2_where_24 : mbk MX2_where 24 (.ifCond .eq 9) 33 = true := by decide +kernel
def bX2_where_27 : List mB := [(.aload_n 0, mI 0), (.iload_n 3, mI 0)]
theorem kX2_where_27 : mchk MX2_where 27 bX2_where_27 29 = true := by decide +kernel
theorem tX2_where_29 : mdk MX2_where 29 (.invokevirtual 39) = true := by decide +kernel
theorem tX2_where_32 : mrk MX2_where 32 .ireturn = true := by decide +kernel
def bX2_where_33 : List mB := [(.aload_n 0, mI 0), (.getfield 16, mR 2 1), (.aload_n 0, mI 0), (.getfield 10, mR 2 0)]
theorem kX2_where_33 : mchk MX2_where 33 bX2_where_33 41 = true := by decide +kernel
theorem tX2_where_41 : mdk MX2_where 41 (.invokevirtual 107) = true := by decide +kernel
def bX2_where_44 : List mB := [(.aload_n 0, mI 0), (.getfield 16, mR 2 1), (.iload_n 2, mI 0)]
theorem kX2_where_44 : mchk MX2_where 44 bX2_where_44 49 = true := by decide +kernel
theorem tX2_where_49 : mdk MX2_where 49 (.invokevirtual 103) = true := by decide +kernel
def bX2_where_52 : List mB := [(.aload_n 0, mI 0), (.getfield 16, mR 2 1), (.iload_n 1, mI 0)]
theorem kX2_where_52 : mchk MX2_where 52 bX2_where_52 57 = true := by decide +kernel
theorem tX2_where_57 : mdk MX2_where 57 (.invokevirtual 64) = true := by decide +kernel
theorem tX2_where_60 : mrk MX2_where 60 .ireturn = true := by decide +kernel
def bX2_over_0 : List mB := [(.aload_n 0, mI 0), (.getfield 10, mR 2 0)]
theorem kX2_over_0 : mchk MX2_over 0 bX2_over_0 4 = true := by decide +kernel
theorem tX2_over_4 : mdk MX2_over 4 (.invokevirtual 114) = true := by decide +kernel
theorem tX2_over_7 : mbk MX2_over 7 (.ifCond .ne 10) 17 = true := by decide +kernel
def bX2_over_10 : List mB := [(.aload_n 0, mI 0), (.bipush (-3), mI (-3))]
theorem kX2_over_10 : mchk MX2_over 10 bX2_over_10 13 = true := by decide +kernel
theorem tX2_over_13 : mdk MX2_over 13 (.invokevirtual 39) = true := by decide +kernel
theorem tX2_over_16 : mrk MX2_over 16 .ireturn = true := by decide +kernel
def bX2_over_17 : List mB := [(.aload_n 0, mI 0), (.getfield 16, mR 2 1), (.aload_n 0, mI 0), (.getfield 10, mR 2 0)]
theorem kX2_over_17 : mchk MX2_over 17 bX2_over_17 25 = true := by decide +kernel
theorem tX2_over_25 : mdk MX2_over 25 (.invokevirtual 107) = true := by decide +kernel
def bX2_over_28 : List mB := [(.aload_n 0, mI 0)]
theorem kX2_over_28 : mchk MX2_over 28 bX2_over_28 29 = true := by decide +kernel
theorem tX2_over_29 : mdk MX2_over 29 (.invokevirtual 117) = true := by decide +kernel
theorem tX2_over_32 : mrk MX2_over 32 .ireturn = true := by decide +kernel
def bX2_mean_0 : List mB := [(.iload_n 1, mI 0), (.iconst 0, mI (nI 0)), (.bipush 60, mI (nI 60))]
theorem kX2_mean_0 : mchk MX2_mean 0 bX2_mean_0 4 = true := by decide +kernel
theorem tX2_mean_4 : mdk MX2_mean 4 (.invokestatic 96) = true := by decide +kernel
def bX2_mean_7 : List mB := [(.istore_n 3, mI 0), (.iload_n 3, mI 0)]
theorem kX2_mean_7 : mchk MX2_mean 7 bX2_mean_7 9 = true := by decide +kernel
theorem tX2_mean_9 : mbk MX2_mean 9 (.ifCond .ne 15) 24 = true := by decide +kernel
def bX2_mean_12 : List mB := [(.iload_n 2, mI 0)]
theorem kX2_mean_12 : mchk MX2_mean 12 bX2_mean_12 13 = true := by decide +kernel
theorem tX2_mean_13 : mbk MX2_mean 13 (.ifCond .eq 11) 24 = true := by decide +kernel
def bX2_mean_16 : List mB := [(.iload_n 2, mI 0), (.iconst 1, mI (nI 1))]
theorem kX2_mean_16 : mchk MX2_mean 16 bX2_mean_16 18 = true := by decide +kernel
theorem tX2_mean_18 : mbk MX2_mean 18 (.if_icmp .eq 6) 24 = true := by decide +kernel
def bX2_mean_21 : List mB := [(.bipush (-2), mI (-2)), (.istore_n 3, mI 0)]
theorem kX2_mean_21 : mchk MX2_mean 21 bX2_mean_21 24 = true := by decide +kernel
def bX2_mean_24 : List mB := [(.iload_n 3, mI 0)]
theorem kX2_mean_24 : mchk MX2_mean 24 bX2_mean_24 25 = true := by decide +kernel
theorem tX2_mean_25 : mbk MX2_mean 25 (.ifCond .eq 14) 39 = true := by decide +kernel
def bX2_mean_28 : List mB := [(.ldc2_w 120, mJ (lN 4000000000000000000)), (.aload_n 0, mI 0), (.iload_n 3, mI 0)]
theorem kX2_mean_28 : mchk MX2_mean 28 bX2_mean_28 33 = true := by decide +kernel
theorem tX2_mean_33 : mdk MX2_mean 33 (.invokevirtual 39) = true := by decide +kernel
def bX2_mean_36 : List mB := [(.i2l, mI 0), (.lsub, mI 0)]
theorem kX2_mean_36 : mchk MX2_mean 36 bX2_mean_36 38 = true := by decide +kernel
theorem tX2_mean_38 : mrk MX2_mean 38 .lreturn = true := by decide +kernel
def bX2_mean_39 : List mB := [(.aload_n 0, mI 0), (.getfield 16, mR 2 1), (.aload_n 0, mI 0), (.getfield 10, mR 2 0)]
theorem kX2_mean_39 : mchk MX2_mean 39 bX2_mean_39 47 = true := by decide +kernel
theorem tX2_mean_47 : mdk MX2_mean 47 (.invokevirtual 107) = true := by decide +kernel
def bX2_mean_50 : List mB := [(.aload_n 0, mI 0), (.getfield 16, mR 2 1)]
theorem kX2_mean_50 : mchk MX2_mean 50 bX2_mean_50 54 = true := by decide +kernel
theorem tX2_mean_54 : mdk MX2_mean 54 (.invokevirtual 122) = true := by decide +kernel
def bX2_mean_57 : List mB := [(.aload_n 0, mI 0), (.iload_n 1, mI 0)]
theorem kX2_mean_57 : mchk MX2_mean 57 bX2_mean_57 59 = true := by decide +kernel
theorem tX2_mean_59 : mdk MX2_mean 59 (.invokevirtual 125) = true := by decide +kernel
def bX2_mean_62 : List mB := [(.iadd, mI 0), (.istore 4, mI 0), (.iload_n 1, mI 0), (.iconst 1, mI (nI 1)), (.iadd, mI 0), (.istore 5, mI 0), (.iload 4, mI 0), (.iload 5, mI 0)]
theorem kX2_mean_62 : mchk MX2_mean 62 bX2_mean_62 74 = true := by decide +kernel
theorem tX2_mean_74 : mdk MX2_mean 74 (.invokestatic 128) = true := by decide +kernel
def bX2_mean_77 : List mB := [(.istore 6, mI 0), (.iload_n 2, mI 0)]
theorem kX2_mean_77 : mchk MX2_mean 77 bX2_mean_77 80 = true := by decide +kernel
theorem tX2_mean_80 : mbk MX2_mean 80 (.ifCond .ne 12) 92 = true := by decide +kernel
def bX2_mean_83 : List mB := [(.iload 4, mI 0), (.iload 6, mI 0), (.idiv, mI 0), (.i2l, mI 0)]
theorem kX2_mean_83 : mchk MX2_mean 83 bX2_mean_83 89 = true := by decide +kernel
theorem tX2_mean_89 : mbk MX2_mean 89 (.goto 9) 98 = true := by decide +kernel
def bX2_mean_92 : List mB := [(.iload 5, mI 0), (.iload 6, mI 0), (.idiv, mI 0), (.i2l, mI 0)]
theorem kX2_mean_92 : mchk MX2_mean 92 bX2_mean_92 98 = true := by decide +kernel
theorem tX2_mean_98 : mrk MX2_mean 98 .lreturn = true := by decide +kernel
def bX2_frees_0 : List mB := [(.iload_n 1, mI 0), (.iconst 0, mI (nI 0)), (.bipush 60, mI (nI 60))]
theorem kX2_frees_0 : mchk MX2_frees 0 bX2_frees_0 4 = true := by decide +kernel
theorem tX2_frees_4 : mdk MX2_frees 4 (.invokestatic 96) = true := by decide +kernel
def bX2_frees_7 : List mB := [(.istore_n 2, mI 0), (.iload_n 2, mI 0)]
theorem kX2_frees_7 : mchk MX2_frees 7 bX2_frees_7 9 = true := by decide +kernel
theorem tX2_frees_9 : mbk MX2_frees 9 (.ifCond .eq 9) 18 = true := by decide +kernel
def bX2_frees_12 : List mB := [(.aload_n 0, mI 0), (.iload_n 2, mI 0)]
theorem kX2_frees_12 : mchk MX2_frees 12 bX2_frees_12 14 = true := by decide +kernel
theorem tX2_frees_14 : mdk MX2_frees 14 (.invokevirtual 39) = true := by decide +kernel
theorem tX2_frees_17 : mrk MX2_frees 17 .ireturn = true := by decide +kernel
def bX2_frees_18 : List mB := [(.aload_n 0, mI 0), (.getfield 16, mR 2 1), (.aload_n 0, mI 0), (.getfield 10, mR 2 0)]
theorem kX2_frees_18 : mchk MX2_frees 18 bX2_frees_18 26 = true := by decide +kernel
theorem tX2_frees_26 : mdk MX2_frees 26 (.invokevirtual 107) = true := by decide +kernel
def bX2_frees_29 : List mB := [(.aload_n 0, mI 0), (.getfield 16, mR 2 1), (.iload_n 1, mI 0)]
theorem kX2_frees_29 : mchk MX2_frees 29 bX2_frees_29 34 = true := by decide +kernel
theorem tX2_frees_34 : mdk MX2_frees 34 (.invokevirtual 103) = true := by decide +kernel
def bX2_frees_37 : List mB := [(.aload_n 0, mI 0), (.getfield 16, mR 2 1)]
theorem kX2_frees_37 : mchk MX2_frees 37 bX2_frees_37 41 = true := by decide +kernel
theorem tX2_frees_41 : mdk MX2_frees 41 (.invokevirtual 131) = true := by decide +kernel
theorem tX2_frees_44 : mrk MX2_frees 44 .ireturn = true := by decide +kernel
def bX2_never_0 : List mB := [(.iload_n 1, mI 0), (.iconst 0, mI (nI 0)), (.bipush 60, mI (nI 60))]
theorem kX2_never_0 : mchk MX2_never 0 bX2_never_0 4 = true := by decide +kernel
theorem tX2_never_4 : mdk MX2_never 4 (.invokestatic 96) = true := by decide +kernel
def bX2_never_7 : List mB := [(.istore_n 2, mI 0), (.iload_n 2, mI 0)]
theorem kX2_never_7 : mchk MX2_never 7 bX2_never_7 9 = true := by decide +kernel
theorem tX2_never_9 : mbk MX2_never 9 (.ifCond .eq 9) 18 = true := by decide +kernel
def bX2_never_12 : List mB := [(.aload_n 0, mI 0), (.iload_n 2, mI 0)]
theorem kX2_never_12 : mchk MX2_never 12 bX2_never_12 14 = true := by decide +kernel
theorem tX2_never_14 : mdk MX2_never 14 (.invokevirtual 39) = true := by decide +kernel
theorem tX2_never_17 : mrk MX2_never 17 .ireturn = true := by decide +kernel
def bX2_never_18 : List mB := [(.iload_n 1, mI 0)]
theorem kX2_never_18 : mchk MX2_never 18 bX2_never_18 19 = true := by decide +kernel
theorem tX2_never_19 : mbk MX2_never 19 (.ifCond .ne 11) 30 = true := by decide +kernel
def bX2_never_22 : List mB := [(.aload_n 0, mI 0), (.getfield 10, mR 2 0)]
theorem kX2_never_22 : mchk MX2_never 22 bX2_never_22 26 = true := by decide +kernel
theorem tX2_never_26 : mdk MX2_never 26 (.invokevirtual 111) = true := by decide +kernel
theorem tX2_never_29 : mrk MX2_never 29 .ireturn = true := by decide +kernel
def bX2_never_30 : List mB := [(.aload_n 0, mI 0), (.getfield 16, mR 2 1), (.aload_n 0, mI 0), (.getfield 10, mR 2 0)]
theorem kX2_never_30 : mchk MX2_never 30 bX2_never_30 38 = true := by decide +kernel
theorem tX2_never_38 : mdk MX2_never 38 (.invokevirtual 107) = true := by decide +kernel
def bX2_never_41 : List mB := [(.iconst (-1), mI (-1)), (.istore_n 3, mI 0), (.iconst 1, mI (nI 1)), (.istore 4, mI 0)]
theorem kX2_never_41 : mchk MX2_never 41 bX2_never_41 46 = true := by decide +kernel
def bX2_never_46 : List mB := [(.iload 4, mI 0), (.iload_n 1, mI 0)]
theorem kX2_never_46 : mchk MX2_never 46 bX2_never_46 49 = true := by decide +kernel
theorem tX2_never_49 : mbk MX2_never 49 (.if_icmp .gt 26) 75 = true := by decide +kernel
def bX2_never_52 : List mB := [(.aload_n 0, mI 0), (.getfield 16, mR 2 1)]
theorem kX2_never_52 : mchk MX2_never 52 bX2_never_52 56 = true := by decide +kernel
theorem tX2_never_56 : mdk MX2_never 56 (.invokevirtual 134) = true := by decide +kernel
def bX2_never_59 : List mB := [(.iload_n 3, mI 0), (.aload_n 0, mI 0), (.getfield 16, mR 2 1)]
theorem kX2_never_59 : mchk MX2_never 59 bX2_never_59 64 = true := by decide +kernel
theorem tX2_never_64 : mdk MX2_never 64 (.invokevirtual 111) = true := by decide +kernel
def bX2_never_67 : List mB := [(.iand, mI 0), (.istore_n 3, mI 0), (.iinc 4 1, mI (nI 1))]
theorem kX2_never_67 : mchk MX2_never 67 bX2_never_67 72 = true := by decide +kernel
theorem tX2_never_72 : mbk MX2_never 72 (.goto (-26)) 46 = true := by decide +kernel
def bX2_never_75 : List mB := [(.iload_n 3, mI 0)]
theorem kX2_never_75 : mchk MX2_never 75 bX2_never_75 76 = true := by decide +kernel
theorem tX2_never_76 : mrk MX2_never 76 .ireturn = true := by decide +kernel
def bX2_mayFree_0 : List mB := [(.aload_n 0, mI 0), (.getfield 10, mR 2 0), (.iload_n 1, mI 0)]
theorem kX2_mayFree_0 : mchk MX2_mayFree 0 bX2_mayFree_0 5 = true := by decide +kernel
theorem tX2_mayFree_5 : mdk MX2_mayFree 5 (.invokevirtual 57) = true := by decide +kernel
theorem tX2_mayFree_8 : mbk MX2_mayFree 8 (.ifCond .ne 9) 17 = true := by decide +kernel
def bX2_mayFree_11 : List mB := [(.aload_n 0, mI 0), (.iconst (-1), mI (-1))]
theorem kX2_mayFree_11 : mchk MX2_mayFree 11 bX2_mayFree_11 13 = true := by decide +kernel
theorem tX2_mayFree_13 : mdk MX2_mayFree 13 (.invokevirtual 39) = true := by decide +kernel
theorem tX2_mayFree_16 : mrk MX2_mayFree 16 .ireturn = true := by decide +kernel
def bX2_mayFree_17 : List mB := [(.aload_n 0, mI 0), (.getfield 10, mR 2 0), (.iload_n 1, mI 0)]
theorem kX2_mayFree_17 : mchk MX2_mayFree 17 bX2_mayFree_17 22 = true := by decide +kernel
theorem tX2_mayFree_22 : mdk MX2_mayFree 22 (.invokevirtual 137) = true := by decide +kernel
theorem tX2_mayFree_25 : mrk MX2_mayFree 25 .ireturn = true := by decide +kernel
def bX2_worth_0 : List mB := [(.aload_n 0, mI 0), (.getfield 10, mR 2 0), (.iload_n 1, mI 0)]
theorem kX2_worth_0 : mchk MX2_worth 0 bX2_worth_0 5 = true := by decide +kernel
theorem tX2_worth_5 : mdk MX2_worth 5 (.invokevirtual 57) = true := by decide +kernel
theorem tX2_worth_8 : mbk MX2_worth 8 (.ifCond .ne 7) 15 = true := by decide +kernel
def bX2_worth_11 : List mB := [(.iconst (-1), mI (-1))]
theorem kX2_worth_11 : mchk MX2_worth 11 bX2_worth_11 12 = true := by decide +kernel
theorem tX2_worth_12 : mbk MX2_worth 12 (.goto 20) 32 = true := by decide +kernel
def bX2_worth_15 : List mB := [(.aload_n 0, mI 0), (.getfield 10, mR 2 0), (.iload_n 1, mI 0)]
theorem kX2_worth_15 : mchk MX2_worth 15 bX2_worth_15 20 = true := by decide +kernel
theorem tX2_worth_20 : mdk MX2_worth 20 (.invokevirtual 140) = true := by decide +kernel
theorem tX2_worth_23 : mbk MX2_worth 23 (.ifCond .eq 8) 31 = true := by decide +kernel
def bX2_worth_26 : List mB := [(.bipush (-3), mI (-3))]
theorem kX2_worth_26 : mchk MX2_worth 26 bX2_worth_26 28 = true := by decide +kernel
theorem tX2_worth_28 : mbk MX2_worth 28 (.goto 4) 32 = true := by decide +kernel
def bX2_worth_31 : List mB := [(.iconst 0, mI (nI 0))]
theorem kX2_worth_31 : mchk MX2_worth 31 bX2_worth_31 32 = true := by decide +kernel
def bX2_worth_32 : List mB := [(.istore_n 2, mI 0), (.iload_n 2, mI 0)]
theorem kX2_worth_32 : mchk MX2_worth 32 bX2_worth_32 34 = true := by decide +kernel
theorem tX2_worth_34 : mbk MX2_worth 34 (.ifCond .eq 12) 46 = true := by decide +kernel
def bX2_worth_37 : List mB := [(.ldc 143, mI (nI 1000000000)), (.aload_n 0, mI 0), (.iload_n 2, mI 0)]
theorem kX2_worth_37 : mchk MX2_worth 37 bX2_worth_37 41 = true := by decide +kernel
theorem tX2_worth_41 : mdk MX2_worth 41 (.invokevirtual 39) = true := by decide +kernel
def bX2_worth_44 : List mB := [(.isub, mI 0)]
theorem kX2_worth_44 : mchk MX2_worth 44 bX2_worth_44 45 = true := by decide +kernel
theorem tX2_worth_45 : mrk MX2_worth 45 .ireturn = true := by decide +kernel
def bX2_worth_46 : List mB := [(.aload_n 0, mI 0), (.getfield 16, mR 2 1), (.aload_n 0, mI 0), (.getfield 10, mR 2 0)]
theorem kX2_worth_46 : mchk MX2_worth 46 bX2_worth_46 54 = true := by decide +kernel
theorem tX2_worth_54 : mdk MX2_worth 54 (.invokevirtual 107) = true := by decide +kernel
def bX2_worth_57 : List mB := [(.aload_n 0, mI 0), (.iload_n 1, mI 0)]
theorem kX2_worth_57 : mchk MX2_worth 57 bX2_worth_57 59 = true := by decide +kernel
theorem tX2_worth_59 : mdk MX2_worth 59 (.invokevirtual 144) = true := by decide +kernel
def bX2_worth_62 : List mB := [(.istore_n 3, mI 0), (.aload_n 0, mI 0), (.getfield 16, mR 2 1), (.aload_n 0, mI 0), (.getfield 10, mR 2 0)]
theorem kX2_worth_62 : mchk MX2_worth 62 bX2_worth_62 71 = true := by decide +kernel
theorem tX2_worth_71 : mdk MX2_worth 71 (.invokevirtual 107) = true := by decide +kernel
def bX2_worth_74 : List mB := [(.aload_n 0, mI 0), (.getfield 16, mR 2 1), (.iload_n 1, mI 0)]
theorem kX2_worth_74 : mchk MX2_worth 74 bX2_worth_74 79 = true := by decide +kernel
theorem tX2_worth_79 : mdk MX2_worth 79 (.invokevirtual 147) = true := by decide +kernel
def bX2_worth_82 : List mB := [(.aload_n 0, mI 0), (.iload_n 1, mI 0)]
theorem kX2_worth_82 : mchk MX2_worth 82 bX2_worth_82 84 = true := by decide +kernel
theorem tX2_worth_84 : mdk MX2_worth 84 (.invokevirtual 144) = true := by decide +kernel
def bX2_worth_87 : List mB := [(.iload_n 3, mI 0), (.isub, mI 0)]
theorem kX2_worth_87 : mchk MX2_worth 87 bX2_worth_87 89 = true := by decide +kernel
theorem tX2_worth_89 : mrk MX2_worth 89 .ireturn = true := by decide +kernel
def bX2_hunt_0 : List mB := [(.aload_n 0, mI 0), (.getfield 10, mR 2 0), (.iload_n 1, mI 0)]
theorem kX2_hunt_0 : mchk MX2_hunt 0 bX2_hunt_0 5 = true := by decide +kernel
theorem tX2_hunt_5 : mdk MX2_hunt 5 (.invokevirtual 57) = true := by decide +kernel
theorem tX2_hunt_8 : mbk MX2_hunt 8 (.ifCond .ne 7) 15 = true := by decide +kernel
def bX2_hunt_11 : List mB := [(.iconst (-1), mI (-1))]
theorem kX2_hunt_11 : mchk MX2_hunt 11 bX2_hunt_11 12 = true := by decide +kernel
theorem tX2_hunt_12 : mbk MX2_hunt 12 (.goto 26) 38 = true := by decide +kernel
def bX2_hunt_15 : List mB := [(.aload_n 0, mI 0), (.getfield 10, mR 2 0), (.iload_n 1, mI 0)]
theorem kX2_hunt_15 : mchk MX2_hunt 15 bX2_hunt_15 20 = true := by decide +kernel
theorem tX2_hunt_20 : mdk MX2_hunt 20 (.invokevirtual 140) = true := by decide +kernel
theorem tX2_hunt_23 : mbk MX2_hunt 23 (.ifCond .ne 8) 31 = true := by decide +kernel
def bX2_hunt_26 : List mB := [(.bipush (-3), mI (-3))]
theorem kX2_hunt_26 : mchk MX2_hunt 26 bX2_hunt_26 28 = true := by decide +kernel
theorem tX2_hunt_28 : mbk MX2_hunt 28 (.goto 10) 38 = true := by decide +kernel
def bX2_hunt_31 : List mB := [(.iload_n 2, mI 0), (.iconst 1, mI (nI 1)), (.bipush 60, mI (nI 60))]
theorem kX2_hunt_31 : mchk MX2_hunt 31 bX2_hunt_31 35 = true := by decide +kernel
theorem tX2_hunt_35 : mdk MX2_hunt 35 (.invokestatic 96) = true := by decide +kernel
def bX2_hunt_38 : List mB := [(.istore 4, mI 0), (.iload 4, mI 0)]
theorem kX2_hunt_38 : mchk MX2_hunt 38 bX2_hunt_38 42 = true := by decide +kernel
theorem tX2_hunt_42 : mbk MX2_hunt 42 (.ifCond .ne 16) 58 = true := by decide +kernel
def bX2_hunt_45 : List mB := [(.iload_n 3, mI 0)]
theorem kX2_hunt_45 : mchk MX2_hunt 45 bX2_hunt_45 46 = true := by decide +kernel
theorem tX2_hunt_46 : mbk MX2_hunt 46 (.ifCond .eq 12) 58 = true := by decide +kernel
def bX2_hunt_49 : List mB := [(.iload_n 3, mI 0), (.iconst 1, mI (nI 1))]
theorem kX2_hunt_49 : mchk MX2_hunt 49 bX2_hunt_49 51 = true := by decide +kernel
theorem tX2_hunt_51 : mbk MX2_hunt 51 (.if_icmp .eq 7) 58 = true := by decide +kernel
def bX2_hunt_54 : List mB := [(.bipush (-2), mI (-2)), (.istore 4, mI 0)]
theorem kX2_hunt_54 : mchk MX2_hunt 54 bX2_hunt_54 58 = true := by decide +kernel
def bX2_hunt_58 : List mB := [(.iload 4, mI 0)]
theorem kX2_hunt_58 : mchk MX2_hunt 58 bX2_hunt_58 60 = true := by decide +kernel
theorem tX2_hunt_60 : mbk MX2_hunt 60 (.ifCond .eq 10) 70 = true := by decide +kernel
def bX2_hunt_63 : List mB := [(.aload_n 0, mI 0), (.iload 4, mI 0)]
theorem kX2_hunt_63 : mchk MX2_hunt 63 bX2_hunt_63 66 = true := by decide +kernel
theorem tX2_hunt_66 : mdk MX2_hunt 66 (.invokevirtual 39) = true := by decide +kernel
theorem tX2_hunt_69 : mrk MX2_hunt 69 .ireturn = true := by decide +kernel
def bX2_hunt_70 : List mB := [(.iconst 0, mI (nI 0)), (.istore 5, mI 0), (.iconst (-1), mI (-1)), (.istore 6, mI 0), (.iconst 0, mI (nI 0)), (.istore 7, mI 0)]
theorem kX2_hunt_70 : mchk MX2_hunt 70 bX2_hunt_70 79 = true := by decide +kernel
def bX2_hunt_79 : List mB := [(.iload 7, mI 0), (.iconst 4, mI (nI 4))]
theorem kX2_hunt_79 : mchk MX2_hunt 79 bX2_hunt_79 82 = true := by decide +kernel
theorem tX2_hunt_82 : mbk MX2_hunt 82 (.if_icmp .ge 54) 136 = true := by decide +kernel
def bX2_hunt_85 : List mB := [(.aload_n 0, mI 0), (.getfield 16, mR 2 1), (.aload_n 0, mI 0), (.getfield 10, mR 2 0)]
theorem kX2_hunt_85 : mchk MX2_hunt 85 bX2_hunt_85 93 = true := by decide +kernel
theorem tX2_hunt_93 : mdk MX2_hunt 93 (.invokevirtual 107) = true := by decide +kernel
def bX2_hunt_96 : List mB := [(.aload_n 0, mI 0), (.getfield 16, mR 2 1), (.iload_n 1, mI 0), (.iconst 4, mI (nI 4)), (.iload 7, mI 0), (.iadd, mI 0)]
theorem kX2_hunt_96 : mchk MX2_hunt 96 bX2_hunt_96 105 = true := by decide +kernel
theorem tX2_hunt_105 : mdk MX2_hunt 105 (.invokevirtual 150) = true := by decide +kernel
def bX2_hunt_108 : List mB := [(.aload_n 0, mI 0), (.iload_n 2, mI 0)]
theorem kX2_hunt_108 : mchk MX2_hunt 108 bX2_hunt_108 110 = true := by decide +kernel
theorem tX2_hunt_110 : mdk MX2_hunt 110 (.invokevirtual 125) = true := by decide +kernel
def bX2_hunt_113 : List mB := [(.istore 8, mI 0), (.iload 8, mI 0), (.iload 6, mI 0)]
theorem kX2_hunt_113 : mchk MX2_hunt 113 bX2_hunt_113 119 = true := by decide +kernel
theorem tX2_hunt_119 : mbk MX2_hunt 119 (.if_icmp .le 11) 130 = true := by decide +kernel
def bX2_hunt_122 : List mB := [(.iload 8, mI 0), (.istore 6, mI 0), (.iload 7, mI 0), (.istore 5, mI 0)]
theorem kX2_hunt_122 : mchk MX2_hunt 122 bX2_hunt_122 130 = true := by decide +kernel
def bX2_hunt_130 : List mB := [(.iinc 7 1, mI (nI 1))]
theorem kX2_hunt_130 : mchk MX2_hunt 130 bX2_hunt_130 133 = true := by decide +kernel
theorem tX2_hunt_133 : mbk MX2_hunt 133 (.goto (-54)) 79 = true := by decide +kernel
def bX2_hunt_136 : List mB := [(.iload_n 3, mI 0)]
theorem kX2_hunt_136 : mchk MX2_hunt 136 bX2_hunt_136 137 = true := by decide +kernel
theorem tX2_hunt_137 : mbk MX2_hunt 137 (.ifCond .ne 8) 145 = true := by decide +kernel
def bX2_hunt_140 : List mB := [(.iload 5, mI 0)]
theorem kX2_hunt_140 : mchk MX2_hunt 140 bX2_hunt_140 142 = true := by decide +kernel
theorem tX2_hunt_142 : mbk MX2_hunt 142 (.goto 5) 147 = true := by decide +kernel
def bX2_hunt_145 : List mB := [(.iload 6, mI 0)]
theorem kX2_hunt_145 : mchk MX2_hunt 145 bX2_hunt_145 147 = true := by decide +kernel
theorem tX2_hunt_147 : mrk MX2_hunt 147 .ireturn = true := by decide +kernel
def bX2_enough_0 : List mB := [(.aload_n 0, mI 0), (.getfield 10, mR 2 0)]
theorem kX2_enough_0 : mchk MX2_enough 0 bX2_enough_0 4 = true := by decide +kernel
theorem tX2_enough_4 : mdk MX2_enough 4 (.invokevirtual 114) = true := by decide +kernel
theorem tX2_enough_7 : mbk MX2_enough 7 (.ifCond .ne 10) 17 = true := by decide +kernel
def bX2_enough_10 : List mB := [(.aload_n 0, mI 0), (.bipush (-3), mI (-3))]
theorem kX2_enough_10 : mchk MX2_enough 10 bX2_enough_10 13 = true := by decide +kernel
theorem tX2_enough_13 : mdk MX2_enough 13 (.invokevirtual 39) = true := by decide +kernel
theorem tX2_enough_16 : mrk MX2_enough 16 .ireturn = true := by decide +kernel
def bX2_enough_17 : List mB := [(.iconst 0, mI (nI 0)), (.istore_n 1, mI 0)]
theorem kX2_enough_17 : mchk MX2_enough 17 bX2_enough_17 19 = true := by decide +kernel
def bX2_enough_19 : List mB := [(.iload_n 1, mI 0), (.iconst 3, mI (nI 3))]
theorem kX2_enough_19 : mchk MX2_enough 19 bX2_enough_19 21 = true := by decide +kernel
theorem tX2_enough_21 : mbk MX2_enough 21 (.if_icmp .gt 42) 63 = true := by decide +kernel
def bX2_enough_24 : List mB := [(.aload_n 0, mI 0), (.getfield 16, mR 2 1), (.aload_n 0, mI 0), (.getfield 10, mR 2 0)]
theorem kX2_enough_24 : mchk MX2_enough 24 bX2_enough_24 32 = true := by decide +kernel
theorem tX2_enough_32 : mdk MX2_enough 32 (.invokevirtual 107) = true := by decide +kernel
def bX2_enough_35 : List mB := [(.aload_n 0, mI 0), (.iload_n 1, mI 0)]
theorem kX2_enough_35 : mchk MX2_enough 35 bX2_enough_35 37 = true := by decide +kernel
theorem tX2_enough_37 : mdk MX2_enough 37 (.invokevirtual 154) = true := by decide +kernel
theorem tX2_enough_40 : mbk MX2_enough 40 (.ifCond .ne 6) 46 = true := by decide +kernel
def bX2_enough_43 : List mB := [(.bipush (-9), mI (-9))]
theorem kX2_enough_43 : mchk MX2_enough 43 bX2_enough_43 45 = true := by decide +kernel
theorem tX2_enough_45 : mrk MX2_enough 45 .ireturn = true := by decide +kernel
def bX2_enough_46 : List mB := [(.aload_n 0, mI 0)]
theorem kX2_enough_46 : mchk MX2_enough 46 bX2_enough_46 47 = true := by decide +kernel
theorem tX2_enough_47 : mdk MX2_enough 47 (.invokevirtual 117) = true := by decide +kernel
def bX2_enough_50 : List mB := [(.bipush (-9), mI (-9))]
theorem kX2_enough_50 : mchk MX2_enough 50 bX2_enough_50 52 = true := by decide +kernel
theorem tX2_enough_52 : mbk MX2_enough 52 (.if_icmp .eq 5) 57 = true := by decide +kernel
def bX2_enough_55 : List mB := [(.iload_n 1, mI 0)]
theorem kX2_enough_55 : mchk MX2_enough 55 bX2_enough_55 56 = true := by decide +kernel
theorem tX2_enough_56 : mrk MX2_enough 56 .ireturn = true := by decide +kernel
def bX2_enough_57 : List mB := [(.iinc 1 1, mI (nI 1))]
theorem kX2_enough_57 : mchk MX2_enough 57 bX2_enough_57 60 = true := by decide +kernel
theorem tX2_enough_60 : mbk MX2_enough 60 (.goto (-41)) 19 = true := by decide +kernel
def bX2_enough_63 : List mB := [(.bipush (-9), mI (-9))]
theorem kX2_enough_63 : mchk MX2_enough 63 bX2_enough_63 65 = true := by decide +kernel
theorem tX2_enough_65 : mrk MX2_enough 65 .ireturn = true := by decide +kernel
def bX2_change_0 : List mB := [(.aload_n 0, mI 0), (.getfield 10, mR 2 0), (.iload_n 1, mI 0)]
theorem kX2_change_0 : mchk MX2_change 0 bX2_change_0 5 = true := by decide +kernel
theorem tX2_change_5 : mdk MX2_change 5 (.invokevirtual 57) = true := by decide +kernel
theorem tX2_change_8 : mbk MX2_change 8 (.ifCond .eq 14) 22 = true := by decide +kernel
def bX2_change_11 : List mB := [(.aload_n 0, mI 0), (.getfield 10, mR 2 0), (.iload_n 2, mI 0)]
theorem kX2_change_11 : mchk MX2_change 11 bX2_change_11 16 = true := by decide +kernel
theorem tX2_change_16 : mdk MX2_change 16 (.invokevirtual 57) = true := by decide +kernel
theorem tX2_change_19 : mbk MX2_change 19 (.ifCond .ne 7) 26 = true := by decide +kernel
def bX2_change_22 : List mB := [(.iconst (-1), mI (-1))]
theorem kX2_change_22 : mchk MX2_change 22 bX2_change_22 23 = true := by decide +kernel
theorem tX2_change_23 : mbk MX2_change 23 (.goto 4) 27 = true := by decide +kernel
def bX2_change_26 : List mB := [(.iconst 0, mI (nI 0))]
theorem kX2_change_26 : mchk MX2_change 26 bX2_change_26 27 = true := by decide +kernel
def bX2_change_27 : List mB := [(.istore 4, mI 0), (.iload 4, mI 0)]
theorem kX2_change_27 : mchk MX2_change 27 bX2_change_27 31 = true := by decide +kernel
theorem tX2_change_31 : mbk MX2_change 31 (.ifCond .ne 29) 60 = true := by decide +kernel
def bX2_change_34 : List mB := [(.aload_n 0, mI 0), (.getfield 10, mR 2 0), (.iload_n 1, mI 0)]
theorem kX2_change_34 : mchk MX2_change 34 bX2_change_34 39 = true := by decide +kernel
theorem tX2_change_39 : mdk MX2_change 39 (.invokevirtual 140) = true := by decide +kernel
theorem tX2_change_42 : mbk MX2_change 42 (.ifCond .eq 14) 56 = true := by decide +kernel
def bX2_change_45 : List mB := [(.aload_n 0, mI 0), (.getfield 10, mR 2 0), (.iload_n 2, mI 0)]
theorem kX2_change_45 : mchk MX2_change 45 bX2_change_45 50 = true := by decide +kernel
theorem tX2_change_50 : mdk MX2_change 50 (.invokevirtual 140) = true := by decide +kernel
theorem tX2_change_53 : mbk MX2_change 53 (.ifCond .eq 7) 60 = true := by decide +kernel
def bX2_change_56 : List mB := [(.bipush (-3), mI (-3)), (.istore 4, mI 0)]
theorem kX2_change_56 : mchk MX2_change 56 bX2_change_56 60 = true := by decide +kernel
def bX2_change_60 : List mB := [(.iload 4, mI 0)]
theorem kX2_change_60 : mchk MX2_change 60 bX2_change_60 62 = true := by decide +kernel
theorem tX2_change_62 : mbk MX2_change 62 (.ifCond .ne 16) 78 = true := by decide +kernel
def bX2_change_65 : List mB := [(.iload_n 3, mI 0)]
theorem kX2_change_65 : mchk MX2_change 65 bX2_change_65 66 = true := by decide +kernel
theorem tX2_change_66 : mbk MX2_change 66 (.ifCond .eq 12) 78 = true := by decide +kernel
def bX2_change_69 : List mB := [(.iload_n 3, mI 0), (.iconst 1, mI (nI 1))]
theorem kX2_change_69 : mchk MX2_change 69 bX2_change_69 71 = true := by decide +kernel
theorem tX2_change_71 : mbk MX2_change 71 (.if_icmp .eq 7) 78 = true := by decide +kernel
def bX2_change_74 : List mB := [(.bipush (-2), mI (-2)), (.istore 4, mI 0)]
theorem kX2_change_74 : mchk MX2_change 74 bX2_change_74 78 = true := by decide +kernel
def bX2_change_78 : List mB := [(.iload 4, mI 0)]
theorem kX2_change_78 : mchk MX2_change 78 bX2_change_78 80 = true := by decide +kernel
theorem tX2_change_80 : mbk MX2_change 80 (.ifCond .eq 10) 90 = true := by decide +kernel
def bX2_change_83 : List mB := [(.aload_n 0, mI 0), (.iload 4, mI 0)]
theorem kX2_change_83 : mchk MX2_change 83 bX2_change_83 86 = true := by decide +kernel
theorem tX2_change_86 : mdk MX2_change 86 (.invokevirtual 39) = true := by decide +kernel
theorem tX2_change_89 : mrk MX2_change 89 .ireturn = true := by decide +kernel
def bX2_change_90 : List mB := [(.iconst 0, mI (nI 0)), (.istore 5, mI 0), (.iconst (-1), mI (-1)), (.istore 6, mI 0), (.aload_n 0, mI 0), (.getfield 16, mR 2 1), (.aload_n 0, mI 0), (.getfield 10, mR 2 0)]
theorem kX2_change_90 : mchk MX2_change 90 bX2_change_90 104 = true := by decide +kernel
theorem tX2_change_104 : mdk MX2_change 104 (.invokevirtual 107) = true := by decide +kernel
def bX2_change_107 : List mB := [(.iconst 0, mI (nI 0)), (.istore 7, mI 0)]
theorem kX2_change_107 : mchk MX2_change 107 bX2_change_107 110 = true := by decide +kernel
def bX2_change_110 : List mB := [(.iload 7, mI 0), (.bipush 20, mI (nI 20))]
theorem kX2_change_110 : mchk MX2_change 110 bX2_change_110 114 = true := by decide +kernel
theorem tX2_change_114 : mbk MX2_change 114 (.if_icmp .gt 73) 187 = true := by decide +kernel
def bX2_change_117 : List mB := [(.aload_n 0, mI 0), (.getfield 19, mR 2 2), (.aload_n 0, mI 0), (.getfield 16, mR 2 1)]
theorem kX2_change_117 : mchk MX2_change 117 bX2_change_117 125 = true := by decide +kernel
theorem tX2_change_125 : mdk MX2_change 125 (.invokevirtual 107) = true := by decide +kernel
def bX2_change_128 : List mB := [(.aload_n 0, mI 0), (.getfield 19, mR 2 2), (.iload_n 1, mI 0), (.iload_n 2, mI 0)]
theorem kX2_change_128 : mchk MX2_change 128 bX2_change_128 134 = true := by decide +kernel
theorem tX2_change_134 : mdk MX2_change 134 (.invokevirtual 157) = true := by decide +kernel
def bX2_change_137 : List mB := [(.aload_n 0, mI 0), (.getfield 19, mR 2 2), (.bipush 30, mI (nI 30)), (.iload 7, mI 0), (.isub, mI 0)]
theorem kX2_change_137 : mchk MX2_change 137 bX2_change_137 146 = true := by decide +kernel
theorem tX2_change_146 : mdk MX2_change 146 (.invokevirtual 103) = true := by decide +kernel
def bX2_change_149 : List mB := [(.aload_n 0, mI 0), (.getfield 19, mR 2 2)]
theorem kX2_change_149 : mchk MX2_change 149 bX2_change_149 153 = true := by decide +kernel
theorem tX2_change_153 : mdk MX2_change 153 (.invokevirtual 122) = true := by decide +kernel
def bX2_change_156 : List mB := [(.iload 6, mI 0)]
theorem kX2_change_156 : mchk MX2_change 156 bX2_change_156 158 = true := by decide +kernel
theorem tX2_change_158 : mbk MX2_change 158 (.if_icmp .le 16) 174 = true := by decide +kernel
def bX2_change_161 : List mB := [(.aload_n 0, mI 0), (.getfield 19, mR 2 2)]
theorem kX2_change_161 : mchk MX2_change 161 bX2_change_161 165 = true := by decide +kernel
theorem tX2_change_165 : mdk MX2_change 165 (.invokevirtual 122) = true := by decide +kernel
def bX2_change_168 : List mB := [(.istore 6, mI 0), (.iload 7, mI 0), (.istore 5, mI 0)]
theorem kX2_change_168 : mchk MX2_change 168 bX2_change_168 174 = true := by decide +kernel
def bX2_change_174 : List mB := [(.aload_n 0, mI 0), (.getfield 16, mR 2 1)]
theorem kX2_change_174 : mchk MX2_change 174 bX2_change_174 178 = true := by decide +kernel
theorem tX2_change_178 : mdk MX2_change 178 (.invokevirtual 134) = true := by decide +kernel
def bX2_change_181 : List mB := [(.iinc 7 1, mI (nI 1))]
theorem kX2_change_181 : mchk MX2_change 181 bX2_change_181 184 = true := by decide +kernel
theorem tX2_change_184 : mbk MX2_change 184 (.goto (-74)) 110 = true := by decide +kernel
def bX2_change_187 : List mB := [(.iload_n 3, mI 0)]
theorem kX2_change_187 : mchk MX2_change 187 bX2_change_187 188 = true := by decide +kernel
theorem tX2_change_188 : mbk MX2_change 188 (.ifCond .ne 8) 196 = true := by decide +kernel
def bX2_change_191 : List mB := [(.iload 5, mI 0)]
theorem kX2_change_191 : mchk MX2_change 191 bX2_change_191 193 = true := by decide +kernel
theorem tX2_change_193 : mbk MX2_change 193 (.goto 5) 198 = true := by decide +kernel
def bX2_change_196 : List mB := [(.iload 6, mI 0)]
theorem kX2_change_196 : mchk MX2_change 196 bX2_change_196 198 = true := by decide +kernel
theorem tX2_change_198 : mrk MX2_change 198 .ireturn = true := by decide +kernel
def bX2_longest_0 : List mB := [(.aload_n 0, mI 0), (.getfield 10, mR 2 0)]
theorem kX2_longest_0 : mchk MX2_longest 0 bX2_longest_0 4 = true := by decide +kernel
theorem tX2_longest_4 : mdk MX2_longest 4 (.invokevirtual 114) = true := by decide +kernel
theorem tX2_longest_7 : mbk MX2_longest 7 (.ifCond .ne 10) 17 = true := by decide +kernel
def bX2_longest_10 : List mB := [(.aload_n 0, mI 0), (.bipush (-3), mI (-3))]
theorem kX2_longest_10 : mchk MX2_longest 10 bX2_longest_10 13 = true := by decide +kernel
theorem tX2_longest_13 : mdk MX2_longest 13 (.invokevirtual 39) = true := by decide +kernel
theorem tX2_longest_16 : mrk MX2_longest 16 .ireturn = true := by decide +kernel
def bX2_longest_17 : List mB := [(.iconst 0, mI (nI 0)), (.istore_n 1, mI 0), (.iconst (-1), mI (-1)), (.istore_n 2, mI 0), (.iconst 0, mI (nI 0)), (.istore_n 3, mI 0)]
theorem kX2_longest_17 : mchk MX2_longest 17 bX2_longest_17 23 = true := by decide +kernel
def bX2_longest_23 : List mB := [(.iload_n 3, mI 0), (.iconst 4, mI (nI 4))]
theorem kX2_longest_23 : mchk MX2_longest 23 bX2_longest_23 25 = true := by decide +kernel
theorem tX2_longest_25 : mbk MX2_longest 25 (.if_icmp .ge 62) 87 = true := by decide +kernel
def bX2_longest_28 : List mB := [(.aload_n 0, mI 0), (.getfield 16, mR 2 1), (.aload_n 0, mI 0), (.getfield 10, mR 2 0)]
theorem kX2_longest_28 : mchk MX2_longest 28 bX2_longest_28 36 = true := by decide +kernel
theorem tX2_longest_36 : mdk MX2_longest 36 (.invokevirtual 107) = true := by decide +kernel
def bX2_longest_39 : List mB := [(.aload_n 0, mI 0), (.getfield 16, mR 2 1), (.iload_n 3, mI 0)]
theorem kX2_longest_39 : mchk MX2_longest 39 bX2_longest_39 44 = true := by decide +kernel
theorem tX2_longest_44 : mdk MX2_longest 44 (.invokevirtual 89) = true := by decide +kernel
def bX2_longest_47 : List mB := [(.pop, mI 0), (.aload_n 0, mI 0)]
theorem kX2_longest_47 : mchk MX2_longest 47 bX2_longest_47 49 = true := by decide +kernel
theorem tX2_longest_49 : mdk MX2_longest 49 (.invokevirtual 117) = true := by decide +kernel
def bX2_longest_52 : List mB := [(.istore 4, mI 0), (.iload 4, mI 0), (.bipush (-9), mI (-9))]
theorem kX2_longest_52 : mchk MX2_longest 52 bX2_longest_52 58 = true := by decide +kernel
theorem tX2_longest_58 : mbk MX2_longest 58 (.if_icmp .ne 8) 66 = true := by decide +kernel
def bX2_longest_61 : List mB := [(.bipush 61, mI (nI 61))]
theorem kX2_longest_61 : mchk MX2_longest 61 bX2_longest_61 63 = true := by decide +kernel
theorem tX2_longest_63 : mbk MX2_longest 63 (.goto 5) 68 = true := by decide +kernel
def bX2_longest_66 : List mB := [(.iload 4, mI 0)]
theorem kX2_longest_66 : mchk MX2_longest 66 bX2_longest_66 68 = true := by decide +kernel
def bX2_longest_68 : List mB := [(.istore 5, mI 0), (.iload 5, mI 0), (.iload_n 2, mI 0)]
theorem kX2_longest_68 : mchk MX2_longest 68 bX2_longest_68 73 = true := by decide +kernel
theorem tX2_longest_73 : mbk MX2_longest 73 (.if_icmp .le 8) 81 = true := by decide +kernel
def bX2_longest_76 : List mB := [(.iload 5, mI 0), (.istore_n 2, mI 0), (.iload_n 3, mI 0), (.istore_n 1, mI 0)]
theorem kX2_longest_76 : mchk MX2_longest 76 bX2_longest_76 81 = true := by decide +kernel
def bX2_longest_81 : List mB := [(.iinc 3 1, mI (nI 1))]
theorem kX2_longest_81 : mchk MX2_longest 81 bX2_longest_81 84 = true := by decide +kernel
theorem tX2_longest_84 : mbk MX2_longest 84 (.goto (-61)) 23 = true := by decide +kernel
def bX2_longest_87 : List mB := [(.iload_n 1, mI 0)]
theorem kX2_longest_87 : mchk MX2_longest 87 bX2_longest_87 88 = true := by decide +kernel
theorem tX2_longest_88 : mrk MX2_longest 88 .ireturn = true := by decide +kernel
def bX2_owes_0 : List mB := [(.aload_n 0, mI 0), (.getfield 10, mR 2 0), (.iload_n 1, mI 0)]
theorem kX2_owes_0 : mchk MX2_owes 0 bX2_owes_0 5 = true := by decide +kernel
theorem tX2_owes_5 : mdk MX2_owes 5 (.invokevirtual 57) = true := by decide +kernel
theorem tX2_owes_8 : mbk MX2_owes 8 (.ifCond .eq 14) 22 = true := by decide +kernel
def bX2_owes_11 : List mB := [(.aload_n 0, mI 0), (.getfield 10, mR 2 0), (.iload_n 2, mI 0)]
theorem kX2_owes_11 : mchk MX2_owes 11 bX2_owes_11 16 = true := by decide +kernel
theorem tX2_owes_16 : mdk MX2_owes 16 (.invokevirtual 57) = true := by decide +kernel
theorem tX2_owes_19 : mbk MX2_owes 19 (.ifCond .ne 9) 28 = true := by decide +kernel
def bX2_owes_22 : List mB := [(.aload_n 0, mI 0), (.iconst (-1), mI (-1))]
theorem kX2_owes_22 : mchk MX2_owes 22 bX2_owes_22 24 = true := by decide +kernel
theorem tX2_owes_24 : mdk MX2_owes 24 (.invokevirtual 39) = true := by decide +kernel
theorem tX2_owes_27 : mrk MX2_owes 27 .ireturn = true := by decide +kernel
def bX2_owes_28 : List mB := [(.aload_n 0, mI 0), (.getfield 10, mR 2 0), (.iload_n 2, mI 0), (.iload_n 1, mI 0)]
theorem kX2_owes_28 : mchk MX2_owes 28 bX2_owes_28 34 = true := by decide +kernel
theorem tX2_owes_34 : mdk MX2_owes 34 (.invokevirtual 160) = true := by decide +kernel
theorem tX2_owes_37 : mrk MX2_owes 37 .ireturn = true := by decide +kernel
def bX2_debt_0 : List mB := [(.aload_n 0, mI 0), (.getfield 10, mR 2 0), (.iload_n 1, mI 0)]
theorem kX2_debt_0 : mchk MX2_debt 0 bX2_debt_0 5 = true := by decide +kernel
theorem tX2_debt_5 : mdk MX2_debt 5 (.invokevirtual 57) = true := by decide +kernel
theorem tX2_debt_8 : mbk MX2_debt 8 (.ifCond .ne 12) 20 = true := by decide +kernel
def bX2_debt_11 : List mB := [(.ldc 143, mI (nI 1000000000)), (.aload_n 0, mI 0), (.iconst (-1), mI (-1))]
theorem kX2_debt_11 : mchk MX2_debt 11 bX2_debt_11 15 = true := by decide +kernel
theorem tX2_debt_15 : mdk MX2_debt 15 (.invokevirtual 39) = true := by decide +kernel
def bX2_debt_18 : List mB := [(.isub, mI 0)]
theorem kX2_debt_18 : mchk MX2_debt 18 bX2_debt_18 19 = true := by decide +kernel
theorem tX2_debt_19 : mrk MX2_debt 19 .ireturn = true := by decide +kernel
def bX2_debt_20 : List mB := [(.iconst 0, mI (nI 0)), (.istore_n 2, mI 0), (.iconst 0, mI (nI 0)), (.istore_n 3, mI 0)]
theorem kX2_debt_20 : mchk MX2_debt 20 bX2_debt_20 24 = true := by decide +kernel
def bX2_debt_24 : List mB := [(.iload_n 3, mI 0), (.bipush 8, mI (nI 8))]
theorem kX2_debt_24 : mchk MX2_debt 24 bX2_debt_24 27 = true := by decide +kernel
theorem tX2_debt_27 : mbk MX2_debt 27 (.if_icmp .ge 31) 58 = true := by decide +kernel
def bX2_debt_30 : List mB := [(.iload_n 2, mI 0), (.aload_n 0, mI 0), (.getfield 10, mR 2 0), (.iload_n 1, mI 0), (.iload_n 3, mI 0)]
theorem kX2_debt_30 : mchk MX2_debt 30 bX2_debt_30 37 = true := by decide +kernel
theorem tX2_debt_37 : mdk MX2_debt 37 (.invokevirtual 160) = true := by decide +kernel
def bX2_debt_40 : List mB := [(.aload_n 0, mI 0), (.getfield 10, mR 2 0), (.iload_n 3, mI 0), (.iload_n 1, mI 0)]
theorem kX2_debt_40 : mchk MX2_debt 40 bX2_debt_40 46 = true := by decide +kernel
theorem tX2_debt_46 : mdk MX2_debt 46 (.invokevirtual 160) = true := by decide +kernel
def bX2_debt_49 : List mB := [(.isub, mI 0), (.iadd, mI 0), (.istore_n 2, mI 0), (.iinc 3 1, mI (nI 1))]
theorem kX2_debt_49 : mchk MX2_debt 49 bX2_debt_49 55 = true := by decide +kernel
theorem tX2_debt_55 : mbk MX2_debt 55 (.goto (-31)) 24 = true := by decide +kernel
def bX2_debt_58 : List mB := [(.iload_n 2, mI 0)]
theorem kX2_debt_58 : mchk MX2_debt 58 bX2_debt_58 59 = true := by decide +kernel
theorem tX2_debt_59 : mrk MX2_debt 59 .ireturn = true := by decide +kernel
def bX2_why_0 : List mB := [(.aload_n 0, mI 0), (.getfield 10, mR 2 0), (.iload_n 1, mI 0)]
theorem kX2_why_0 : mchk MX2_why 0 bX2_why_0 5 = true := by decide +kernel
theorem tX2_why_5 : mdk MX2_why 5 (.invokevirtual 57) = true := by decide +kernel
theorem tX2_why_8 : mbk MX2_why 8 (.ifCond .ne 7) 15 = true := by decide +kernel
def bX2_why_11 : List mB := [(.iconst (-1), mI (-1))]
theorem kX2_why_11 : mchk MX2_why 11 bX2_why_11 12 = true := by decide +kernel
theorem tX2_why_12 : mbk MX2_why 12 (.goto 26) 38 = true := by decide +kernel
def bX2_why_15 : List mB := [(.aload_n 0, mI 0), (.getfield 10, mR 2 0), (.iload_n 1, mI 0)]
theorem kX2_why_15 : mchk MX2_why 15 bX2_why_15 20 = true := by decide +kernel
theorem tX2_why_20 : mdk MX2_why 20 (.invokevirtual 70) = true := by decide +kernel
theorem tX2_why_23 : mbk MX2_why 23 (.ifCond .ne 8) 31 = true := by decide +kernel
def bX2_why_26 : List mB := [(.bipush (-3), mI (-3))]
theorem kX2_why_26 : mchk MX2_why 26 bX2_why_26 28 = true := by decide +kernel
theorem tX2_why_28 : mbk MX2_why 28 (.goto 10) 38 = true := by decide +kernel
def bX2_why_31 : List mB := [(.iload_n 2, mI 0), (.iconst 1, mI (nI 1)), (.bipush 60, mI (nI 60))]
theorem kX2_why_31 : mchk MX2_why 31 bX2_why_31 35 = true := by decide +kernel
theorem tX2_why_35 : mdk MX2_why 35 (.invokestatic 96) = true := by decide +kernel
def bX2_why_38 : List mB := [(.istore_n 3, mI 0), (.iload_n 3, mI 0)]
theorem kX2_why_38 : mchk MX2_why 38 bX2_why_38 40 = true := by decide +kernel
theorem tX2_why_40 : mbk MX2_why 40 (.ifCond .eq 9) 49 = true := by decide +kernel
def bX2_why_43 : List mB := [(.aload_n 0, mI 0), (.iload_n 3, mI 0)]
theorem kX2_why_43 : mchk MX2_why 43 bX2_why_43 45 = true := by decide +kernel
theorem tX2_why_45 : mdk MX2_why 45 (.invokevirtual 39) = true := by decide +kernel
theorem tX2_why_48 : mrk MX2_why 48 .ireturn = true := by decide +kernel
def bX2_why_49 : List mB := [(.aload_n 0, mI 0), (.getfield 16, mR 2 1), (.aload_n 0, mI 0), (.getfield 10, mR 2 0)]
theorem kX2_why_49 : mchk MX2_why 49 bX2_why_49 57 = true := by decide +kernel
theorem tX2_why_57 : mdk MX2_why 57 (.invokevirtual 107) = true := by decide +kernel
def bX2_why_60 : List mB := [(.iconst 1, mI (nI 1)), (.istore 4, mI 0), (.iconst 1, mI (nI 1)), (.istore 5, mI 0)]
theorem kX2_why_60 : mchk MX2_why 60 bX2_why_60 66 = true := by decide +kernel
def bX2_why_66 : List mB := [(.iload 5, mI 0), (.iload_n 2, mI 0)]
theorem kX2_why_66 : mchk MX2_why 66 bX2_why_66 69 = true := by decide +kernel
theorem tX2_why_69 : mbk MX2_why 69 (.if_icmp .gt 60) 129 = true := by decide +kernel
def bX2_why_72 : List mB := [(.aload_n 0, mI 0), (.getfield 16, mR 2 1)]
theorem kX2_why_72 : mchk MX2_why 72 bX2_why_72 76 = true := by decide +kernel
theorem tX2_why_76 : mdk MX2_why 76 (.invokevirtual 134) = true := by decide +kernel
def bX2_why_79 : List mB := [(.aload_n 0, mI 0), (.getfield 16, mR 2 1), (.iload_n 1, mI 0)]
theorem kX2_why_79 : mchk MX2_why 79 bX2_why_79 84 = true := by decide +kernel
theorem tX2_why_84 : mdk MX2_why 84 (.invokevirtual 70) = true := by decide +kernel
theorem tX2_why_87 : mbk MX2_why 87 (.ifCond .ne 5) 92 = true := by decide +kernel
def bX2_why_90 : List mB := [(.iconst 0, mI (nI 0))]
theorem kX2_why_90 : mchk MX2_why 90 bX2_why_90 91 = true := by decide +kernel
theorem tX2_why_91 : mrk MX2_why 91 .ireturn = true := by decide +kernel
def bX2_why_92 : List mB := [(.iload 4, mI 0)]
theorem kX2_why_92 : mchk MX2_why 92 bX2_why_92 94 = true := by decide +kernel
theorem tX2_why_94 : mbk MX2_why 94 (.ifCond .eq 26) 120 = true := by decide +kernel
def bX2_why_97 : List mB := [(.aload_n 0, mI 0), (.getfield 16, mR 2 1), (.aload_n 0, mI 0), (.getfield 16, mR 2 1), (.iload_n 1, mI 0)]
theorem kX2_why_97 : mchk MX2_why 97 bX2_why_97 106 = true := by decide +kernel
theorem tX2_why_106 : mdk MX2_why 106 (.invokevirtual 64) = true := by decide +kernel
theorem tX2_why_109 : mdk MX2_why 109 (.invokevirtual 163) = true := by decide +kernel
def bX2_why_112 : List mB := [(.iconst 1, mI (nI 1))]
theorem kX2_why_112 : mchk MX2_why 112 bX2_why_112 113 = true := by decide +kernel
theorem tX2_why_113 : mbk MX2_why 113 (.if_icmp .gt 7) 120 = true := by decide +kernel
def bX2_why_116 : List mB := [(.iconst 1, mI (nI 1))]
theorem kX2_why_116 : mchk MX2_why 116 bX2_why_116 117 = true := by decide +kernel
theorem tX2_why_117 : mbk MX2_why 117 (.goto 4) 121 = true := by decide +kernel
def bX2_why_120 : List mB := [(.iconst 0, mI (nI 0))]
theorem kX2_why_120 : mchk MX2_why 120 bX2_why_120 121 = true := by decide +kernel
def bX2_why_121 : List mB := [(.istore 4, mI 0), (.iinc 5 1, mI (nI 1))]
theorem kX2_why_121 : mchk MX2_why 121 bX2_why_121 126 = true := by decide +kernel
theorem tX2_why_126 : mbk MX2_why 126 (.goto (-60)) 66 = true := by decide +kernel
def bX2_why_129 : List mB := [(.aload_n 0, mI 0), (.getfield 10, mR 2 0), (.iload_n 1, mI 0)]
theorem kX2_why_129 : mchk MX2_why 129 bX2_why_129 134 = true := by decide +kernel
theorem tX2_why_134 : mdk MX2_why 134 (.invokevirtual 166) = true := by decide +kernel
theorem tX2_why_137 : mbk MX2_why 137 (.ifCond .ne 5) 142 = true := by decide +kernel
def bX2_why_140 : List mB := [(.iconst 1, mI (nI 1))]
theorem kX2_why_140 : mchk MX2_why 140 bX2_why_140 141 = true := by decide +kernel
theorem tX2_why_141 : mrk MX2_why 141 .ireturn = true := by decide +kernel
def bX2_why_142 : List mB := [(.iload 4, mI 0)]
theorem kX2_why_142 : mchk MX2_why 142 bX2_why_142 144 = true := by decide +kernel
theorem tX2_why_144 : mbk MX2_why 144 (.ifCond .eq 7) 151 = true := by decide +kernel
def bX2_why_147 : List mB := [(.iconst 2, mI (nI 2))]
theorem kX2_why_147 : mchk MX2_why 147 bX2_why_147 148 = true := by decide +kernel
theorem tX2_why_148 : mbk MX2_why 148 (.goto 4) 152 = true := by decide +kernel
def bX2_why_151 : List mB := [(.iconst 3, mI (nI 3))]
theorem kX2_why_151 : mchk MX2_why 151 bX2_why_151 152 = true := by decide +kernel
theorem tX2_why_152 : mrk MX2_why 152 .ireturn = true := by decide +kernel
def bX2_row_0 : List mB := [(.iload_n 1, mI 0), (.iconst 0, mI (nI 0)), (.bipush 8, mI (nI 8))]
theorem kX2_row_0 : mchk MX2_row 0 bX2_row_0 4 = true := by decide +kernel
theorem tX2_row_4 : mdk MX2_row 4 (.invokestatic 96) = true := by decide +kernel
def bX2_row_7 : List mB := [(.istore_n 2, mI 0), (.iload_n 2, mI 0)]
theorem kX2_row_7 : mchk MX2_row 7 bX2_row_7 9 = true := by decide +kernel
theorem tX2_row_9 : mbk MX2_row 9 (.ifCond .ne 18) 27 = true := by decide +kernel
def bX2_row_12 : List mB := [(.aload_n 0, mI 0), (.getfield 169, mR 2 7), (.aload_n 0, mI 0), (.getfield 32, mR 2 6), (.arraylength, mI 0)]
theorem kX2_row_12 : mchk MX2_row 12 bX2_row_12 21 = true := by decide +kernel
theorem tX2_row_21 : mbk MX2_row 21 (.if_icmp .lt 6) 27 = true := by decide +kernel
def bX2_row_24 : List mB := [(.bipush (-6), mI (-6)), (.istore_n 2, mI 0)]
theorem kX2_row_24 : mchk MX2_row 24 bX2_row_24 27 = true := by decide +kernel
def bX2_row_27 : List mB := [(.iload_n 2, mI 0)]
theorem kX2_row_27 : mchk MX2_row 27 bX2_row_27 28 = true := by decide +kernel
theorem tX2_row_28 : mbk MX2_row 28 (.ifCond .eq 9) 37 = true := by decide +kernel
def bX2_row_31 : List mB := [(.aload_n 0, mI 0), (.iload_n 2, mI 0)]
theorem kX2_row_31 : mchk MX2_row 31 bX2_row_31 33 = true := by decide +kernel
theorem tX2_row_33 : mdk MX2_row 33 (.invokevirtual 39) = true := by decide +kernel
theorem tX2_row_36 : mrk MX2_row 36 .ireturn = true := by decide +kernel
def bX2_row_37 : List mB := [(.aload_n 0, mI 0), (.getfield 32, mR 2 6), (.aload_n 0, mI 0), (.getfield 169, mR 2 7), (.iload_n 1, mI 0), (.iastore, mI 0), (.aload_n 0, mI 0), (.dup, mI 0), (.getfield 169, mR 2 7), (.iconst 1, mI (nI 1)), (.iadd, mI 0), (.putfield 169, mR 2 7), (.aload_n 0, mI 0), (.getfield 169, mR 2 7)]
theorem kX2_row_37 : mchk MX2_row 37 bX2_row_37 61 = true := by decide +kernel
theorem tX2_row_61 : mrk MX2_row 61 .ireturn = true := by decide +kernel
def bX2_fits_0 : List mB := [(.aload_n 0, mI 0), (.getfield 10, mR 2 0), (.iload_n 1, mI 0)]
theorem kX2_fits_0 : mchk MX2_fits 0 bX2_fits_0 5 = true := by decide +kernel
theorem tX2_fits_5 : mdk MX2_fits 5 (.invokevirtual 57) = true := by decide +kernel
theorem tX2_fits_8 : mbk MX2_fits 8 (.ifCond .ne 9) 17 = true := by decide +kernel
def bX2_fits_11 : List mB := [(.aload_n 0, mI 0), (.iconst (-1), mI (-1))]
theorem kX2_fits_11 : mchk MX2_fits 11 bX2_fits_11 13 = true := by decide +kernel
theorem tX2_fits_13 : mdk MX2_fits 13 (.invokevirtual 39) = true := by decide +kernel
theorem tX2_fits_16 : mrk MX2_fits 16 .ireturn = true := by decide +kernel
def bX2_fits_17 : List mB := [(.iconst 0, mI (nI 0)), (.istore_n 2, mI 0), (.iconst 0, mI (nI 0)), (.istore_n 3, mI 0)]
theorem kX2_fits_17 : mchk MX2_fits 17 bX2_fits_17 21 = true := by decide +kernel
def bX2_fits_21 : List mB := [(.iload_n 3, mI 0), (.bipush 24, mI (nI 24))]
theorem kX2_fits_21 : mchk MX2_fits 21 bX2_fits_21 24 = true := by decide +kernel
theorem tX2_fits_24 : mbk MX2_fits 24 (.if_icmp .ge 45) 69 = true := by decide +kernel
def bX2_fits_27 : List mB := [(.aload_n 0, mI 0), (.getfield 16, mR 2 1), (.aload_n 0, mI 0), (.getfield 10, mR 2 0)]
theorem kX2_fits_27 : mchk MX2_fits 27 bX2_fits_27 35 = true := by decide +kernel
theorem tX2_fits_35 : mdk MX2_fits 35 (.invokevirtual 107) = true := by decide +kernel
def bX2_fits_38 : List mB := [(.aload_n 0, mI 0), (.getfield 16, mR 2 1), (.iload_n 1, mI 0), (.iload_n 3, mI 0)]
theorem kX2_fits_38 : mchk MX2_fits 38 bX2_fits_38 44 = true := by decide +kernel
theorem tX2_fits_44 : mdk MX2_fits 44 (.invokevirtual 79) = true := by decide +kernel
def bX2_fits_47 : List mB := [(.pop, mI 0), (.aload_n 0, mI 0)]
theorem kX2_fits_47 : mchk MX2_fits 47 bX2_fits_47 49 = true := by decide +kernel
theorem tX2_fits_49 : mdk MX2_fits 49 (.invokevirtual 173) = true := by decide +kernel
def bX2_fits_52 : List mB := [(.bipush (-9), mI (-9))]
theorem kX2_fits_52 : mchk MX2_fits 52 bX2_fits_52 54 = true := by decide +kernel
theorem tX2_fits_54 : mbk MX2_fits 54 (.if_icmp .ne 9) 63 = true := by decide +kernel
def bX2_fits_57 : List mB := [(.iload_n 2, mI 0), (.iconst 1, mI (nI 1)), (.iload_n 3, mI 0), (.ishl, mI 0), (.ior, mI 0), (.istore_n 2, mI 0)]
theorem kX2_fits_57 : mchk MX2_fits 57 bX2_fits_57 63 = true := by decide +kernel
def bX2_fits_63 : List mB := [(.iinc 3 1, mI (nI 1))]
theorem kX2_fits_63 : mchk MX2_fits 63 bX2_fits_63 66 = true := by decide +kernel
theorem tX2_fits_66 : mbk MX2_fits 66 (.goto (-45)) 21 = true := by decide +kernel
def bX2_fits_69 : List mB := [(.iload_n 2, mI 0)]
theorem kX2_fits_69 : mchk MX2_fits 69 bX2_fits_69 70 = true := by decide +kernel
theorem tX2_fits_70 : mrk MX2_fits 70 .ireturn = true := by decide +kernel
def bX2_judge_0 : List mB := [(.aload_n 0, mI 0), (.getfield 16, mR 2 1), (.aload_n 0, mI 0), (.getfield 10, mR 2 0)]
theorem kX2_judge_0 : mchk MX2_judge 0 bX2_judge_0 8 = true := by decide +kernel
theorem tX2_judge_8 : mdk MX2_judge 8 (.invokevirtual 107) = true := by decide +kernel
def bX2_judge_11 : List mB := [(.aload_n 0, mI 0)]
theorem kX2_judge_11 : mchk MX2_judge 11 bX2_judge_11 12 = true := by decide +kernel
theorem tX2_judge_12 : mdk MX2_judge 12 (.invokevirtual 173) = true := by decide +kernel
def bX2_judge_15 : List mB := [(.istore_n 1, mI 0), (.aload_n 0, mI 0), (.iconst 0, mI (nI 0)), (.putfield 169, mR 2 7), (.iload_n 1, mI 0)]
theorem kX2_judge_15 : mchk MX2_judge 15 bX2_judge_15 22 = true := by decide +kernel
theorem tX2_judge_22 : mrk MX2_judge 22 .ireturn = true := by decide +kernel
def bX2_lots_0 : List mB := [(.iload_n 1, mI 0), (.iconst 1, mI (nI 1)), (.bipush 20, mI (nI 20))]
theorem kX2_lots_0 : mchk MX2_lots 0 bX2_lots_0 4 = true := by decide +kernel
theorem tX2_lots_4 : mdk MX2_lots 4 (.invokestatic 96) = true := by decide +kernel
def bX2_lots_7 : List mB := [(.istore_n 3, mI 0), (.iload_n 3, mI 0)]
theorem kX2_lots_7 : mchk MX2_lots 7 bX2_lots_7 9 = true := by decide +kernel
theorem tX2_lots_9 : mbk MX2_lots 9 (.ifCond .eq 9) 18 = true := by decide +kernel
def bX2_lots_12 : List mB := [(.aload_n 0, mI 0), (.iload_n 3, mI 0)]
theorem kX2_lots_12 : mchk MX2_lots 12 bX2_lots_12 14 = true := by decide +kernel
theorem tX2_lots_14 : mdk MX2_lots 14 (.invokevirtual 39) = true := by decide +kernel
theorem tX2_lots_17 : mrk MX2_lots 17 .ireturn = true := by decide +kernel
def bX2_lots_18 : List mB := [(.iconst 0, mI (nI 0)), (.istore 4, mI 0), (.iload_n 2, mI 0), (.istore 5, mI 0), (.iload_n 1, mI 0), (.istore 6, mI 0)]
theorem kX2_lots_18 : mchk MX2_lots 18 bX2_lots_18 27 = true := by decide +kernel
def bX2_lots_27 : List mB := [(.iload 6, mI 0)]
theorem kX2_lots_27 : mchk MX2_lots 27 bX2_lots_27 29 = true := by decide +kernel
theorem tX2_lots_29 : mbk MX2_lots 29 (.ifCond .le 52) 81 = true := by decide +kernel
def bX2_lots_32 : List mB := [(.aload_n 0, mI 0), (.getfield 16, mR 2 1), (.aload_n 0, mI 0), (.getfield 10, mR 2 0)]
theorem kX2_lots_32 : mchk MX2_lots 32 bX2_lots_32 40 = true := by decide +kernel
theorem tX2_lots_40 : mdk MX2_lots 40 (.invokevirtual 107) = true := by decide +kernel
def bX2_lots_43 : List mB := [(.aload_n 0, mI 0), (.getfield 16, mR 2 1), (.iload 5, mI 0)]
theorem kX2_lots_43 : mchk MX2_lots 43 bX2_lots_43 49 = true := by decide +kernel
theorem tX2_lots_49 : mdk MX2_lots 49 (.invokevirtual 176) = true := by decide +kernel
def bX2_lots_52 : List mB := [(.istore 5, mI 0), (.aload_n 0, mI 0), (.getfield 16, mR 2 1), (.bipush 30, mI (nI 30))]
theorem kX2_lots_52 : mchk MX2_lots 52 bX2_lots_52 60 = true := by decide +kernel
theorem tX2_lots_60 : mdk MX2_lots 60 (.invokevirtual 103) = true := by decide +kernel
def bX2_lots_63 : List mB := [(.iload 4, mI 0), (.aload_n 0, mI 0), (.getfield 16, mR 2 1)]
theorem kX2_lots_63 : mchk MX2_lots 63 bX2_lots_63 69 = true := by decide +kernel
theorem tX2_lots_69 : mdk MX2_lots 69 (.invokevirtual 122) = true := by decide +kernel
def bX2_lots_72 : List mB := [(.iadd, mI 0), (.istore 4, mI 0), (.iinc 6 (-1), mI (-1))]
theorem kX2_lots_72 : mchk MX2_lots 72 bX2_lots_72 78 = true := by decide +kernel
theorem tX2_lots_78 : mbk MX2_lots 78 (.goto (-51)) 27 = true := by decide +kernel
def bX2_lots_81 : List mB := [(.iload 4, mI 0)]
theorem kX2_lots_81 : mchk MX2_lots 81 bX2_lots_81 83 = true := by decide +kernel
theorem tX2_lots_83 : mrk MX2_lots 83 .ireturn = true := by decide +kernel
def bX2_image_0 : List mB := [(.aload_n 0, mI 0), (.getfield 22, mR 2 3), (.aload_n 0, mI 0), (.getfield 10, mR 2 0)]
theorem kX2_image_0 : mchk MX2_image 0 bX2_image_0 8 = true := by decide +kernel
theorem tX2_image_8 : mdk MX2_image 8 (.invokevirtual 107) = true := by decide +kernel
def bX2_image_11 : List mB := [(.aload_n 0, mI 0), (.iconst 1, mI (nI 1)), (.putfield 179, mR 2 4), (.aload_n 0, mI 0), (.getfield 10, mR 2 0)]
theorem kX2_image_11 : mchk MX2_image 11 bX2_image_11 20 = true := by decide +kernel
theorem tX2_image_20 : mdk MX2_image 20 (.invokevirtual 100) = true := by decide +kernel
theorem tX2_image_23 : mrk MX2_image 23 .ireturn = true := by decide +kernel
def bX2_on_0 : List mB := [(.aload_n 0, mI 0), (.getfield 179, mR 2 4)]
theorem kX2_on_0 : mchk MX2_on 0 bX2_on_0 4 = true := by decide +kernel
theorem tX2_on_4 : mbk MX2_on 4 (.ifCond .ne 10) 14 = true := by decide +kernel
def bX2_on_7 : List mB := [(.aload_n 0, mI 0), (.bipush (-3), mI (-3))]
theorem kX2_on_7 : mchk MX2_on 7 bX2_on_7 10 = true := by decide +kernel
theorem tX2_on_10 : mdk MX2_on 10 (.invokevirtual 39) = true := by decide +kernel
theorem tX2_on_13 : mrk MX2_on 13 .ireturn = true := by decide +kernel
def bX2_on_14 : List mB := [(.aload_n 0, mI 0), (.getfield 10, mR 2 0), (.aload_n 0, mI 0), (.getfield 22, mR 2 3)]
theorem kX2_on_14 : mchk MX2_on 14 bX2_on_14 22 = true := by decide +kernel
theorem tX2_on_22 : mdk MX2_on 22 (.invokevirtual 107) = true := by decide +kernel
def bX2_on_25 : List mB := [(.aload_n 0, mI 0), (.getfield 10, mR 2 0)]
theorem kX2_on_25 : mchk MX2_on 25 bX2_on_25 29 = true := by decide +kernel
theorem tX2_on_29 : mdk MX2_on 29 (.invokevirtual 100) = true := by decide +kernel
theorem tX2_on_32 : mrk MX2_on 32 .ireturn = true := by decide +kernel
def bX2_count_0 : List mB := [(.iload_n 1, mI 0), (.bipush 10, mI (nI 10))]
theorem kX2_count_0 : mchk MX2_count 0 bX2_count_0 3 = true := by decide +kernel
theorem tX2_count_3 : mbk MX2_count 3 (.if_icmp .le 19) 22 = true := by decide +kernel
def bX2_count_6 : List mB := [(.iload_n 1, mI 0), (.bipush 16, mI (nI 16))]
theorem kX2_count_6 : mchk MX2_count 6 bX2_count_6 9 = true := by decide +kernel
theorem tX2_count_9 : mbk MX2_count 9 (.if_icmp .gt 13) 22 = true := by decide +kernel
def bX2_count_12 : List mB := [(.aload_n 0, mI 0), (.getfield 36, mR 2 8), (.iload_n 1, mI 0), (.bipush 10, mI (nI 10)), (.isub, mI 0), (.iaload, mI 0)]
theorem kX2_count_12 : mchk MX2_count 12 bX2_count_12 21 = true := by decide +kernel
theorem tX2_count_21 : mrk MX2_count 21 .ireturn = true := by decide +kernel
def bX2_count_22 : List mB := [(.iload_n 1, mI 0)]
theorem kX2_count_22 : mchk MX2_count 22 bX2_count_22 23 = true := by decide +kernel
def sX2_count_23 : Instr := .tableswitch 118 0 8 #[49, 57, 65, 73, 81, 89, 97, 105, 110]
theorem tX2_count_23 : mswk MX2_count 23 sX2_count_23 49 = true := by decide +kernel
def bX2_count_72 : List mB := [(.aload_n 0, mI 0), (.getfield 10, mR 2 0)]
theorem kX2_count_72 : mchk MX2_count 72 bX2_count_72 76 = true := by decide +kernel
theorem tX2_count_76 : mdk MX2_count 76 (.invokevirtual 183) = true := by decide +kernel
theorem tX2_count_79 : mrk MX2_count 79 .ireturn = true := by decide +kernel
def bX2_count_80 : List mB := [(.aload_n 0, mI 0), (.getfield 10, mR 2 0)]
theorem kX2_count_80 : mchk MX2_count 80 bX2_count_80 84 = true := by decide +kernel
theorem tX2_count_84 : mdk MX2_count 84 (.invokevirtual 186) = true := by decide +kernel
theorem tX2_count_87 : mrk MX2_count 87 .ireturn = true := by decide +kernel
def bX2_count_88 : List mB := [(.aload_n 0, mI 0), (.getfield 10, mR 2 0)]
theorem kX2_count_88 : mchk MX2_count 88 bX2_count_88 92 = true := by decide +kernel
theorem tX2_count_92 : mdk MX2_count 92 (.invokevirtual 122) = true := by decide +kernel
theorem tX2_count_95 : mrk MX2_count 95 .ireturn = true := by decide +kernel
def bX2_count_96 : List mB := [(.aload_n 0, mI 0), (.getfield 10, mR 2 0)]
theorem kX2_count_96 : mchk MX2_count 96 bX2_count_96 100 = true := by decide +kernel
theorem tX2_count_100 : mdk MX2_count 100 (.invokevirtual 100) = true := by decide +kernel
theorem tX2_count_103 : mrk MX2_count 103 .ireturn = true := by decide +kernel
def bX2_count_104 : List mB := [(.aload_n 0, mI 0), (.getfield 10, mR 2 0)]
theorem kX2_count_104 : mchk MX2_count 104 bX2_count_104 108 = true := by decide +kernel
theorem tX2_count_108 : mdk MX2_count 108 (.invokevirtual 86) = true := by decide +kernel
theorem tX2_count_111 : mrk MX2_count 111 .ireturn = true := by decide +kernel
def bX2_count_112 : List mB := [(.aload_n 0, mI 0), (.getfield 10, mR 2 0)]
theorem kX2_count_112 : mchk MX2_count 112 bX2_count_112 116 = true := by decide +kernel
theorem tX2_count_116 : mdk MX2_count 116 (.invokevirtual 189) = true := by decide +kernel
theorem tX2_count_119 : mrk MX2_count 119 .ireturn = true := by decide +kernel
def bX2_count_120 : List mB := [(.aload_n 0, mI 0), (.getfield 10, mR 2 0)]
theorem kX2_count_120 : mchk MX2_count 120 bX2_count_120 124 = true := by decide +kernel
theorem tX2_count_124 : mdk MX2_count 124 (.invokevirtual 192) = true := by decide +kernel
theorem tX2_count_127 : mrk MX2_count 127 .ireturn = true := by decide +kernel
def bX2_count_128 : List mB := [(.aload_n 0, mI 0), (.getfield 169, mR 2 7)]
theorem kX2_count_128 : mchk MX2_count 128 bX2_count_128 132 = true := by decide +kernel
theorem tX2_count_132 : mrk MX2_count 132 .ireturn = true := by decide +kernel
def bX2_count_133 : List mB := [(.aload_n 0, mI 0), (.getfield 28, mR 2 5)]
theorem kX2_count_133 : mchk MX2_count 133 bX2_count_133 137 = true := by decide +kernel
theorem tX2_count_137 : mdk MX2_count 137 (.invokevirtual 195) = true := by decide +kernel
theorem tX2_count_140 : mrk MX2_count 140 .ireturn = true := by decide +kernel
def bX2_count_141 : List mB := [(.bipush (-9), mI (-9))]
theorem kX2_count_141 : mchk MX2_count 141 bX2_count_141 143 = true := by decide +kernel
theorem tX2_count_143 : mrk MX2_count 143 .ireturn = true := by decide +kernel
def bX2_refuse_0 : List mB := [(.iload_n 1, mI 0), (.ineg, mI 0), (.istore_n 2, mI 0), (.iload_n 2, mI 0)]
theorem kX2_refuse_0 : mchk MX2_refuse 0 bX2_refuse_0 4 = true := by decide +kernel
theorem tX2_refuse_4 : mbk MX2_refuse 4 (.ifCond .le 22) 26 = true := by decide +kernel
def bX2_refuse_7 : List mB := [(.iload_n 2, mI 0), (.aload_n 0, mI 0), (.getfield 36, mR 2 8), (.arraylength, mI 0)]
theorem kX2_refuse_7 : mchk MX2_refuse 7 bX2_refuse_7 13 = true := by decide +kernel
theorem tX2_refuse_13 : mbk MX2_refuse 13 (.if_icmp .ge 13) 26 = true := by decide +kernel
def bX2_refuse_16 : List mB := [(.aload_n 0, mI 0), (.getfield 36, mR 2 8), (.iload_n 2, mI 0), (.dup2, mI 0), (.iaload, mI 0), (.iconst 1, mI (nI 1)), (.iadd, mI 0), (.iastore, mI 0)]
theorem kX2_refuse_16 : mchk MX2_refuse 16 bX2_refuse_16 26 = true := by decide +kernel
def bX2_refuse_26 : List mB := [(.iload_n 1, mI 0)]
theorem kX2_refuse_26 : mchk MX2_refuse 26 bX2_refuse_26 27 = true := by decide +kernel
theorem tX2_refuse_27 : mrk MX2_refuse 27 .ireturn = true := by decide +kernel
def bX2_outside_0 : List mB := [(.iload_n 0, mI 0), (.iload_n 1, mI 0)]
theorem kX2_outside_0 : mchk MX2_outside 0 bX2_outside_0 2 = true := by decide +kernel
theorem tX2_outside_2 : mbk MX2_outside 2 (.if_icmp .ge 6) 8 = true := by decide +kernel
def bX2_outside_5 : List mB := [(.bipush (-4), mI (-4))]
theorem kX2_outside_5 : mchk MX2_outside 5 bX2_outside_5 7 = true := by decide +kernel
theorem tX2_outside_7 : mrk MX2_outside 7 .ireturn = true := by decide +kernel
def bX2_outside_8 : List mB := [(.iload_n 0, mI 0), (.iload_n 2, mI 0)]
theorem kX2_outside_8 : mchk MX2_outside 8 bX2_outside_8 10 = true := by decide +kernel
theorem tX2_outside_10 : mbk MX2_outside 10 (.if_icmp .le 8) 18 = true := by decide +kernel
def bX2_outside_13 : List mB := [(.bipush (-6), mI (-6))]
theorem kX2_outside_13 : mchk MX2_outside 13 bX2_outside_13 15 = true := by decide +kernel
theorem tX2_outside_15 : mbk MX2_outside 15 (.goto 4) 19 = true := by decide +kernel
def bX2_outside_18 : List mB := [(.iconst 0, mI (nI 0))]
theorem kX2_outside_18 : mchk MX2_outside 18 bX2_outside_18 19 = true := by decide +kernel
theorem tX2_outside_19 : mrk MX2_outside 19 .ireturn = true := by decide +kernel
def bX2_readLetters_0 : List mB := [(.aload_n 0, mI 0), (.getfield 28, mR 2 5)]
theorem kX2_readLetters_0 : mchk MX2_readLetters 0 bX2_readLetters_0 4 = true := by decide +kernel
theorem tX2_readLetters_4 : mdk MX2_readLetters 4 (.invokevirtual 198) = true := by decide +kernel
def bX2_readLetters_7 : List mB := [(.istore_n 1, mI 0), (.iload_n 1, mI 0), (.bipush (-9), mI (-9))]
theorem kX2_readLetters_7 : mchk MX2_readLetters 7 bX2_readLetters_7 11 = true := by decide +kernel
theorem tX2_readLetters_11 : mbk MX2_readLetters 11 (.if_icmp .eq 9) 20 = true := by decide +kernel
def bX2_readLetters_14 : List mB := [(.sipush (-1000), mI (-1000)), (.iload_n 1, mI 0), (.isub, mI 0)]
theorem kX2_readLetters_14 : mchk MX2_readLetters 14 bX2_readLetters_14 19 = true := by decide +kernel
theorem tX2_readLetters_19 : mrk MX2_readLetters 19 .ireturn = true := by decide +kernel
def bX2_readLetters_20 : List mB := [(.aload_n 0, mI 0), (.getfield 16, mR 2 1), (.aload_n 0, mI 0), (.getfield 10, mR 2 0)]
theorem kX2_readLetters_20 : mchk MX2_readLetters 20 bX2_readLetters_20 28 = true := by decide +kernel
theorem tX2_readLetters_28 : mdk MX2_readLetters 28 (.invokevirtual 107) = true := by decide +kernel
def bX2_readLetters_31 : List mB := [(.aload_n 0, mI 0), (.getfield 28, mR 2 5), (.aload_n 0, mI 0), (.getfield 16, mR 2 1)]
theorem kX2_readLetters_31 : mchk MX2_readLetters 31 bX2_readLetters_31 39 = true := by decide +kernel
theorem tX2_readLetters_39 : mdk MX2_readLetters 39 (.invokevirtual 201) = true := by decide +kernel
def bX2_readLetters_42 : List mB := [(.istore_n 2, mI 0), (.iload_n 2, mI 0), (.bipush (-9), mI (-9))]
theorem kX2_readLetters_42 : mchk MX2_readLetters 42 bX2_readLetters_42 46 = true := by decide +kernel
theorem tX2_readLetters_46 : mbk MX2_readLetters 46 (.if_icmp .eq 9) 55 = true := by decide +kernel
def bX2_readLetters_49 : List mB := [(.sipush (-2000), mI (-2000)), (.iload_n 2, mI 0), (.isub, mI 0)]
theorem kX2_readLetters_49 : mchk MX2_readLetters 49 bX2_readLetters_49 54 = true := by decide +kernel
theorem tX2_readLetters_54 : mrk MX2_readLetters 54 .ireturn = true := by decide +kernel
def bX2_readLetters_55 : List mB := [(.aload_n 0, mI 0), (.getfield 10, mR 2 0), (.aload_n 0, mI 0), (.getfield 16, mR 2 1)]
theorem kX2_readLetters_55 : mchk MX2_readLetters 55 bX2_readLetters_55 63 = true := by decide +kernel
theorem tX2_readLetters_63 : mdk MX2_readLetters 63 (.invokevirtual 107) = true := by decide +kernel
def bX2_readLetters_66 : List mB := [(.aload_n 0, mI 0), (.getfield 28, mR 2 5)]
theorem kX2_readLetters_66 : mchk MX2_readLetters 66 bX2_readLetters_66 70 = true := by decide +kernel
theorem tX2_readLetters_70 : mdk MX2_readLetters 70 (.invokevirtual 205) = true := by decide +kernel
theorem tX2_readLetters_73 : mrk MX2_readLetters 73 .ireturn = true := by decide +kernel
def bX2_secondsTillOver_0 : List mB := [(.iconst 0, mI (nI 0)), (.istore_n 1, mI 0)]
theorem kX2_secondsTillOver_0 : mchk MX2_secondsTillOver 0 bX2_secondsTillOver_0 2 = true := by decide +kernel
def bX2_secondsTillOver_2 : List mB := [(.iload_n 1, mI 0), (.bipush 60, mI (nI 60))]
theorem kX2_secondsTillOver_2 : mchk MX2_secondsTillOver 2 bX2_secondsTillOver_2 5 = true := by decide +kernel
theorem tX2_secondsTillOver_5 : mbk MX2_secondsTillOver 5 (.if_icmp .gt 28) 33 = true := by decide +kernel
def bX2_secondsTillOver_8 : List mB := [(.aload_n 0, mI 0), (.getfield 16, mR 2 1)]
theorem kX2_secondsTillOver_8 : mchk MX2_secondsTillOver 8 bX2_secondsTillOver_8 12 = true := by decide +kernel
theorem tX2_secondsTillOver_12 : mdk MX2_secondsTillOver 12 (.invokevirtual 208) = true := by decide +kernel
theorem tX2_secondsTillOver_15 : mbk MX2_secondsTillOver 15 (.ifCond .eq 5) 20 = true := by decide +kernel
def bX2_secondsTillOver_18 : List mB := [(.iload_n 1, mI 0)]
theorem kX2_secondsTillOver_18 : mchk MX2_secondsTillOver 18 bX2_secondsTillOver_18 19 = true := by decide +kernel
theorem tX2_secondsTillOver_19 : mrk MX2_secondsTillOver 19 .ireturn = true := by decide +kernel
def bX2_secondsTillOver_20 : List mB := [(.aload_n 0, mI 0), (.getfield 16, mR 2 1)]
theorem kX2_secondsTillOver_20 : mchk MX2_secondsTillOver 20 bX2_secondsTillOver_20 24 = true := by decide +kernel
theorem tX2_secondsTillOver_24 : mdk MX2_secondsTillOver 24 (.invokevirtual 134) = true := by decide +kernel
def bX2_secondsTillOver_27 : List mB := [(.iinc 1 1, mI (nI 1))]
theorem kX2_secondsTillOver_27 : mchk MX2_secondsTillOver 27 bX2_secondsTillOver_27 30 = true := by decide +kernel
theorem tX2_secondsTillOver_30 : mbk MX2_secondsTillOver 30 (.goto (-28)) 2 = true := by decide +kernel
def bX2_secondsTillOver_33 : List mB := [(.bipush (-9), mI (-9))]
theorem kX2_secondsTillOver_33 : mchk MX2_secondsTillOver 33 bX2_secondsTillOver_33 35 = true := by decide +kernel
theorem tX2_secondsTillOver_35 : mrk MX2_secondsTillOver 35 .ireturn = true := by decide +kernel
def bX2_standingOver_0 : List mB := [(.iconst 0, mI (nI 0)), (.istore_n 2, mI 0), (.iconst 1, mI (nI 1)), (.istore_n 3, mI 0)]
theorem kX2_standingOver_0 : mchk MX2_standingOver 0 bX2_standingOver_0 4 = true := by decide +kernel
def bX2_standingOver_4 : List mB := [(.iload_n 3, mI 0), (.iload_n 1, mI 0)]
theorem kX2_standingOver_4 : mchk MX2_standingOver 4 bX2_standingOver_4 6 = true := by decide +kernel
theorem tX2_standingOver_6 : mbk MX2_standingOver 6 (.if_icmp .gt 26) 32 = true := by decide +kernel
def bX2_standingOver_9 : List mB := [(.aload_n 0, mI 0), (.getfield 16, mR 2 1)]
theorem kX2_standingOver_9 : mchk MX2_standingOver 9 bX2_standingOver_9 13 = true := by decide +kernel
theorem tX2_standingOver_13 : mdk MX2_standingOver 13 (.invokevirtual 134) = true := by decide +kernel
def bX2_standingOver_16 : List mB := [(.iload_n 2, mI 0), (.aload_n 0, mI 0), (.getfield 16, mR 2 1)]
theorem kX2_standingOver_16 : mchk MX2_standingOver 16 bX2_standingOver_16 21 = true := by decide +kernel
theorem tX2_standingOver_21 : mdk MX2_standingOver 21 (.invokevirtual 122) = true := by decide +kernel
def bX2_standingOver_24 : List mB := [(.iadd, mI 0), (.istore_n 2, mI 0), (.iinc 3 1, mI (nI 1))]
theorem kX2_standingOver_24 : mchk MX2_standingOver 24 bX2_standingOver_24 29 = true := by decide +kernel
theorem tX2_standingOver_29 : mbk MX2_standingOver 29 (.goto (-25)) 4 = true := by decide +kernel
def bX2_standingOver_32 : List mB := [(.iload_n 2, mI 0)]
theorem kX2_standingOver_32 : mchk MX2_standingOver 32 bX2_standingOver_32 33 = true := by decide +kernel
theorem tX2_standingOver_33 : mrk MX2_standingOver 33 .ireturn = true := by decide +kernel
def bX2_othersStanding_0 : List mB := [(.iconst 0, mI (nI 0)), (.istore_n 2, mI 0), (.iconst 1, mI (nI 1)), (.istore_n 3, mI 0)]
theorem kX2_othersStanding_0 : mchk MX2_othersStanding 0 bX2_othersStanding_0 4 = true := by decide +kernel
def bX2_othersStanding_4 : List mB := [(.iload_n 3, mI 0), (.bipush 20, mI (nI 20))]
theorem kX2_othersStanding_4 : mchk MX2_othersStanding 4 bX2_othersStanding_4 7 = true := by decide +kernel
theorem tX2_othersStanding_7 : mbk MX2_othersStanding 7 (.if_icmp .gt 43) 50 = true := by decide +kernel
def bX2_othersStanding_10 : List mB := [(.aload_n 0, mI 0), (.getfield 16, mR 2 1)]
theorem kX2_othersStanding_10 : mchk MX2_othersStanding 10 bX2_othersStanding_10 14 = true := by decide +kernel
theorem tX2_othersStanding_14 : mdk MX2_othersStanding 14 (.invokevirtual 134) = true := by decide +kernel
def bX2_othersStanding_17 : List mB := [(.iload_n 2, mI 0), (.aload_n 0, mI 0), (.getfield 16, mR 2 1)]
theorem kX2_othersStanding_17 : mchk MX2_othersStanding 17 bX2_othersStanding_17 22 = true := by decide +kernel
theorem tX2_othersStanding_22 : mdk MX2_othersStanding 22 (.invokevirtual 122) = true := by decide +kernel
def bX2_othersStanding_25 : List mB := [(.aload_n 0, mI 0), (.getfield 16, mR 2 1), (.iload_n 1, mI 0)]
theorem kX2_othersStanding_25 : mchk MX2_othersStanding 25 bX2_othersStanding_25 30 = true := by decide +kernel
theorem tX2_othersStanding_30 : mdk MX2_othersStanding 30 (.invokevirtual 70) = true := by decide +kernel
theorem tX2_othersStanding_33 : mbk MX2_othersStanding 33 (.ifCond .eq 7) 40 = true := by decide +kernel
def bX2_othersStanding_36 : List mB := [(.iconst 1, mI (nI 1))]
theorem kX2_othersStanding_36 : mchk MX2_othersStanding 36 bX2_othersStanding_36 37 = true := by decide +kernel
theorem tX2_othersStanding_37 : mbk MX2_othersStanding 37 (.goto 4) 41 = true := by decide +kernel
def bX2_othersStanding_40 : List mB := [(.iconst 0, mI (nI 0))]
theorem kX2_othersStanding_40 : mchk MX2_othersStanding 40 bX2_othersStanding_40 41 = true := by decide +kernel
def bX2_othersStanding_41 : List mB := [(.isub, mI 0), (.iadd, mI 0), (.istore_n 2, mI 0), (.iinc 3 1, mI (nI 1))]
theorem kX2_othersStanding_41 : mchk MX2_othersStanding 41 bX2_othersStanding_41 47 = true := by decide +kernel
theorem tX2_othersStanding_47 : mbk MX2_othersStanding 47 (.goto (-43)) 4 = true := by decide +kernel
def bX2_othersStanding_50 : List mB := [(.iload_n 2, mI 0)]
theorem kX2_othersStanding_50 : mchk MX2_othersStanding 50 bX2_othersStanding_50 51 = true := by decide +kernel
theorem tX2_othersStanding_51 : mrk MX2_othersStanding 51 .ireturn = true := by decide +kernel
def bX2_addCatchers_0 : List mB := [(.iconst 0, mI (nI 0)), (.istore_n 2, mI 0)]
theorem kX2_addCatchers_0 : mchk MX2_addCatchers 0 bX2_addCatchers_0 2 = true := by decide +kernel
def bX2_addCatchers_2 : List mB := [(.iload_n 2, mI 0), (.iload_n 1, mI 0)]
theorem kX2_addCatchers_2 : mchk MX2_addCatchers 2 bX2_addCatchers_2 4 = true := by decide +kernel
theorem tX2_addCatchers_4 : mbk MX2_addCatchers 4 (.if_icmp .ge 24) 28 = true := by decide +kernel
def bX2_addCatchers_7 : List mB := [(.aload_n 0, mI 0), (.getfield 16, mR 2 1), (.iconst 4, mI (nI 4)), (.iconst 0, mI (nI 0)), (.iconst 0, mI (nI 0))]
theorem kX2_addCatchers_7 : mchk MX2_addCatchers 7 bX2_addCatchers_7 14 = true := by decide +kernel
theorem tX2_addCatchers_14 : mdk MX2_addCatchers 14 (.invokevirtual 211) = true := by decide +kernel
theorem tX2_addCatchers_17 : mbk MX2_addCatchers 17 (.ifCond .ne 5) 22 = true := by decide +kernel
def bX2_addCatchers_20 : List mB := [(.iconst 0, mI (nI 0))]
theorem kX2_addCatchers_20 : mchk MX2_addCatchers 20 bX2_addCatchers_20 21 = true := by decide +kernel
theorem tX2_addCatchers_21 : mrk MX2_addCatchers 21 .ireturn = true := by decide +kernel
def bX2_addCatchers_22 : List mB := [(.iinc 2 1, mI (nI 1))]
theorem kX2_addCatchers_22 : mchk MX2_addCatchers 22 bX2_addCatchers_22 25 = true := by decide +kernel
theorem tX2_addCatchers_25 : mbk MX2_addCatchers 25 (.goto (-23)) 2 = true := by decide +kernel
def bX2_addCatchers_28 : List mB := [(.iconst 1, mI (nI 1))]
theorem kX2_addCatchers_28 : mchk MX2_addCatchers 28 bX2_addCatchers_28 29 = true := by decide +kernel
theorem tX2_addCatchers_29 : mrk MX2_addCatchers 29 .ireturn = true := by decide +kernel
def bX2_firstUntrue_0 : List mB := [(.iconst 0, mI (nI 0)), (.istore_n 1, mI 0)]
theorem kX2_firstUntrue_0 : mchk MX2_firstUntrue 0 bX2_firstUntrue_0 2 = true := by decide +kernel
def bX2_firstUntrue_2 : List mB := [(.iload_n 1, mI 0), (.aload_n 0, mI 0), (.getfield 169, mR 2 7)]
theorem kX2_firstUntrue_2 : mchk MX2_firstUntrue 2 bX2_firstUntrue_2 7 = true := by decide +kernel
theorem tX2_firstUntrue_7 : mbk MX2_firstUntrue 7 (.if_icmp .ge 34) 41 = true := by decide +kernel
def bX2_firstUntrue_10 : List mB := [(.aload_n 0, mI 0), (.getfield 16, mR 2 1)]
theorem kX2_firstUntrue_10 : mchk MX2_firstUntrue 10 bX2_firstUntrue_10 14 = true := by decide +kernel
theorem tX2_firstUntrue_14 : mdk MX2_firstUntrue 14 (.invokevirtual 134) = true := by decide +kernel
def bX2_firstUntrue_17 : List mB := [(.aload_n 0, mI 0), (.getfield 16, mR 2 1)]
theorem kX2_firstUntrue_17 : mchk MX2_firstUntrue 17 bX2_firstUntrue_17 21 = true := by decide +kernel
theorem tX2_firstUntrue_21 : mdk MX2_firstUntrue 21 (.invokevirtual 122) = true := by decide +kernel
def bX2_firstUntrue_24 : List mB := [(.aload_n 0, mI 0), (.getfield 32, mR 2 6), (.iload_n 1, mI 0), (.iaload, mI 0)]
theorem kX2_firstUntrue_24 : mchk MX2_firstUntrue 24 bX2_firstUntrue_24 30 = true := by decide +kernel
theorem tX2_firstUntrue_30 : mbk MX2_firstUntrue 30 (.if_icmp .eq 5) 35 = true := by decide +kernel
def bX2_firstUntrue_33 : List mB := [(.iload_n 1, mI 0)]
theorem kX2_firstUntrue_33 : mchk MX2_firstUntrue 33 bX2_firstUntrue_33 34 = true := by decide +kernel
theorem tX2_firstUntrue_34 : mrk MX2_firstUntrue 34 .ireturn = true := by decide +kernel
def bX2_firstUntrue_35 : List mB := [(.iinc 1 1, mI (nI 1))]
theorem kX2_firstUntrue_35 : mchk MX2_firstUntrue 35 bX2_firstUntrue_35 38 = true := by decide +kernel
theorem tX2_firstUntrue_38 : mbk MX2_firstUntrue 38 (.goto (-36)) 2 = true := by decide +kernel
def bX2_firstUntrue_41 : List mB := [(.bipush (-9), mI (-9))]
theorem kX2_firstUntrue_41 : mchk MX2_firstUntrue 41 bX2_firstUntrue_41 43 = true := by decide +kernel
theorem tX2_firstUntrue_43 : mrk MX2_firstUntrue 43 .ireturn = true := by decide +kernel
def bX2_greatestShared_0 : List mB := [(.iload_n 1, mI 0), (.istore_n 2, mI 0)]
theorem kX2_greatestShared_0 : mchk MX2_greatestShared 0 bX2_greatestShared_0 2 = true := by decide +kernel
def bX2_greatestShared_2 : List mB := [(.iload_n 2, mI 0), (.iconst 1, mI (nI 1))]
theorem kX2_greatestShared_2 : mchk MX2_greatestShared 2 bX2_greatestShared_2 4 = true := by decide +kernel
theorem tX2_greatestShared_4 : mbk MX2_greatestShared 4 (.if_icmp .le 23) 27 = true := by decide +kernel
def bX2_greatestShared_7 : List mB := [(.iload_n 0, mI 0), (.iload_n 2, mI 0), (.irem, mI 0)]
theorem kX2_greatestShared_7 : mchk MX2_greatestShared 7 bX2_greatestShared_7 10 = true := by decide +kernel
theorem tX2_greatestShared_10 : mbk MX2_greatestShared 10 (.ifCond .ne 11) 21 = true := by decide +kernel
def bX2_greatestShared_13 : List mB := [(.iload_n 1, mI 0), (.iload_n 2, mI 0), (.irem, mI 0)]
theorem kX2_greatestShared_13 : mchk MX2_greatestShared 13 bX2_greatestShared_13 16 = true := by decide +kernel
theorem tX2_greatestShared_16 : mbk MX2_greatestShared 16 (.ifCond .ne 5) 21 = true := by decide +kernel
def bX2_greatestShared_19 : List mB := [(.iload_n 2, mI 0)]
theorem kX2_greatestShared_19 : mchk MX2_greatestShared 19 bX2_greatestShared_19 20 = true := by decide +kernel
theorem tX2_greatestShared_20 : mrk MX2_greatestShared 20 .ireturn = true := by decide +kernel
def bX2_greatestShared_21 : List mB := [(.iinc 2 (-1), mI (-1))]
theorem kX2_greatestShared_21 : mchk MX2_greatestShared 21 bX2_greatestShared_21 24 = true := by decide +kernel
theorem tX2_greatestShared_24 : mbk MX2_greatestShared 24 (.goto (-22)) 2 = true := by decide +kernel
def bX2_greatestShared_27 : List mB := [(.iconst 1, mI (nI 1))]
theorem kX2_greatestShared_27 : mchk MX2_greatestShared 27 bX2_greatestShared_27 28 = true := by decide +kernel
theorem tX2_greatestShared_28 : mrk MX2_greatestShared 28 .ireturn = true := by decide +kernel

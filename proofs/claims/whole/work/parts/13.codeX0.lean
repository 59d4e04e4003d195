def bX0_hasRoom_0 : List mB := [(.aload_n 0, mI 0), (.getfield 15, mR 0 1), (.bipush 96, mI (nI 96))]
theorem kX0_hasRoom_0 : mchk MX0_hasRoom 0 bX0_hasRoom_0 6 = true := by decide +kernel
theorem tX0_hasRoom_6 : mbk MX0_hasRoom 6 (.if_icmp .ge 7) 13 = true := by decide +kernel
def bX0_hasRoom_9 : List mB := [(.iconst 1, mI (nI 1))]
theorem kX0_hasRoom_9 : mchk MX0_hasRoom 9 bX0_hasRoom_9 10 = true := by decide +kernel
theorem tX0_hasRoom_10 : mbk MX0_hasRoom 10 (.goto 4) 14 = true := by decide +kernel
def bX0_hasRoom_13 : List mB := [(.iconst 0, mI (nI 0))]
theorem kX0_hasRoom_13 : mchk MX0_hasRoom 13 bX0_hasRoom_13 14 = true := by decide +kernel
theorem tX0_hasRoom_14 : mrk MX0_hasRoom 14 .ireturn = true := by decide +kernel
def bX0_size_0 : List mB := [(.aload_n 0, mI 0), (.getfield 15, mR 0 1)]
theorem kX0_size_0 : mchk MX0_size 0 bX0_size_0 4 = true := by decide +kernel
theorem tX0_size_4 : mrk MX0_size 4 .ireturn = true := by decide +kernel
def bX0_statementCount_0 : List mB := [(.aload_n 0, mI 0), (.getfield 19, mR 0 2)]
theorem kX0_statementCount_0 : mchk MX0_statementCount 0 bX0_statementCount_0 4 = true := by decide +kernel
theorem tX0_statementCount_4 : mrk MX0_statementCount 4 .ireturn = true := by decide +kernel
def bX0_hear_0 : List mB := [(.aload_n 0, mI 0)]
theorem kX0_hear_0 : mchk MX0_hear 0 bX0_hear_0 1 = true := by decide +kernel
theorem tX0_hear_1 : mdk MX0_hear 1 (.invokevirtual 22) = true := by decide +kernel
theorem tX0_hear_4 : mbk MX0_hear 4 (.ifCond .eq 23) 27 = true := by decide +kernel
def bX0_hear_7 : List mB := [(.aload_n 0, mI 0), (.getfield 11, mR 0 0), (.aload_n 0, mI 0), (.getfield 15, mR 0 1), (.iload_n 1, mI 0), (.iastore, mI 0), (.aload_n 0, mI 0), (.dup, mI 0), (.getfield 15, mR 0 1), (.iconst 1, mI (nI 1)), (.iadd, mI 0), (.putfield 15, mR 0 1)]
theorem kX0_hear_7 : mchk MX0_hear 7 bX0_hear_7 27 = true := by decide +kernel
def bX0_hear_27 : List mB := [(.aload_n 0, mI 0), (.getfield 15, mR 0 1)]
theorem kX0_hear_27 : mchk MX0_hear 27 bX0_hear_27 31 = true := by decide +kernel
theorem tX0_hear_31 : mrk MX0_hear 31 .ireturn = true := by decide +kernel
def bX0_forget_0 : List mB := [(.aload_n 0, mI 0), (.iconst 0, mI (nI 0)), (.putfield 15, mR 0 1)]
theorem kX0_forget_0 : mchk MX0_forget 0 bX0_forget_0 5 = true := by decide +kernel
theorem tX0_forget_5 : mrk MX0_forget 5 .return_ = true := by decide +kernel
def bX0_firstMisfit_0 : List mB := [(.ldc 26, mR 30 0), (.astore_n 1, mI 0), (.iconst 0, mI (nI 0)), (.istore_n 2, mI 0), (.iconst 0, mI (nI 0)), (.istore_n 3, mI 0)]
theorem kX0_firstMisfit_0 : mchk MX0_firstMisfit 0 bX0_firstMisfit_0 7 = true := by decide +kernel
def bX0_firstMisfit_7 : List mB := [(.iload_n 3, mI 0), (.aload_n 0, mI 0), (.getfield 15, mR 0 1)]
theorem kX0_firstMisfit_7 : mchk MX0_firstMisfit 7 bX0_firstMisfit_7 12 = true := by decide +kernel
theorem tX0_firstMisfit_12 : mbk MX0_firstMisfit 12 (.if_icmp .ge 55) 67 = true := by decide +kernel
def bX0_firstMisfit_15 : List mB := [(.iload_n 2, mI 0), (.aload_n 1, mI 0)]
theorem kX0_firstMisfit_15 : mchk MX0_firstMisfit 15 bX0_firstMisfit_15 17 = true := by decide +kernel
theorem tX0_firstMisfit_17 : mdk MX0_firstMisfit 17 (.invokevirtual 28) = true := by decide +kernel
theorem tX0_firstMisfit_20 : mbk MX0_firstMisfit 20 (.if_icmp .ne 11) 31 = true := by decide +kernel
def bX0_firstMisfit_23 : List mB := [(.aload_n 0, mI 0), (.iload_n 3, mI 0)]
theorem kX0_firstMisfit_23 : mchk MX0_firstMisfit 23 bX0_firstMisfit_23 25 = true := by decide +kernel
theorem tX0_firstMisfit_25 : mdk MX0_firstMisfit 25 (.invokevirtual 34) = true := by decide +kernel
def bX0_firstMisfit_28 : List mB := [(.astore_n 1, mI 0), (.iconst 0, mI (nI 0)), (.istore_n 2, mI 0)]
theorem kX0_firstMisfit_28 : mchk MX0_firstMisfit 28 bX0_firstMisfit_28 31 = true := by decide +kernel
def bX0_firstMisfit_31 : List mB := [(.iload_n 2, mI 0), (.aload_n 1, mI 0)]
theorem kX0_firstMisfit_31 : mchk MX0_firstMisfit 31 bX0_firstMisfit_31 33 = true := by decide +kernel
theorem tX0_firstMisfit_33 : mdk MX0_firstMisfit 33 (.invokevirtual 28) = true := by decide +kernel
theorem tX0_firstMisfit_36 : mbk MX0_firstMisfit 36 (.if_icmp .ge 20) 56 = true := by decide +kernel
def bX0_firstMisfit_39 : List mB := [(.aload_n 0, mI 0), (.getfield 11, mR 0 0), (.iload_n 3, mI 0), (.iaload, mI 0), (.aload_n 1, mI 0), (.iload_n 2, mI 0)]
theorem kX0_firstMisfit_39 : mchk MX0_firstMisfit 39 bX0_firstMisfit_39 47 = true := by decide +kernel
theorem tX0_firstMisfit_47 : mdk MX0_firstMisfit 47 (.invokevirtual 38) = true := by decide +kernel
theorem tX0_firstMisfit_50 : mdk MX0_firstMisfit 50 (.invokestatic 42) = true := by decide +kernel
theorem tX0_firstMisfit_53 : mbk MX0_firstMisfit 53 (.ifCond .ne 5) 58 = true := by decide +kernel
def bX0_firstMisfit_56 : List mB := [(.iload_n 3, mI 0)]
theorem kX0_firstMisfit_56 : mchk MX0_firstMisfit 56 bX0_firstMisfit_56 57 = true := by decide +kernel
theorem tX0_firstMisfit_57 : mrk MX0_firstMisfit 57 .ireturn = true := by decide +kernel
def bX0_firstMisfit_58 : List mB := [(.iinc 2 1, mI (nI 1)), (.iinc 3 1, mI (nI 1))]
theorem kX0_firstMisfit_58 : mchk MX0_firstMisfit 58 bX0_firstMisfit_58 64 = true := by decide +kernel
theorem tX0_firstMisfit_64 : mbk MX0_firstMisfit 64 (.goto (-57)) 7 = true := by decide +kernel
def bX0_firstMisfit_67 : List mB := [(.aload_n 0, mI 0), (.getfield 15, mR 0 1)]
theorem kX0_firstMisfit_67 : mchk MX0_firstMisfit 67 bX0_firstMisfit_67 71 = true := by decide +kernel
theorem tX0_firstMisfit_71 : mbk MX0_firstMisfit 71 (.ifCond .le 16) 87 = true := by decide +kernel
def bX0_firstMisfit_74 : List mB := [(.iload_n 2, mI 0), (.aload_n 1, mI 0)]
theorem kX0_firstMisfit_74 : mchk MX0_firstMisfit 74 bX0_firstMisfit_74 76 = true := by decide +kernel
theorem tX0_firstMisfit_76 : mdk MX0_firstMisfit 76 (.invokevirtual 28) = true := by decide +kernel
theorem tX0_firstMisfit_79 : mbk MX0_firstMisfit 79 (.if_icmp .ne 8) 87 = true := by decide +kernel
def bX0_firstMisfit_82 : List mB := [(.bipush (-9), mI (-9))]
theorem kX0_firstMisfit_82 : mchk MX0_firstMisfit 82 bX0_firstMisfit_82 84 = true := by decide +kernel
theorem tX0_firstMisfit_84 : mbk MX0_firstMisfit 84 (.goto 7) 91 = true := by decide +kernel
def bX0_firstMisfit_87 : List mB := [(.aload_n 0, mI 0), (.getfield 15, mR 0 1)]
theorem kX0_firstMisfit_87 : mchk MX0_firstMisfit 87 bX0_firstMisfit_87 91 = true := by decide +kernel
theorem tX0_firstMisfit_91 : mrk MX0_firstMisfit 91 .ireturn = true := by decide +kernel
def bX0_tellTo_0 : List mB := [(.aload_n 0, mI 0), (.iconst 0, mI (nI 0)), (.putfield 19, mR 0 2), (.iconst 0, mI (nI 0)), (.istore_n 2, mI 0)]
theorem kX0_tellTo_0 : mchk MX0_tellTo 0 bX0_tellTo_0 7 = true := by decide +kernel
def bX0_tellTo_7 : List mB := [(.iload_n 2, mI 0), (.aload_n 0, mI 0), (.getfield 15, mR 0 1)]
theorem kX0_tellTo_7 : mchk MX0_tellTo 7 bX0_tellTo_7 12 = true := by decide +kernel
theorem tX0_tellTo_12 : mbk MX0_tellTo 12 (.if_icmp .ge 42) 54 = true := by decide +kernel
def bX0_tellTo_15 : List mB := [(.aload_n 0, mI 0), (.aload_n 1, mI 0), (.iload_n 2, mI 0)]
theorem kX0_tellTo_15 : mchk MX0_tellTo 15 bX0_tellTo_15 18 = true := by decide +kernel
theorem tX0_tellTo_18 : mdk MX0_tellTo 18 (.invokevirtual 46) = true := by decide +kernel
theorem tX0_tellTo_21 : mbk MX0_tellTo 21 (.ifCond .ne 5) 26 = true := by decide +kernel
def bX0_tellTo_24 : List mB := [(.iload_n 2, mI 0)]
theorem kX0_tellTo_24 : mchk MX0_tellTo 24 bX0_tellTo_24 25 = true := by decide +kernel
theorem tX0_tellTo_25 : mrk MX0_tellTo 25 .ireturn = true := by decide +kernel
def bX0_tellTo_26 : List mB := [(.aload_n 0, mI 0), (.dup, mI 0), (.getfield 19, mR 0 2), (.iconst 1, mI (nI 1)), (.iadd, mI 0), (.putfield 19, mR 0 2), (.iload_n 2, mI 0), (.iconst 1, mI (nI 1)), (.aload_n 0, mI 0), (.iload_n 2, mI 0)]
theorem kX0_tellTo_26 : mchk MX0_tellTo 26 bX0_tellTo_26 40 = true := by decide +kernel
theorem tX0_tellTo_40 : mdk MX0_tellTo 40 (.invokevirtual 34) = true := by decide +kernel
theorem tX0_tellTo_43 : mdk MX0_tellTo 43 (.invokevirtual 28) = true := by decide +kernel
theorem tX0_tellTo_46 : mdk MX0_tellTo 46 (.invokestatic 50) = true := by decide +kernel
def bX0_tellTo_49 : List mB := [(.iadd, mI 0), (.istore_n 2, mI 0)]
theorem kX0_tellTo_49 : mchk MX0_tellTo 49 bX0_tellTo_49 51 = true := by decide +kernel
theorem tX0_tellTo_51 : mbk MX0_tellTo 51 (.goto (-44)) 7 = true := by decide +kernel
def bX0_tellTo_54 : List mB := [(.bipush (-9), mI (-9))]
theorem kX0_tellTo_54 : mchk MX0_tellTo 54 bX0_tellTo_54 56 = true := by decide +kernel
theorem tX0_tellTo_56 : mrk MX0_tellTo 56 .ireturn = true := by decide +kernel
def bX0_tellStatement_0 : List mB := [(.aload_n 0, mI 0), (.iload_n 2, mI 0)]
theorem kX0_tellStatement_0 : mchk MX0_tellStatement 0 bX0_tellStatement_0 2 = true := by decide +kernel
theorem tX0_tellStatement_2 : mdk MX0_tellStatement 2 (.invokevirtual 56) = true := by decide +kernel
def sX0_tellStatement_5 : Instr := .lookupswitch 112 #[(103, 93), (107, 43), (108, 81), (116, 69)]
theorem tX0_tellStatement_5 : mswk MX0_tellStatement 5 sX0_tellStatement_5 43 = true := by decide +kernel
def bX0_tellStatement_48 : List mB := [(.aload_n 1, mI 0), (.aload_n 0, mI 0), (.iload_n 2, mI 0), (.iconst 1, mI (nI 1)), (.iadd, mI 0)]
theorem kX0_tellStatement_48 : mchk MX0_tellStatement 48 bX0_tellStatement_48 53 = true := by decide +kernel
theorem tX0_tellStatement_53 : mdk MX0_tellStatement 53 (.invokevirtual 60) = true := by decide +kernel
def bX0_tellStatement_56 : List mB := [(.aload_n 0, mI 0), (.iload_n 2, mI 0), (.iconst 2, mI (nI 2)), (.iadd, mI 0)]
theorem kX0_tellStatement_56 : mchk MX0_tellStatement 56 bX0_tellStatement_56 60 = true := by decide +kernel
theorem tX0_tellStatement_60 : mdk MX0_tellStatement 60 (.invokevirtual 63) = true := by decide +kernel
def bX0_tellStatement_63 : List mB := [(.aload_n 0, mI 0), (.iload_n 2, mI 0), (.iconst 4, mI (nI 4)), (.iadd, mI 0)]
theorem kX0_tellStatement_63 : mchk MX0_tellStatement 63 bX0_tellStatement_63 67 = true := by decide +kernel
theorem tX0_tellStatement_67 : mdk MX0_tellStatement 67 (.invokevirtual 66) = true := by decide +kernel
theorem tX0_tellStatement_70 : mdk MX0_tellStatement 70 (.invokevirtual 69) = true := by decide +kernel
theorem tX0_tellStatement_73 : mrk MX0_tellStatement 73 .ireturn = true := by decide +kernel
def bX0_tellStatement_74 : List mB := [(.aload_n 1, mI 0), (.aload_n 0, mI 0), (.iload_n 2, mI 0), (.iconst 1, mI (nI 1)), (.iadd, mI 0)]
theorem kX0_tellStatement_74 : mchk MX0_tellStatement 74 bX0_tellStatement_74 79 = true := by decide +kernel
theorem tX0_tellStatement_79 : mdk MX0_tellStatement 79 (.invokevirtual 66) = true := by decide +kernel
theorem tX0_tellStatement_82 : mdk MX0_tellStatement 82 (.invokevirtual 75) = true := by decide +kernel
theorem tX0_tellStatement_85 : mrk MX0_tellStatement 85 .ireturn = true := by decide +kernel
def bX0_tellStatement_86 : List mB := [(.aload_n 1, mI 0), (.aload_n 0, mI 0), (.iload_n 2, mI 0), (.iconst 1, mI (nI 1)), (.iadd, mI 0)]
theorem kX0_tellStatement_86 : mchk MX0_tellStatement 86 bX0_tellStatement_86 91 = true := by decide +kernel
theorem tX0_tellStatement_91 : mdk MX0_tellStatement 91 (.invokevirtual 66) = true := by decide +kernel
theorem tX0_tellStatement_94 : mdk MX0_tellStatement 94 (.invokevirtual 79) = true := by decide +kernel
theorem tX0_tellStatement_97 : mrk MX0_tellStatement 97 .ireturn = true := by decide +kernel
def bX0_tellStatement_98 : List mB := [(.aload_n 1, mI 0), (.aload_n 0, mI 0), (.iload_n 2, mI 0), (.iconst 1, mI (nI 1)), (.iadd, mI 0)]
theorem kX0_tellStatement_98 : mchk MX0_tellStatement 98 bX0_tellStatement_98 103 = true := by decide +kernel
theorem tX0_tellStatement_103 : mdk MX0_tellStatement 103 (.invokevirtual 66) = true := by decide +kernel
def bX0_tellStatement_106 : List mB := [(.aload_n 0, mI 0), (.iload_n 2, mI 0), (.iconst 2, mI (nI 2)), (.iadd, mI 0)]
theorem kX0_tellStatement_106 : mchk MX0_tellStatement 106 bX0_tellStatement_106 110 = true := by decide +kernel
theorem tX0_tellStatement_110 : mdk MX0_tellStatement 110 (.invokevirtual 63) = true := by decide +kernel
theorem tX0_tellStatement_113 : mdk MX0_tellStatement 113 (.invokevirtual 82) = true := by decide +kernel
theorem tX0_tellStatement_116 : mrk MX0_tellStatement 116 .ireturn = true := by decide +kernel
def bX0_tellStatement_117 : List mB := [(.iconst 0, mI (nI 0))]
theorem kX0_tellStatement_117 : mchk MX0_tellStatement 117 bX0_tellStatement_117 118 = true := by decide +kernel
theorem tX0_tellStatement_118 : mrk MX0_tellStatement 118 .ireturn = true := by decide +kernel
def bX0_shapeAt_0 : List mB := [(.aload_n 0, mI 0), (.iload_n 1, mI 0)]
theorem kX0_shapeAt_0 : mchk MX0_shapeAt 0 bX0_shapeAt_0 2 = true := by decide +kernel
theorem tX0_shapeAt_2 : mdk MX0_shapeAt 2 (.invokevirtual 56) = true := by decide +kernel
def sX0_shapeAt_5 : Instr := .lookupswitch 55 #[(103, 52), (107, 43), (108, 49), (116, 46)]
theorem tX0_shapeAt_5 : mswk MX0_shapeAt 5 sX0_shapeAt_5 43 = true := by decide +kernel
def bX0_shapeAt_48 : List mB := [(.ldc 86, mR 30 1)]
theorem kX0_shapeAt_48 : mchk MX0_shapeAt 48 bX0_shapeAt_48 50 = true := by decide +kernel
theorem tX0_shapeAt_50 : mrk MX0_shapeAt 50 .areturn = true := by decide +kernel
def bX0_shapeAt_51 : List mB := [(.ldc 88, mR 30 2)]
theorem kX0_shapeAt_51 : mchk MX0_shapeAt 51 bX0_shapeAt_51 53 = true := by decide +kernel
theorem tX0_shapeAt_53 : mrk MX0_shapeAt 53 .areturn = true := by decide +kernel
def bX0_shapeAt_54 : List mB := [(.ldc 90, mR 30 3)]
theorem kX0_shapeAt_54 : mchk MX0_shapeAt 54 bX0_shapeAt_54 56 = true := by decide +kernel
theorem tX0_shapeAt_56 : mrk MX0_shapeAt 56 .areturn = true := by decide +kernel
def bX0_shapeAt_57 : List mB := [(.ldc 92, mR 30 4)]
theorem kX0_shapeAt_57 : mchk MX0_shapeAt 57 bX0_shapeAt_57 59 = true := by decide +kernel
theorem tX0_shapeAt_59 : mrk MX0_shapeAt 59 .areturn = true := by decide +kernel
def bX0_shapeAt_60 : List mB := [(.ldc 26, mR 30 0)]
theorem kX0_shapeAt_60 : mchk MX0_shapeAt 60 bX0_shapeAt_60 62 = true := by decide +kernel
theorem tX0_shapeAt_62 : mrk MX0_shapeAt 62 .areturn = true := by decide +kernel
def bX0_fitsShape_0 : List mB := [(.iload_n 1, mI 0), (.bipush 75, mI (nI 75))]
theorem kX0_fitsShape_0 : mchk MX0_fitsShape 0 bX0_fitsShape_0 3 = true := by decide +kernel
theorem tX0_fitsShape_3 : mbk MX0_fitsShape 3 (.if_icmp .ne 19) 22 = true := by decide +kernel
def bX0_fitsShape_6 : List mB := [(.ldc 94, mR 30 5), (.iload_n 0, mI 0), (.i2c, mI 0)]
theorem kX0_fitsShape_6 : mchk MX0_fitsShape 6 bX0_fitsShape_6 10 = true := by decide +kernel
theorem tX0_fitsShape_10 : mdk MX0_fitsShape 10 (.invokevirtual 96) = true := by decide +kernel
theorem tX0_fitsShape_13 : mbk MX0_fitsShape 13 (.ifCond .lt 7) 20 = true := by decide +kernel
def bX0_fitsShape_16 : List mB := [(.iconst 1, mI (nI 1))]
theorem kX0_fitsShape_16 : mchk MX0_fitsShape 16 bX0_fitsShape_16 17 = true := by decide +kernel
theorem tX0_fitsShape_17 : mbk MX0_fitsShape 17 (.goto 4) 21 = true := by decide +kernel
def bX0_fitsShape_20 : List mB := [(.iconst 0, mI (nI 0))]
theorem kX0_fitsShape_20 : mchk MX0_fitsShape 20 bX0_fitsShape_20 21 = true := by decide +kernel
theorem tX0_fitsShape_21 : mrk MX0_fitsShape 21 .ireturn = true := by decide +kernel
def bX0_fitsShape_22 : List mB := [(.iload_n 1, mI 0), (.bipush 68, mI (nI 68))]
theorem kX0_fitsShape_22 : mchk MX0_fitsShape 22 bX0_fitsShape_22 25 = true := by decide +kernel
theorem tX0_fitsShape_25 : mbk MX0_fitsShape 25 (.if_icmp .ne 21) 46 = true := by decide +kernel
def bX0_fitsShape_28 : List mB := [(.iload_n 0, mI 0), (.bipush 48, mI (nI 48))]
theorem kX0_fitsShape_28 : mchk MX0_fitsShape 28 bX0_fitsShape_28 31 = true := by decide +kernel
theorem tX0_fitsShape_31 : mbk MX0_fitsShape 31 (.if_icmp .lt 13) 44 = true := by decide +kernel
def bX0_fitsShape_34 : List mB := [(.iload_n 0, mI 0), (.bipush 57, mI (nI 57))]
theorem kX0_fitsShape_34 : mchk MX0_fitsShape 34 bX0_fitsShape_34 37 = true := by decide +kernel
theorem tX0_fitsShape_37 : mbk MX0_fitsShape 37 (.if_icmp .gt 7) 44 = true := by decide +kernel
def bX0_fitsShape_40 : List mB := [(.iconst 1, mI (nI 1))]
theorem kX0_fitsShape_40 : mchk MX0_fitsShape 40 bX0_fitsShape_40 41 = true := by decide +kernel
theorem tX0_fitsShape_41 : mbk MX0_fitsShape 41 (.goto 4) 45 = true := by decide +kernel
def bX0_fitsShape_44 : List mB := [(.iconst 0, mI (nI 0))]
theorem kX0_fitsShape_44 : mchk MX0_fitsShape 44 bX0_fitsShape_44 45 = true := by decide +kernel
theorem tX0_fitsShape_45 : mrk MX0_fitsShape 45 .ireturn = true := by decide +kernel
def bX0_fitsShape_46 : List mB := [(.iload_n 0, mI 0), (.iload_n 1, mI 0)]
theorem kX0_fitsShape_46 : mchk MX0_fitsShape 46 bX0_fitsShape_46 48 = true := by decide +kernel
theorem tX0_fitsShape_48 : mbk MX0_fitsShape 48 (.if_icmp .ne 7) 55 = true := by decide +kernel
def bX0_fitsShape_51 : List mB := [(.iconst 1, mI (nI 1))]
theorem kX0_fitsShape_51 : mchk MX0_fitsShape 51 bX0_fitsShape_51 52 = true := by decide +kernel
theorem tX0_fitsShape_52 : mbk MX0_fitsShape 52 (.goto 4) 56 = true := by decide +kernel
def bX0_fitsShape_55 : List mB := [(.iconst 0, mI (nI 0))]
theorem kX0_fitsShape_55 : mchk MX0_fitsShape 55 bX0_fitsShape_55 56 = true := by decide +kernel
theorem tX0_fitsShape_56 : mrk MX0_fitsShape 56 .ireturn = true := by decide +kernel
def bX0_signAt_0 : List mB := [(.iload_n 1, mI 0)]
theorem kX0_signAt_0 : mchk MX0_signAt 0 bX0_signAt_0 1 = true := by decide +kernel
theorem tX0_signAt_1 : mbk MX0_signAt 1 (.ifCond .lt 20) 21 = true := by decide +kernel
def bX0_signAt_4 : List mB := [(.iload_n 1, mI 0), (.aload_n 0, mI 0), (.getfield 15, mR 0 1)]
theorem kX0_signAt_4 : mchk MX0_signAt 4 bX0_signAt_4 9 = true := by decide +kernel
theorem tX0_signAt_9 : mbk MX0_signAt 9 (.if_icmp .ge 12) 21 = true := by decide +kernel
def bX0_signAt_12 : List mB := [(.aload_n 0, mI 0), (.getfield 11, mR 0 0), (.iload_n 1, mI 0), (.iaload, mI 0)]
theorem kX0_signAt_12 : mchk MX0_signAt 12 bX0_signAt_12 18 = true := by decide +kernel
theorem tX0_signAt_18 : mbk MX0_signAt 18 (.goto 4) 22 = true := by decide +kernel
def bX0_signAt_21 : List mB := [(.iconst (-1), mI (-1))]
theorem kX0_signAt_21 : mchk MX0_signAt 21 bX0_signAt_21 22 = true := by decide +kernel
theorem tX0_signAt_22 : mrk MX0_signAt 22 .ireturn = true := by decide +kernel
def bX0_kindAt_0 : List mB := [(.ldc 94, mR 30 5), (.aload_n 0, mI 0), (.iload_n 1, mI 0)]
theorem kX0_kindAt_0 : mchk MX0_kindAt 0 bX0_kindAt_0 4 = true := by decide +kernel
theorem tX0_kindAt_4 : mdk MX0_kindAt 4 (.invokevirtual 56) = true := by decide +kernel
def bX0_kindAt_7 : List mB := [(.i2c, mI 0)]
theorem kX0_kindAt_7 : mchk MX0_kindAt 7 bX0_kindAt_7 8 = true := by decide +kernel
theorem tX0_kindAt_8 : mdk MX0_kindAt 8 (.invokevirtual 96) = true := by decide +kernel
theorem tX0_kindAt_11 : mrk MX0_kindAt 11 .ireturn = true := by decide +kernel
def bX0_digitAt_0 : List mB := [(.aload_n 0, mI 0), (.iload_n 1, mI 0)]
theorem kX0_digitAt_0 : mchk MX0_digitAt 0 bX0_digitAt_0 2 = true := by decide +kernel
theorem tX0_digitAt_2 : mdk MX0_digitAt 2 (.invokevirtual 56) = true := by decide +kernel
def bX0_digitAt_5 : List mB := [(.bipush 48, mI (nI 48)), (.isub, mI 0)]
theorem kX0_digitAt_5 : mchk MX0_digitAt 5 bX0_digitAt_5 8 = true := by decide +kernel
theorem tX0_digitAt_8 : mrk MX0_digitAt 8 .ireturn = true := by decide +kernel
def bX0_cellAt_0 : List mB := [(.bipush 10, mI (nI 10)), (.aload_n 0, mI 0), (.iload_n 1, mI 0)]
theorem kX0_cellAt_0 : mchk MX0_cellAt 0 bX0_cellAt_0 4 = true := by decide +kernel
theorem tX0_cellAt_4 : mdk MX0_cellAt 4 (.invokevirtual 66) = true := by decide +kernel
def bX0_cellAt_7 : List mB := [(.imul, mI 0), (.aload_n 0, mI 0), (.iload_n 1, mI 0), (.iconst 1, mI (nI 1)), (.iadd, mI 0)]
theorem kX0_cellAt_7 : mchk MX0_cellAt 7 bX0_cellAt_7 12 = true := by decide +kernel
theorem tX0_cellAt_12 : mdk MX0_cellAt 12 (.invokevirtual 66) = true := by decide +kernel
def bX0_cellAt_15 : List mB := [(.iadd, mI 0)]
theorem kX0_cellAt_15 : mchk MX0_cellAt 15 bX0_cellAt_15 16 = true := by decide +kernel
theorem tX0_cellAt_16 : mrk MX0_cellAt 16 .ireturn = true := by decide +kernel

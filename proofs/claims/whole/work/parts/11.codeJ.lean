def bJ6_bitCount_0f7a4_0 : List mB := [(.iload_n 0, mI 0), (.iload_n 0, mI 0), (.iconst 1, mI (nI 1)), (.iushr, mI 0), (.ldc_w 265, mI (nI 1431655765)), (.iand, mI 0), (.isub, mI 0), (.istore_n 0, mI 0), (.iload_n 0, mI 0), (.ldc_w 266, mI (nI 858993459)), (.iand, mI 0), (.iload_n 0, mI 0), (.iconst 2, mI (nI 2)), (.iushr, mI 0), (.ldc_w 266, mI (nI 858993459)), (.iand, mI 0), (.iadd, mI 0), (.istore_n 0, mI 0), (.iload_n 0, mI 0), (.iload_n 0, mI 0), (.iconst 4, mI (nI 4)), (.iushr, mI 0), (.iadd, mI 0), (.ldc_w 267, mI (nI 252645135)), (.iand, mI 0), (.istore_n 0, mI 0), (.iload_n 0, mI 0), (.iload_n 0, mI 0), (.bipush 8, mI (nI 8)), (.iushr, mI 0), (.iadd, mI 0), (.istore_n 0, mI 0), (.iload_n 0, mI 0), (.iload_n 0, mI 0), (.bipush 16, mI (nI 16)), (.iushr, mI 0), (.iadd, mI 0), (.istore_n 0, mI 0), (.iload_n 0, mI 0), (.bipush 63, mI (nI 63)), (.iand, mI 0)]
theorem kJ6_bitCount_0f7a4_0 : mchk MJ6_bitCount_0f7a4 0 bJ6_bitCount_0f7a4_0 52 = true := by decide +kernel
theorem tJ6_bitCount_0f7a4_52 : mrk MJ6_bitCount_0f7a4 52 .ireturn = true := by decide +kernel
def bJ0_length_8abf5_0 : List mB := [(.aload_n 0, mI 0), (.getfield 9, mR 9 0), (.arraylength, mI 0), (.aload_n 0, mI 0)]
theorem kJ0_length_8abf5_0 : mchk MJ0_length_8abf5 0 bJ0_length_8abf5_0 6 = true := by decide +kernel
theorem tJ0_length_8abf5_6 : mdk MJ0_length_8abf5 6 (.invokevirtual 335) = true := by decide +kernel
def bJ0_length_8abf5_9 : List mB := [(.ishr, mI 0)]
theorem kJ0_length_8abf5_9 : mchk MJ0_length_8abf5 9 bJ0_length_8abf5_9 10 = true := by decide +kernel
theorem tJ0_length_8abf5_10 : mrk MJ0_length_8abf5 10 .ireturn = true := by decide +kernel
def bJ0_charAt_5068e_0 : List mB := [(.aload_n 0, mI 0)]
theorem kJ0_charAt_5068e_0 : mchk MJ0_charAt_5068e 0 bJ0_charAt_5068e_0 1 = true := by decide +kernel
theorem tJ0_charAt_5068e_1 : mdk MJ0_charAt_5068e 1 (.invokevirtual 492) = true := by decide +kernel
theorem tJ0_charAt_5068e_4 : mbk MJ0_charAt_5068e 4 (.ifCond .eq 12) 16 = true := by decide +kernel
def bJ0_charAt_5068e_7 : List mB := [(.aload_n 0, mI 0), (.getfield 9, mR 9 0), (.iload_n 1, mI 0)]
theorem kJ0_charAt_5068e_7 : mchk MJ0_charAt_5068e 7 bJ0_charAt_5068e_7 12 = true := by decide +kernel
theorem tJ0_charAt_5068e_12 : mdk MJ0_charAt_5068e 12 (.invokestatic 495) = true := by decide +kernel
theorem tJ0_charAt_5068e_15 : mrk MJ0_charAt_5068e 15 .ireturn = true := by decide +kernel
def bJ0_charAt_5068e_16 : List mB := [(.aload_n 0, mI 0), (.getfield 9, mR 9 0), (.iload_n 1, mI 0)]
theorem kJ0_charAt_5068e_16 : mchk MJ0_charAt_5068e 16 bJ0_charAt_5068e_16 21 = true := by decide +kernel
theorem tJ0_charAt_5068e_24 : mrk MJ0_charAt_5068e 24 .ireturn = true := by decide +kernel
def bJ0_indexOf_0f7a4_0 : List mB := [(.aload_n 0, mI 0), (.iload_n 1, mI 0), (.iconst 0, mI (nI 0))]
theorem kJ0_indexOf_0f7a4_0 : mchk MJ0_indexOf_0f7a4 0 bJ0_indexOf_0f7a4_0 3 = true := by decide +kernel
theorem tJ0_indexOf_0f7a4_3 : mdk MJ0_indexOf_0f7a4 3 (.invokevirtual 633) = true := by decide +kernel
theorem tJ0_indexOf_0f7a4_6 : mrk MJ0_indexOf_0f7a4 6 .ireturn = true := by decide +kernel
def bJ0_indexOf_7cf53_0 : List mB := [(.aload_n 0, mI 0)]
theorem kJ0_indexOf_7cf53_0 : mchk MJ0_indexOf_7cf53 0 bJ0_indexOf_7cf53_0 1 = true := by decide +kernel
theorem tJ0_indexOf_7cf53_1 : mdk MJ0_indexOf_7cf53 1 (.invokevirtual 492) = true := by decide +kernel
theorem tJ0_indexOf_7cf53_4 : mbk MJ0_indexOf_7cf53 4 (.ifCond .eq 19) 23 = true := by decide +kernel
def bJ0_indexOf_7cf53_7 : List mB := [(.aload_n 0, mI 0), (.getfield 9, mR 9 0), (.iload_n 1, mI 0), (.iload_n 2, mI 0), (.aload_n 0, mI 0)]
theorem kJ0_indexOf_7cf53_7 : mchk MJ0_indexOf_7cf53 7 bJ0_indexOf_7cf53_7 14 = true := by decide +kernel
theorem tJ0_indexOf_7cf53_14 : mdk MJ0_indexOf_7cf53 14 (.invokevirtual 505) = true := by decide +kernel
theorem tJ0_indexOf_7cf53_17 : mdk MJ0_indexOf_7cf53 17 (.invokestatic 637) = true := by decide +kernel
theorem tJ0_indexOf_7cf53_20 : mbk MJ0_indexOf_7cf53 20 (.goto 16) 36 = true := by decide +kernel
def bJ0_indexOf_7cf53_23 : List mB := [(.aload_n 0, mI 0), (.getfield 9, mR 9 0), (.iload_n 1, mI 0), (.iload_n 2, mI 0), (.aload_n 0, mI 0)]
theorem kJ0_indexOf_7cf53_23 : mchk MJ0_indexOf_7cf53 23 bJ0_indexOf_7cf53_23 30 = true := by decide +kernel
theorem tJ0_indexOf_7cf53_30 : mdk MJ0_indexOf_7cf53 30 (.invokevirtual 505) = true := by decide +kernel
theorem tJ0_indexOf_7cf53_36 : mrk MJ0_indexOf_7cf53 36 .ireturn = true := by decide +kernel
def bJ0_coder_7d493_0 : List mB := [(.getstatic 38, mI 1)]
theorem kJ0_coder_7d493_0 : mchk MJ0_coder_7d493 0 bJ0_coder_7d493_0 3 = true := by decide +kernel
theorem tJ0_coder_7d493_3 : mbk MJ0_coder_7d493 3 (.ifCond .eq 10) 13 = true := by decide +kernel
def bJ0_coder_7d493_6 : List mB := [(.aload_n 0, mI 0), (.getfield 15, mR 9 1)]
theorem kJ0_coder_7d493_6 : mchk MJ0_coder_7d493 6 bJ0_coder_7d493_6 10 = true := by decide +kernel
theorem tJ0_coder_7d493_10 : mbk MJ0_coder_7d493 10 (.goto 4) 14 = true := by decide +kernel
def bJ0_coder_7d493_13 : List mB := [(.iconst 1, mI (nI 1))]
theorem kJ0_coder_7d493_13 : mchk MJ0_coder_7d493 13 bJ0_coder_7d493_13 14 = true := by decide +kernel
theorem tJ0_coder_7d493_14 : mrk MJ0_coder_7d493 14 .ireturn = true := by decide +kernel
def bJ0_isLatin1_aae02_0 : List mB := [(.getstatic 38, mI 1)]
theorem kJ0_isLatin1_aae02_0 : mchk MJ0_isLatin1_aae02 0 bJ0_isLatin1_aae02_0 3 = true := by decide +kernel
theorem tJ0_isLatin1_aae02_3 : mbk MJ0_isLatin1_aae02 3 (.ifCond .eq 14) 17 = true := by decide +kernel
def bJ0_isLatin1_aae02_6 : List mB := [(.aload_n 0, mI 0), (.getfield 15, mR 9 1)]
theorem kJ0_isLatin1_aae02_6 : mchk MJ0_isLatin1_aae02 6 bJ0_isLatin1_aae02_6 10 = true := by decide +kernel
theorem tJ0_isLatin1_aae02_10 : mbk MJ0_isLatin1_aae02 10 (.ifCond .ne 7) 17 = true := by decide +kernel
def bJ0_isLatin1_aae02_13 : List mB := [(.iconst 1, mI (nI 1))]
theorem kJ0_isLatin1_aae02_13 : mchk MJ0_isLatin1_aae02 13 bJ0_isLatin1_aae02_13 14 = true := by decide +kernel
theorem tJ0_isLatin1_aae02_14 : mbk MJ0_isLatin1_aae02 14 (.goto 4) 18 = true := by decide +kernel
def bJ0_isLatin1_aae02_17 : List mB := [(.iconst 0, mI (nI 0))]
theorem kJ0_isLatin1_aae02_17 : mchk MJ0_isLatin1_aae02 17 bJ0_isLatin1_aae02_17 18 = true := by decide +kernel
theorem tJ0_isLatin1_aae02_18 : mrk MJ0_isLatin1_aae02 18 .ireturn = true := by decide +kernel
def bJ0_checkIndex_df160_0 : List mB := [(.iload_n 0, mI 0), (.iload_n 1, mI 0), (.getstatic 1053, mR 32 0)]
theorem kJ0_checkIndex_df160_0 : mchk MJ0_checkIndex_df160 0 bJ0_checkIndex_df160_0 5 = true := by decide +kernel
theorem tJ0_checkIndex_df160_5 : mdk MJ0_checkIndex_df160 5 (.invokestatic 1059) = true := by decide +kernel
def bJ0_checkIndex_df160_8 : List mB := [(.pop, mI 0)]
theorem kJ0_checkIndex_df160_8 : mchk MJ0_checkIndex_df160 8 bJ0_checkIndex_df160_8 9 = true := by decide +kernel
theorem tJ0_checkIndex_df160_9 : mrk MJ0_checkIndex_df160 9 .return_ = true := by decide +kernel
def bJ1_charAt_3b067_0 : List mB := [(.iload_n 1, mI 0), (.aload_n 0, mI 0), (.arraylength, mI 0)]
theorem kJ1_charAt_3b067_0 : mchk MJ1_charAt_3b067 0 bJ1_charAt_3b067_0 3 = true := by decide +kernel
theorem tJ1_charAt_3b067_3 : mdk MJ1_charAt_3b067 3 (.invokestatic 9) = true := by decide +kernel
def bJ1_charAt_3b067_6 : List mB := [(.aload_n 0, mI 0), (.iload_n 1, mI 0), (.baload, mI 0), (.sipush 255, mI (nI 255)), (.iand, mI 0), (.i2c, mI 0)]
theorem kJ1_charAt_3b067_6 : mchk MJ1_charAt_3b067 6 bJ1_charAt_3b067_6 14 = true := by decide +kernel
theorem tJ1_charAt_3b067_14 : mrk MJ1_charAt_3b067 14 .ireturn = true := by decide +kernel
def bJ1_canEncode_9a6ad_0 : List mB := [(.iload_n 0, mI 0)]
theorem kJ1_canEncode_9a6ad_0 : mchk MJ1_canEncode_9a6ad 0 bJ1_canEncode_9a6ad_0 1 = true := by decide +kernel
theorem tJ1_canEncode_9a6ad_1 : mbk MJ1_canEncode_9a6ad 1 (.ifCond .lt 14) 15 = true := by decide +kernel
def bJ1_canEncode_9a6ad_4 : List mB := [(.iload_n 0, mI 0), (.sipush 255, mI (nI 255))]
theorem kJ1_canEncode_9a6ad_4 : mchk MJ1_canEncode_9a6ad 4 bJ1_canEncode_9a6ad_4 8 = true := by decide +kernel
theorem tJ1_canEncode_9a6ad_8 : mbk MJ1_canEncode_9a6ad 8 (.if_icmp .gt 7) 15 = true := by decide +kernel
def bJ1_canEncode_9a6ad_11 : List mB := [(.iconst 1, mI (nI 1))]
theorem kJ1_canEncode_9a6ad_11 : mchk MJ1_canEncode_9a6ad 11 bJ1_canEncode_9a6ad_11 12 = true := by decide +kernel
theorem tJ1_canEncode_9a6ad_12 : mbk MJ1_canEncode_9a6ad 12 (.goto 4) 16 = true := by decide +kernel
def bJ1_canEncode_9a6ad_15 : List mB := [(.iconst 0, mI (nI 0))]
theorem kJ1_canEncode_9a6ad_15 : mchk MJ1_canEncode_9a6ad 15 bJ1_canEncode_9a6ad_15 16 = true := by decide +kernel
theorem tJ1_canEncode_9a6ad_16 : mrk MJ1_canEncode_9a6ad 16 .ireturn = true := by decide +kernel
def bJ1_indexOf_4cfef_0 : List mB := [(.iload_n 1, mI 0)]
theorem kJ1_indexOf_4cfef_0 : mchk MJ1_indexOf_4cfef 0 bJ1_indexOf_4cfef_0 1 = true := by decide +kernel
theorem tJ1_indexOf_4cfef_1 : mdk MJ1_indexOf_4cfef 1 (.invokestatic 88) = true := by decide +kernel
theorem tJ1_indexOf_4cfef_4 : mbk MJ1_indexOf_4cfef 4 (.ifCond .ne 5) 9 = true := by decide +kernel
def bJ1_indexOf_4cfef_7 : List mB := [(.iconst (-1), mI (-1))]
theorem kJ1_indexOf_4cfef_7 : mchk MJ1_indexOf_4cfef 7 bJ1_indexOf_4cfef_7 8 = true := by decide +kernel
theorem tJ1_indexOf_4cfef_8 : mrk MJ1_indexOf_4cfef 8 .ireturn = true := by decide +kernel
def bJ1_indexOf_4cfef_9 : List mB := [(.iload_n 2, mI 0), (.iconst 0, mI (nI 0))]
theorem kJ1_indexOf_4cfef_9 : mchk MJ1_indexOf_4cfef 9 bJ1_indexOf_4cfef_9 11 = true := by decide +kernel
theorem tJ1_indexOf_4cfef_11 : mdk MJ1_indexOf_4cfef 11 (.invokestatic 92) = true := by decide +kernel
def bJ1_indexOf_4cfef_14 : List mB := [(.istore_n 2, mI 0), (.iload_n 3, mI 0), (.aload_n 0, mI 0), (.arraylength, mI 0)]
theorem kJ1_indexOf_4cfef_14 : mchk MJ1_indexOf_4cfef 14 bJ1_indexOf_4cfef_14 18 = true := by decide +kernel
theorem tJ1_indexOf_4cfef_18 : mdk MJ1_indexOf_4cfef 18 (.invokestatic 38) = true := by decide +kernel
def bJ1_indexOf_4cfef_21 : List mB := [(.istore_n 3, mI 0), (.iload_n 2, mI 0), (.iload_n 3, mI 0)]
theorem kJ1_indexOf_4cfef_21 : mchk MJ1_indexOf_4cfef 21 bJ1_indexOf_4cfef_21 24 = true := by decide +kernel
theorem tJ1_indexOf_4cfef_24 : mbk MJ1_indexOf_4cfef 24 (.if_icmp .lt 5) 29 = true := by decide +kernel
def bJ1_indexOf_4cfef_27 : List mB := [(.iconst (-1), mI (-1))]
theorem kJ1_indexOf_4cfef_27 : mchk MJ1_indexOf_4cfef 27 bJ1_indexOf_4cfef_27 28 = true := by decide +kernel
theorem tJ1_indexOf_4cfef_28 : mrk MJ1_indexOf_4cfef 28 .ireturn = true := by decide +kernel
def bJ1_indexOf_4cfef_29 : List mB := [(.aload_n 0, mI 0), (.iload_n 1, mI 0), (.iload_n 2, mI 0), (.iload_n 3, mI 0)]
theorem kJ1_indexOf_4cfef_29 : mchk MJ1_indexOf_4cfef 29 bJ1_indexOf_4cfef_29 33 = true := by decide +kernel
theorem tJ1_indexOf_4cfef_33 : mdk MJ1_indexOf_4cfef 33 (.invokestatic 95) = true := by decide +kernel
theorem tJ1_indexOf_4cfef_36 : mrk MJ1_indexOf_4cfef 36 .ireturn = true := by decide +kernel
def bJ1_indexOfChar_4cfef_0 : List mB := [(.iload_n 1, mI 0), (.i2b, mI 0), (.istore 4, mI 0), (.iload_n 2, mI 0), (.istore 5, mI 0)]
theorem kJ1_indexOfChar_4cfef_0 : mchk MJ1_indexOfChar_4cfef 0 bJ1_indexOfChar_4cfef_0 7 = true := by decide +kernel
def bJ1_indexOfChar_4cfef_7 : List mB := [(.iload 5, mI 0), (.iload_n 3, mI 0)]
theorem kJ1_indexOfChar_4cfef_7 : mchk MJ1_indexOfChar_4cfef 7 bJ1_indexOfChar_4cfef_7 10 = true := by decide +kernel
theorem tJ1_indexOfChar_4cfef_10 : mbk MJ1_indexOfChar_4cfef 10 (.if_icmp .ge 21) 31 = true := by decide +kernel
def bJ1_indexOfChar_4cfef_13 : List mB := [(.aload_n 0, mI 0), (.iload 5, mI 0), (.baload, mI 0), (.iload 4, mI 0)]
theorem kJ1_indexOfChar_4cfef_13 : mchk MJ1_indexOfChar_4cfef 13 bJ1_indexOfChar_4cfef_13 19 = true := by decide +kernel
theorem tJ1_indexOfChar_4cfef_19 : mbk MJ1_indexOfChar_4cfef 19 (.if_icmp .ne 6) 25 = true := by decide +kernel
def bJ1_indexOfChar_4cfef_22 : List mB := [(.iload 5, mI 0)]
theorem kJ1_indexOfChar_4cfef_22 : mchk MJ1_indexOfChar_4cfef 22 bJ1_indexOfChar_4cfef_22 24 = true := by decide +kernel
theorem tJ1_indexOfChar_4cfef_24 : mrk MJ1_indexOfChar_4cfef 24 .ireturn = true := by decide +kernel
def bJ1_indexOfChar_4cfef_25 : List mB := [(.iinc 5 1, mI (nI 1))]
theorem kJ1_indexOfChar_4cfef_25 : mchk MJ1_indexOfChar_4cfef 25 bJ1_indexOfChar_4cfef_25 28 = true := by decide +kernel
theorem tJ1_indexOfChar_4cfef_28 : mbk MJ1_indexOfChar_4cfef 28 (.goto (-21)) 7 = true := by decide +kernel
def bJ1_indexOfChar_4cfef_31 : List mB := [(.iconst (-1), mI (-1))]
theorem kJ1_indexOfChar_4cfef_31 : mchk MJ1_indexOfChar_4cfef 31 bJ1_indexOfChar_4cfef_31 32 = true := by decide +kernel
theorem tJ1_indexOfChar_4cfef_32 : mrk MJ1_indexOfChar_4cfef 32 .ireturn = true := by decide +kernel
def bJ3_checkIndex_8e157_0 : List mB := [(.iload_n 0, mI 0)]
theorem kJ3_checkIndex_8e157_0 : mchk MJ3_checkIndex_8e157 0 bJ3_checkIndex_8e157_0 1 = true := by decide +kernel
theorem tJ3_checkIndex_8e157_1 : mbk MJ3_checkIndex_8e157 1 (.ifCond .lt 8) 9 = true := by decide +kernel
def bJ3_checkIndex_8e157_4 : List mB := [(.iload_n 0, mI 0), (.iload_n 1, mI 0)]
theorem kJ3_checkIndex_8e157_4 : mchk MJ3_checkIndex_8e157 4 bJ3_checkIndex_8e157_4 6 = true := by decide +kernel
theorem tJ3_checkIndex_8e157_6 : mbk MJ3_checkIndex_8e157 6 (.if_icmp .lt 10) 16 = true := by decide +kernel
def bJ3_checkIndex_8e157_9 : List mB := [(.aload_n 2, mI 0), (.iload_n 0, mI 0), (.iload_n 1, mI 0)]
theorem kJ3_checkIndex_8e157_9 : mchk MJ3_checkIndex_8e157 9 bJ3_checkIndex_8e157_9 12 = true := by decide +kernel
def bJ3_checkIndex_8e157_16 : List mB := [(.iload_n 0, mI 0)]
theorem kJ3_checkIndex_8e157_16 : mchk MJ3_checkIndex_8e157 16 bJ3_checkIndex_8e157_16 17 = true := by decide +kernel
theorem tJ3_checkIndex_8e157_17 : mrk MJ3_checkIndex_8e157 17 .ireturn = true := by decide +kernel

theorem dX9_walkBy_73 : decode cX9_walkBy 73 = .ok (.iload 4, 2) := by decide +kernel
theorem dX9_walkBy_75 : decode cX9_walkBy 75 = .ok (.iconst 1, 1) := by decide +kernel
theorem dX9_walkBy_76 : decode cX9_walkBy 76 = .ok (.isub, 1) := by decide +kernel
theorem dX9_walkBy_77 : decode cX9_walkBy 77 = .ok (.iaload, 1) := by decide +kernel
theorem dX9_walkBy_78 : decode cX9_walkBy 78 = .ok (.iastore, 1) := by decide +kernel
theorem dX9_walkBy_79 : decode cX9_walkBy 79 = .ok (.iinc 4 1, 3) := by decide +kernel
theorem dX9_walkBy_82 : decode cX9_walkBy 82 = .ok (.goto (-54), 3) := by decide +kernel
theorem dX9_walkBy_85 : decode cX9_walkBy 85 = .ok (.iload_n 2, 1) := by decide +kernel
theorem dX9_walkBy_86 : decode cX9_walkBy 86 = .ok (.iconst 1, 1) := by decide +kernel
theorem dX9_walkBy_87 : decode cX9_walkBy 87 = .ok (.if_icmp .le 35, 3) := by decide +kernel
theorem dX9_walkBy_90 : decode cX9_walkBy 90 = .ok (.aload_n 3, 1) := by decide +kernel
theorem dX9_walkBy_91 : decode cX9_walkBy 91 = .ok (.iload_n 2, 1) := by decide +kernel
theorem dX9_walkBy_92 : decode cX9_walkBy 92 = .ok (.iconst 1, 1) := by decide +kernel
theorem dX9_walkBy_93 : decode cX9_walkBy 93 = .ok (.isub, 1) := by decide +kernel
theorem dX9_walkBy_94 : decode cX9_walkBy 94 = .ok (.iaload, 1) := by decide +kernel
theorem dX9_walkBy_95 : decode cX9_walkBy 95 = .ok (.aload_n 3, 1) := by decide +kernel
theorem dX9_walkBy_96 : decode cX9_walkBy 96 = .ok (.iconst 0, 1) := by decide +kernel
theorem dX9_walkBy_97 : decode cX9_walkBy 97 = .ok (.iaload, 1) := by decide +kernel
theorem dX9_walkBy_98 : decode cX9_walkBy 98 = .ok (.if_icmp .eq 24, 3) := by decide +kernel
theorem dX9_walkBy_101 : decode cX9_walkBy 101 = .ok (.aload_n 0, 1) := by decide +kernel
theorem dX9_walkBy_102 : decode cX9_walkBy 102 = .ok (.aload_n 3, 1) := by decide +kernel
theorem dX9_walkBy_103 : decode cX9_walkBy 103 = .ok (.iload_n 2, 1) := by decide +kernel
theorem dX9_walkBy_104 : decode cX9_walkBy 104 = .ok (.iconst 1, 1) := by decide +kernel
theorem dX9_walkBy_105 : decode cX9_walkBy 105 = .ok (.isub, 1) := by decide +kernel
theorem dX9_walkBy_106 : decode cX9_walkBy 106 = .ok (.iaload, 1) := by decide +kernel
theorem dX9_walkBy_107 : decode cX9_walkBy 107 = .ok (.aload_n 3, 1) := by decide +kernel
theorem dX9_walkBy_108 : decode cX9_walkBy 108 = .ok (.iconst 0, 1) := by decide +kernel
theorem dX9_walkBy_109 : decode cX9_walkBy 109 = .ok (.iaload, 1) := by decide +kernel
theorem dX9_walkBy_110 : decode cX9_walkBy 110 = .ok (.invokevirtual 87, 3) := by decide +kernel
theorem dX9_walkBy_113 : decode cX9_walkBy 113 = .ok (.ifCond .ne 9, 3) := by decide +kernel
theorem dX9_walkBy_116 : decode cX9_walkBy 116 = .ok (.iinc 2 (-1), 3) := by decide +kernel
theorem dX9_walkBy_119 : decode cX9_walkBy 119 = .ok (.goto (-34), 3) := by decide +kernel
theorem dX9_walkBy_122 : decode cX9_walkBy 122 = .ok (.iload_n 2, 1) := by decide +kernel
theorem dX9_walkBy_123 : decode cX9_walkBy 123 = .ok (.newarray .int, 2) := by decide +kernel
theorem dX9_walkBy_125 : decode cX9_walkBy 125 = .ok (.astore 4, 2) := by decide +kernel
theorem dX9_walkBy_127 : decode cX9_walkBy 127 = .ok (.iconst 0, 1) := by decide +kernel
theorem dX9_walkBy_128 : decode cX9_walkBy 128 = .ok (.istore 5, 2) := by decide +kernel
theorem dX9_walkBy_130 : decode cX9_walkBy 130 = .ok (.iload 5, 2) := by decide +kernel
theorem dX9_walkBy_132 : decode cX9_walkBy 132 = .ok (.iload_n 2, 1) := by decide +kernel
theorem dX9_walkBy_133 : decode cX9_walkBy 133 = .ok (.if_icmp .ge 18, 3) := by decide +kernel
theorem dX9_walkBy_136 : decode cX9_walkBy 136 = .ok (.aload 4, 2) := by decide +kernel
theorem dX9_walkBy_138 : decode cX9_walkBy 138 = .ok (.iload 5, 2) := by decide +kernel
theorem dX9_walkBy_140 : decode cX9_walkBy 140 = .ok (.aload_n 3, 1) := by decide +kernel
theorem dX9_walkBy_141 : decode cX9_walkBy 141 = .ok (.iload 5, 2) := by decide +kernel
theorem dX9_walkBy_143 : decode cX9_walkBy 143 = .ok (.iaload, 1) := by decide +kernel
theorem dX9_walkBy_144 : decode cX9_walkBy 144 = .ok (.iastore, 1) := by decide +kernel
theorem dX9_walkBy_145 : decode cX9_walkBy 145 = .ok (.iinc 5 1, 3) := by decide +kernel
theorem dX9_walkBy_148 : decode cX9_walkBy 148 = .ok (.goto (-18), 3) := by decide +kernel
theorem dX9_walkBy_151 : decode cX9_walkBy 151 = .ok (.aload 4, 2) := by decide +kernel
theorem dX9_walkBy_153 : decode cX9_walkBy 153 = .ok (.areturn, 1) := by decide +kernel
theorem dJ6_bitCount_0f7a4_0 : decode cJ6_bitCount_0f7a4 0 = .ok (.iload_n 0, 1) := by decide +kernel
theorem dJ6_bitCount_0f7a4_1 : decode cJ6_bitCount_0f7a4 1 = .ok (.iload_n 0, 1) := by decide +kernel
theorem dJ6_bitCount_0f7a4_2 : decode cJ6_bitCount_0f7a4 2 = .ok (.iconst 1, 1) := by decide +kernel
theorem dJ6_bitCount_0f7a4_3 : decode cJ6_bitCount_0f7a4 3 = .ok (.iushr, 1) := by decide +kernel
theorem dJ6_bitCount_0f7a4_4 : decode cJ6_bitCount_0f7a4 4 = .ok (.ldc_w 265, 3) := by decide +kernel
theorem dJ6_bitCount_0f7a4_7 : decode cJ6_bitCount_0f7a4 7 = .ok (.iand, 1) := by decide +kernel
theorem dJ6_bitCount_0f7a4_8 : decode cJ6_bitCount_0f7a4 8 = .ok (.isub, 1) := by decide +kernel
theorem dJ6_bitCount_0f7a4_9 : decode cJ6_bitCount_0f7a4 9 = .ok (.istore_n 0, 1) := by decide +kernel
theorem dJ6_bitCount_0f7a4_10 : decode cJ6_bitCount_0f7a4 10 = .ok (.iload_n 0, 1) := by decide +kernel
theorem dJ6_bitCount_0f7a4_11 : decode cJ6_bitCount_0f7a4 11 = .ok (.ldc_w 266, 3) := by decide +kernel
theorem dJ6_bitCount_0f7a4_14 : decode cJ6_bitCount_0f7a4 14 = .ok (.iand, 1) := by decide +kernel
theorem dJ6_bitCount_0f7a4_15 : decode cJ6_bitCount_0f7a4 15 = .ok (.iload_n 0, 1) := by decide +kernel
theorem dJ6_bitCount_0f7a4_16 : decode cJ6_bitCount_0f7a4 16 = .ok (.iconst 2, 1) := by decide +kernel
theorem dJ6_bitCount_0f7a4_17 : decode cJ6_bitCount_0f7a4 17 = .ok (.iushr, 1) := by decide +kernel
theorem dJ6_bitCount_0f7a4_18 : decode cJ6_bitCount_0f7a4 18 = .ok (.ldc_w 266, 3) := by decide +kernel
theorem dJ6_bitCount_0f7a4_21 : decode cJ6_bitCount_0f7a4 21 = .ok (.iand, 1) := by decide +kernel
theorem dJ6_bitCount_0f7a4_22 : decode cJ6_bitCount_0f7a4 22 = .ok (.iadd, 1) := by decide +kernel
theorem dJ6_bitCount_0f7a4_23 : decode cJ6_bitCount_0f7a4 23 = .ok (.istore_n 0, 1) := by decide +kernel
theorem dJ6_bitCount_0f7a4_24 : decode cJ6_bitCount_0f7a4 24 = .ok (.iload_n 0, 1) := by decide +kernel
theorem dJ6_bitCount_0f7a4_25 : decode cJ6_bitCount_0f7a4 25 = .ok (.iload_n 0, 1) := by decide +kernel
theorem dJ6_bitCount_0f7a4_26 : decode cJ6_bitCount_0f7a4 26 = .ok (.iconst 4, 1) := by decide +kernel
theorem dJ6_bitCount_0f7a4_27 : decode cJ6_bitCount_0f7a4 27 = .ok (.iushr, 1) := by decide +kernel
theorem dJ6_bitCount_0f7a4_28 : decode cJ6_bitCount_0f7a4 28 = .ok (.iadd, 1) := by decide +kernel
theorem dJ6_bitCount_0f7a4_29 : decode cJ6_bitCount_0f7a4 29 = .ok (.ldc_w 267, 3) := by decide +kernel
theorem dJ6_bitCount_0f7a4_32 : decode cJ6_bitCount_0f7a4 32 = .ok (.iand, 1) := by decide +kernel
theorem dJ6_bitCount_0f7a4_33 : decode cJ6_bitCount_0f7a4 33 = .ok (.istore_n 0, 1) := by decide +kernel
theorem dJ6_bitCount_0f7a4_34 : decode cJ6_bitCount_0f7a4 34 = .ok (.iload_n 0, 1) := by decide +kernel
theorem dJ6_bitCount_0f7a4_35 : decode cJ6_bitCount_0f7a4 35 = .ok (.iload_n 0, 1) := by decide +kernel
theorem dJ6_bitCount_0f7a4_36 : decode cJ6_bitCount_0f7a4 36 = .ok (.bipush 8, 2) := by decide +kernel
theorem dJ6_bitCount_0f7a4_38 : decode cJ6_bitCount_0f7a4 38 = .ok (.iushr, 1) := by decide +kernel
theorem dJ6_bitCount_0f7a4_39 : decode cJ6_bitCount_0f7a4 39 = .ok (.iadd, 1) := by decide +kernel
theorem dJ6_bitCount_0f7a4_40 : decode cJ6_bitCount_0f7a4 40 = .ok (.istore_n 0, 1) := by decide +kernel
theorem dJ6_bitCount_0f7a4_41 : decode cJ6_bitCount_0f7a4 41 = .ok (.iload_n 0, 1) := by decide +kernel
theorem dJ6_bitCount_0f7a4_42 : decode cJ6_bitCount_0f7a4 42 = .ok (.iload_n 0, 1) := by decide +kernel
theorem dJ6_bitCount_0f7a4_43 : decode cJ6_bitCount_0f7a4 43 = .ok (.bipush 16, 2) := by decide +kernel
theorem dJ6_bitCount_0f7a4_45 : decode cJ6_bitCount_0f7a4 45 = .ok (.iushr, 1) := by decide +kernel
theorem dJ6_bitCount_0f7a4_46 : decode cJ6_bitCount_0f7a4 46 = .ok (.iadd, 1) := by decide +kernel
theorem dJ6_bitCount_0f7a4_47 : decode cJ6_bitCount_0f7a4 47 = .ok (.istore_n 0, 1) := by decide +kernel
theorem dJ6_bitCount_0f7a4_48 : decode cJ6_bitCount_0f7a4 48 = .ok (.iload_n 0, 1) := by decide +kernel
theorem dJ6_bitCount_0f7a4_49 : decode cJ6_bitCount_0f7a4 49 = .ok (.bipush 63, 2) := by decide +kernel
theorem dJ6_bitCount_0f7a4_51 : decode cJ6_bitCount_0f7a4 51 = .ok (.iand, 1) := by decide +kernel
theorem dJ6_bitCount_0f7a4_52 : decode cJ6_bitCount_0f7a4 52 = .ok (.ireturn, 1) := by decide +kernel
theorem dJ9_max_7cf53_0 : decode cJ9_max_7cf53 0 = .ok (.iload_n 0, 1) := by decide +kernel
theorem dJ9_max_7cf53_1 : decode cJ9_max_7cf53 1 = .ok (.iload_n 1, 1) := by decide +kernel
theorem dJ9_max_7cf53_2 : decode cJ9_max_7cf53 2 = .ok (.if_icmp .lt 7, 3) := by decide +kernel
theorem dJ9_max_7cf53_5 : decode cJ9_max_7cf53 5 = .ok (.iload_n 0, 1) := by decide +kernel
theorem dJ9_max_7cf53_6 : decode cJ9_max_7cf53 6 = .ok (.goto 4, 3) := by decide +kernel
theorem dJ9_max_7cf53_9 : decode cJ9_max_7cf53 9 = .ok (.iload_n 1, 1) := by decide +kernel
theorem dJ9_max_7cf53_10 : decode cJ9_max_7cf53 10 = .ok (.ireturn, 1) := by decide +kernel
theorem dJ9_min_7cf53_0 : decode cJ9_min_7cf53 0 = .ok (.iload_n 0, 1) := by decide +kernel
theorem dJ9_min_7cf53_1 : decode cJ9_min_7cf53 1 = .ok (.iload_n 1, 1) := by decide +kernel
theorem dJ9_min_7cf53_2 : decode cJ9_min_7cf53 2 = .ok (.if_icmp .gt 7, 3) := by decide +kernel
theorem dJ9_min_7cf53_5 : decode cJ9_min_7cf53 5 = .ok (.iload_n 0, 1) := by decide +kernel
theorem dJ9_min_7cf53_6 : decode cJ9_min_7cf53 6 = .ok (.goto 4, 3) := by decide +kernel
theorem dJ9_min_7cf53_9 : decode cJ9_min_7cf53 9 = .ok (.iload_n 1, 1) := by decide +kernel
theorem dJ9_min_7cf53_10 : decode cJ9_min_7cf53 10 = .ok (.ireturn, 1) := by decide +kernel
set_option maxRecDepth 20000 in
theorem ggJ0_length_8abf5_J0_coder_7d493 : GoodIn wsJ0_length_8abf5 wsJ0_coder_7d493 := goodIn_r _ [6, 7, 8] (by decide +kernel) (by decide +kernel)
set_option maxRecDepth 20000 in
theorem gJ0_length_8abf5_J0_coder_7d493 : GoodIn wsJ0_length_8abf5 (wsV RJ0 335 RJ0 yJ0_coder_7d493 wsJ0_coder_7d493) := goodIn_app (goodIn_of _ (by decide +kernel)) ggJ0_length_8abf5_J0_coder_7d493
theorem dJ0_length_8abf5_0 : decode cJ0_length_8abf5 0 = .ok (.aload_n 0, 1) := by decide +kernel
theorem dJ0_length_8abf5_1 : decode cJ0_length_8abf5 1 = .ok (.getfield 9, 3) := by decide +kernel
theorem dJ0_length_8abf5_4 : decode cJ0_length_8abf5 4 = .ok (.arraylength, 1) := by decide +kernel
theorem dJ0_length_8abf5_5 : decode cJ0_length_8abf5 5 = .ok (.aload_n 0, 1) := by decide +kernel
theorem dJ0_length_8abf5_6 : decode cJ0_length_8abf5 6 = .ok (.invokevirtual 335, 3) := by decide +kernel
theorem dJ0_length_8abf5_9 : decode cJ0_length_8abf5 9 = .ok (.ishr, 1) := by decide +kernel
theorem dJ0_length_8abf5_10 : decode cJ0_length_8abf5 10 = .ok (.ireturn, 1) := by decide +kernel
set_option maxRecDepth 20000 in
theorem ggJ0_charAt_5068e_J0_isLatin1_aae02 : GoodIn wsJ0_charAt_5068e wsJ0_isLatin1_aae02 := goodIn_r _ [6, 7, 8] (by decide +kernel) (by decide +kernel)
set_option maxRecDepth 20000 in
theorem gJ0_charAt_5068e_J0_isLatin1_aae02 : GoodIn wsJ0_charAt_5068e (wsV RJ0 492 RJ0 yJ0_isLatin1_aae02 wsJ0_isLatin1_aae02) := goodIn_app (goodIn_of _ (by decide +kernel)) ggJ0_charAt_5068e_J0_isLatin1_aae02
set_option maxRecDepth 20000 in
theorem ggJ0_charAt_5068e_J1_charAt_3b067 : GoodIn wsJ0_charAt_5068e wsJ1_charAt_3b067 := goodIn_r _ [12, 13, 14, 5, 15, 16, 17, 18, 19, 20] (by decide +kernel) (by decide +kernel)
set_option maxRecDepth 20000 in
theorem gJ0_charAt_5068e_J1_charAt_3b067 : GoodIn wsJ0_charAt_5068e (va_wsS RJ0 495 yJ1_charAt_3b067 wsJ1_charAt_3b067) := goodIn_app (goodIn_of _ (by decide +kernel)) ggJ0_charAt_5068e_J1_charAt_3b067
set_option maxRecDepth 20000 in
theorem ggJ0_charAt_5068e_J2_charAt_3b067 : GoodIn wsJ0_charAt_5068e wsJ2_charAt_3b067 := goodIn_r _ [24, 25, 26, 23, 27, 28, 29, 30, 31, 14, 5, 15, 16, 17, 18, 19, 20, 32, 33, 34, 35, 36, 37] (by decide +kernel) (by decide +kernel)
set_option maxRecDepth 20000 in
theorem gJ0_charAt_5068e_J2_charAt_3b067 : GoodIn wsJ0_charAt_5068e (va_wsS RJ0 498 yJ2_charAt_3b067 wsJ2_charAt_3b067) := goodIn_app (goodIn_of _ (by decide +kernel)) ggJ0_charAt_5068e_J2_charAt_3b067
theorem dJ0_charAt_5068e_0 : decode cJ0_charAt_5068e 0 = .ok (.aload_n 0, 1) := by decide +kernel
theorem dJ0_charAt_5068e_1 : decode cJ0_charAt_5068e 1 = .ok (.invokevirtual 492, 3) := by decide +kernel
theorem dJ0_charAt_5068e_4 : decode cJ0_charAt_5068e 4 = .ok (.ifCond .eq 12, 3) := by decide +kernel
theorem dJ0_charAt_5068e_7 : decode cJ0_charAt_5068e 7 = .ok (.aload_n 0, 1) := by decide +kernel
theorem dJ0_charAt_5068e_8 : decode cJ0_charAt_5068e 8 = .ok (.getfield 9, 3) := by decide +kernel
theorem dJ0_charAt_5068e_11 : decode cJ0_charAt_5068e 11 = .ok (.iload_n 1, 1) := by decide +kernel
theorem dJ0_charAt_5068e_12 : decode cJ0_charAt_5068e 12 = .ok (.invokestatic 495, 3) := by decide +kernel
theorem dJ0_charAt_5068e_15 : decode cJ0_charAt_5068e 15 = .ok (.ireturn, 1) := by decide +kernel
theorem dJ0_charAt_5068e_16 : decode cJ0_charAt_5068e 16 = .ok (.aload_n 0, 1) := by decide +kernel
theorem dJ0_charAt_5068e_17 : decode cJ0_charAt_5068e 17 = .ok (.getfield 9, 3) := by decide +kernel
theorem dJ0_charAt_5068e_20 : decode cJ0_charAt_5068e 20 = .ok (.iload_n 1, 1) := by decide +kernel
theorem dJ0_charAt_5068e_21 : decode cJ0_charAt_5068e 21 = .ok (.invokestatic 498, 3) := by decide +kernel
theorem dJ0_charAt_5068e_24 : decode cJ0_charAt_5068e 24 = .ok (.ireturn, 1) := by decide +kernel
theorem dJ0_coder_7d493_0 : decode cJ0_coder_7d493 0 = .ok (.getstatic 38, 3) := by decide +kernel
theorem dJ0_coder_7d493_3 : decode cJ0_coder_7d493 3 = .ok (.ifCond .eq 10, 3) := by decide +kernel
theorem dJ0_coder_7d493_6 : decode cJ0_coder_7d493 6 = .ok (.aload_n 0, 1) := by decide +kernel
theorem dJ0_coder_7d493_7 : decode cJ0_coder_7d493 7 = .ok (.getfield 15, 3) := by decide +kernel
theorem dJ0_coder_7d493_10 : decode cJ0_coder_7d493 10 = .ok (.goto 4, 3) := by decide +kernel
theorem dJ0_coder_7d493_13 : decode cJ0_coder_7d493 13 = .ok (.iconst 1, 1) := by decide +kernel
theorem dJ0_coder_7d493_14 : decode cJ0_coder_7d493 14 = .ok (.ireturn, 1) := by decide +kernel
theorem dJ0_isLatin1_aae02_0 : decode cJ0_isLatin1_aae02 0 = .ok (.getstatic 38, 3) := by decide +kernel
theorem dJ0_isLatin1_aae02_3 : decode cJ0_isLatin1_aae02 3 = .ok (.ifCond .eq 14, 3) := by decide +kernel
theorem dJ0_isLatin1_aae02_6 : decode cJ0_isLatin1_aae02 6 = .ok (.aload_n 0, 1) := by decide +kernel
theorem dJ0_isLatin1_aae02_7 : decode cJ0_isLatin1_aae02 7 = .ok (.getfield 15, 3) := by decide +kernel
theorem dJ0_isLatin1_aae02_10 : decode cJ0_isLatin1_aae02 10 = .ok (.ifCond .ne 7, 3) := by decide +kernel
theorem dJ0_isLatin1_aae02_13 : decode cJ0_isLatin1_aae02 13 = .ok (.iconst 1, 1) := by decide +kernel
theorem dJ0_isLatin1_aae02_14 : decode cJ0_isLatin1_aae02 14 = .ok (.goto 4, 3) := by decide +kernel
theorem dJ0_isLatin1_aae02_17 : decode cJ0_isLatin1_aae02 17 = .ok (.iconst 0, 1) := by decide +kernel
theorem dJ0_isLatin1_aae02_18 : decode cJ0_isLatin1_aae02 18 = .ok (.ireturn, 1) := by decide +kernel
set_option maxRecDepth 20000 in
theorem ggJ0_checkIndex_df160_J3_checkIndex_8e157 : GoodIn wsJ0_checkIndex_df160 wsJ3_checkIndex_8e157 := goodIn_r _ [5] (by decide +kernel) (by decide +kernel)
set_option maxRecDepth 20000 in
theorem gJ0_checkIndex_df160_J3_checkIndex_8e157 : GoodIn wsJ0_checkIndex_df160 (va_wsS RJ0 1059 yJ3_checkIndex_8e157 wsJ3_checkIndex_8e157) := goodIn_app (goodIn_of _ (by decide +kernel)) ggJ0_checkIndex_df160_J3_checkIndex_8e157
theorem dJ0_checkIndex_df160_0 : decode cJ0_checkIndex_df160 0 = .ok (.iload_n 0, 1) := by decide +kernel
theorem dJ0_checkIndex_df160_1 : decode cJ0_checkIndex_df160 1 = .ok (.iload_n 1, 1) := by decide +kernel
theorem dJ0_checkIndex_df160_2 : decode cJ0_checkIndex_df160 2 = .ok (.getstatic 1053, 3) := by decide +kernel
theorem dJ0_checkIndex_df160_5 : decode cJ0_checkIndex_df160 5 = .ok (.invokestatic 1059, 3) := by decide +kernel
theorem dJ0_checkIndex_df160_8 : decode cJ0_checkIndex_df160 8 = .ok (.pop, 1) := by decide +kernel
theorem dJ0_checkIndex_df160_9 : decode cJ0_checkIndex_df160 9 = .ok (.return_, 1) := by decide +kernel
set_option maxRecDepth 20000 in
theorem ggJ1_charAt_3b067_J0_checkIndex_df160 : GoodIn wsJ1_charAt_3b067 wsJ0_checkIndex_df160 := goodIn_r _ [4, 5, 6, 7, 8, 9] (by decide +kernel) (by decide +kernel)
set_option maxRecDepth 20000 in
theorem gJ1_charAt_3b067_J0_checkIndex_df160 : GoodIn wsJ1_charAt_3b067 (va_wsS RJ1 9 yJ0_checkIndex_df160 wsJ0_checkIndex_df160) := goodIn_app (goodIn_of _ (by decide +kernel)) ggJ1_charAt_3b067_J0_checkIndex_df160
theorem dJ1_charAt_3b067_0 : decode cJ1_charAt_3b067 0 = .ok (.iload_n 1, 1) := by decide +kernel
theorem dJ1_charAt_3b067_1 : decode cJ1_charAt_3b067 1 = .ok (.aload_n 0, 1) := by decide +kernel
theorem dJ1_charAt_3b067_2 : decode cJ1_charAt_3b067 2 = .ok (.arraylength, 1) := by decide +kernel
theorem dJ1_charAt_3b067_3 : decode cJ1_charAt_3b067 3 = .ok (.invokestatic 9, 3) := by decide +kernel
theorem dJ1_charAt_3b067_6 : decode cJ1_charAt_3b067 6 = .ok (.aload_n 0, 1) := by decide +kernel
theorem dJ1_charAt_3b067_7 : decode cJ1_charAt_3b067 7 = .ok (.iload_n 1, 1) := by decide +kernel
theorem dJ1_charAt_3b067_8 : decode cJ1_charAt_3b067 8 = .ok (.baload, 1) := by decide +kernel
theorem dJ1_charAt_3b067_9 : decode cJ1_charAt_3b067 9 = .ok (.sipush 255, 3) := by decide +kernel
theorem dJ1_charAt_3b067_12 : decode cJ1_charAt_3b067 12 = .ok (.iand, 1) := by decide +kernel
theorem dJ1_charAt_3b067_13 : decode cJ1_charAt_3b067 13 = .ok (.i2c, 1) := by decide +kernel
theorem dJ1_charAt_3b067_14 : decode cJ1_charAt_3b067 14 = .ok (.ireturn, 1) := by decide +kernel
set_option maxRecDepth 20000 in
theorem ggJ2_getChar_3b067_J2_length_9d52b : GoodIn wsJ2_getChar_3b067 wsJ2_length_9d52b := goodIn_r _ [7] (by decide +kernel) (by decide +kernel)
set_option maxRecDepth 20000 in
theorem gJ2_getChar_3b067_J2_length_9d52b : GoodIn wsJ2_getChar_3b067 (va_wsS RJ2 48 yJ2_length_9d52b wsJ2_length_9d52b) := goodIn_app (goodIn_of _ (by decide +kernel)) ggJ2_getChar_3b067_J2_length_9d52b
theorem dJ2_getChar_3b067_0 : decode cJ2_getChar_3b067 0 = .ok (.getstatic 44, 3) := by decide +kernel
theorem dJ2_getChar_3b067_3 : decode cJ2_getChar_3b067 3 = .ok (.ifCond .ne 25, 3) := by decide +kernel
theorem dJ2_getChar_3b067_6 : decode cJ2_getChar_3b067 6 = .ok (.iload_n 1, 1) := by decide +kernel
theorem dJ2_getChar_3b067_7 : decode cJ2_getChar_3b067 7 = .ok (.ifCond .lt 11, 3) := by decide +kernel
theorem dJ2_getChar_3b067_10 : decode cJ2_getChar_3b067 10 = .ok (.iload_n 1, 1) := by decide +kernel
theorem dJ2_getChar_3b067_11 : decode cJ2_getChar_3b067 11 = .ok (.aload_n 0, 1) := by decide +kernel
theorem dJ2_getChar_3b067_12 : decode cJ2_getChar_3b067 12 = .ok (.invokestatic 48, 3) := by decide +kernel
theorem dJ2_getChar_3b067_15 : decode cJ2_getChar_3b067 15 = .ok (.if_icmp .lt 13, 3) := by decide +kernel
theorem dJ2_getChar_3b067_18 : decode cJ2_getChar_3b067 18 = .ok (.new 52, 3) := by decide +kernel
theorem dJ2_getChar_3b067_21 : decode cJ2_getChar_3b067 21 = .ok (.dup, 1) := by decide +kernel
theorem dJ2_getChar_3b067_22 : decode cJ2_getChar_3b067 22 = .ok (.ldc 54, 2) := by decide +kernel
theorem dJ2_getChar_3b067_24 : decode cJ2_getChar_3b067 24 = .ok (.invokespecial 56, 3) := by decide +kernel
theorem dJ2_getChar_3b067_27 : decode cJ2_getChar_3b067 27 = .ok (.athrow, 1) := by decide +kernel
theorem dJ2_getChar_3b067_28 : decode cJ2_getChar_3b067 28 = .ok (.iload_n 1, 1) := by decide +kernel
theorem dJ2_getChar_3b067_29 : decode cJ2_getChar_3b067 29 = .ok (.iconst 1, 1) := by decide +kernel
theorem dJ2_getChar_3b067_30 : decode cJ2_getChar_3b067 30 = .ok (.ishl, 1) := by decide +kernel
theorem dJ2_getChar_3b067_31 : decode cJ2_getChar_3b067 31 = .ok (.istore_n 1, 1) := by decide +kernel
theorem dJ2_getChar_3b067_32 : decode cJ2_getChar_3b067 32 = .ok (.aload_n 0, 1) := by decide +kernel
theorem dJ2_getChar_3b067_33 : decode cJ2_getChar_3b067 33 = .ok (.iload_n 1, 1) := by decide +kernel
theorem dJ2_getChar_3b067_34 : decode cJ2_getChar_3b067 34 = .ok (.iinc 1 1, 3) := by decide +kernel
theorem dJ2_getChar_3b067_37 : decode cJ2_getChar_3b067 37 = .ok (.baload, 1) := by decide +kernel
theorem dJ2_getChar_3b067_38 : decode cJ2_getChar_3b067 38 = .ok (.sipush 255, 3) := by decide +kernel
theorem dJ2_getChar_3b067_41 : decode cJ2_getChar_3b067 41 = .ok (.iand, 1) := by decide +kernel
theorem dJ2_getChar_3b067_42 : decode cJ2_getChar_3b067 42 = .ok (.getstatic 59, 3) := by decide +kernel
theorem dJ2_getChar_3b067_45 : decode cJ2_getChar_3b067 45 = .ok (.ishl, 1) := by decide +kernel
theorem dJ2_getChar_3b067_46 : decode cJ2_getChar_3b067 46 = .ok (.aload_n 0, 1) := by decide +kernel
theorem dJ2_getChar_3b067_47 : decode cJ2_getChar_3b067 47 = .ok (.iload_n 1, 1) := by decide +kernel
theorem dJ2_getChar_3b067_48 : decode cJ2_getChar_3b067 48 = .ok (.baload, 1) := by decide +kernel
theorem dJ2_getChar_3b067_49 : decode cJ2_getChar_3b067 49 = .ok (.sipush 255, 3) := by decide +kernel
theorem dJ2_getChar_3b067_52 : decode cJ2_getChar_3b067 52 = .ok (.iand, 1) := by decide +kernel
theorem dJ2_getChar_3b067_53 : decode cJ2_getChar_3b067 53 = .ok (.getstatic 63, 3) := by decide +kernel
theorem dJ2_getChar_3b067_56 : decode cJ2_getChar_3b067 56 = .ok (.ishl, 1) := by decide +kernel
theorem dJ2_getChar_3b067_57 : decode cJ2_getChar_3b067 57 = .ok (.ior, 1) := by decide +kernel
theorem dJ2_getChar_3b067_58 : decode cJ2_getChar_3b067 58 = .ok (.i2c, 1) := by decide +kernel
theorem dJ2_getChar_3b067_59 : decode cJ2_getChar_3b067 59 = .ok (.ireturn, 1) := by decide +kernel
theorem dJ2_length_9d52b_0 : decode cJ2_length_9d52b 0 = .ok (.aload_n 0, 1) := by decide +kernel
theorem dJ2_length_9d52b_1 : decode cJ2_length_9d52b 1 = .ok (.arraylength, 1) := by decide +kernel
theorem dJ2_length_9d52b_2 : decode cJ2_length_9d52b 2 = .ok (.iconst 1, 1) := by decide +kernel
theorem dJ2_length_9d52b_3 : decode cJ2_length_9d52b 3 = .ok (.ishr, 1) := by decide +kernel
theorem dJ2_length_9d52b_4 : decode cJ2_length_9d52b 4 = .ok (.ireturn, 1) := by decide +kernel
set_option maxRecDepth 20000 in
theorem ggJ2_charAt_3b067_J2_checkIndex_2214a : GoodIn wsJ2_charAt_3b067 wsJ2_checkIndex_2214a := goodIn_r _ [4, 5, 6, 3, 7, 8, 9, 10, 11, 12, 13, 14, 15, 16] (by decide +kernel) (by decide +kernel)
set_option maxRecDepth 20000 in
theorem gJ2_charAt_3b067_J2_checkIndex_2214a : GoodIn wsJ2_charAt_3b067 (va_wsS RJ2 67 yJ2_checkIndex_2214a wsJ2_checkIndex_2214a) := goodIn_app (goodIn_of _ (by decide +kernel)) ggJ2_charAt_3b067_J2_checkIndex_2214a
set_option maxRecDepth 20000 in
theorem ggJ2_charAt_3b067_J2_getChar_3b067 : GoodIn wsJ2_charAt_3b067 wsJ2_getChar_3b067 := goodIn_r _ [19, 20, 21, 22, 5, 6, 3, 7] (by decide +kernel) (by decide +kernel)
set_option maxRecDepth 20000 in
theorem gJ2_charAt_3b067_J2_getChar_3b067 : GoodIn wsJ2_charAt_3b067 (va_wsS RJ2 71 yJ2_getChar_3b067 wsJ2_getChar_3b067) := goodIn_app (goodIn_of _ (by decide +kernel)) ggJ2_charAt_3b067_J2_getChar_3b067
theorem dJ2_charAt_3b067_0 : decode cJ2_charAt_3b067 0 = .ok (.iload_n 1, 1) := by decide +kernel
theorem dJ2_charAt_3b067_1 : decode cJ2_charAt_3b067 1 = .ok (.aload_n 0, 1) := by decide +kernel
theorem dJ2_charAt_3b067_2 : decode cJ2_charAt_3b067 2 = .ok (.invokestatic 67, 3) := by decide +kernel
theorem dJ2_charAt_3b067_5 : decode cJ2_charAt_3b067 5 = .ok (.aload_n 0, 1) := by decide +kernel
theorem dJ2_charAt_3b067_6 : decode cJ2_charAt_3b067 6 = .ok (.iload_n 1, 1) := by decide +kernel
theorem dJ2_charAt_3b067_7 : decode cJ2_charAt_3b067 7 = .ok (.invokestatic 71, 3) := by decide +kernel
theorem dJ2_charAt_3b067_10 : decode cJ2_charAt_3b067 10 = .ok (.ireturn, 1) := by decide +kernel
set_option maxRecDepth 20000 in
theorem ggJ2_checkIndex_2214a_J2_length_9d52b : GoodIn wsJ2_checkIndex_2214a wsJ2_length_9d52b := goodIn_r _ [4] (by decide +kernel) (by decide +kernel)
set_option maxRecDepth 20000 in
theorem gJ2_checkIndex_2214a_J2_length_9d52b : GoodIn wsJ2_checkIndex_2214a (va_wsS RJ2 48 yJ2_length_9d52b wsJ2_length_9d52b) := goodIn_app (goodIn_of _ (by decide +kernel)) ggJ2_checkIndex_2214a_J2_length_9d52b
set_option maxRecDepth 20000 in
theorem ggJ2_checkIndex_2214a_J0_checkIndex_df160 : GoodIn wsJ2_checkIndex_2214a wsJ0_checkIndex_df160 := goodIn_r _ [8, 9, 10, 11, 12, 13] (by decide +kernel) (by decide +kernel)
set_option maxRecDepth 20000 in
theorem gJ2_checkIndex_2214a_J0_checkIndex_df160 : GoodIn wsJ2_checkIndex_2214a (va_wsS RJ2 414 yJ0_checkIndex_df160 wsJ0_checkIndex_df160) := goodIn_app (goodIn_of _ (by decide +kernel)) ggJ2_checkIndex_2214a_J0_checkIndex_df160
theorem dJ2_checkIndex_2214a_0 : decode cJ2_checkIndex_2214a 0 = .ok (.iload_n 0, 1) := by decide +kernel
theorem dJ2_checkIndex_2214a_1 : decode cJ2_checkIndex_2214a 1 = .ok (.aload_n 1, 1) := by decide +kernel
theorem dJ2_checkIndex_2214a_2 : decode cJ2_checkIndex_2214a 2 = .ok (.invokestatic 48, 3) := by decide +kernel
theorem dJ2_checkIndex_2214a_5 : decode cJ2_checkIndex_2214a 5 = .ok (.invokestatic 414, 3) := by decide +kernel
theorem dJ2_checkIndex_2214a_8 : decode cJ2_checkIndex_2214a 8 = .ok (.return_, 1) := by decide +kernel
theorem dJ7_fill_53178_0 : decode cJ7_fill_53178 0 = .ok (.iconst 0, 1) := by decide +kernel
theorem dJ7_fill_53178_1 : decode cJ7_fill_53178 1 = .ok (.istore_n 2, 1) := by decide +kernel
theorem dJ7_fill_53178_2 : decode cJ7_fill_53178 2 = .ok (.aload_n 0, 1) := by decide +kernel
theorem dJ7_fill_53178_3 : decode cJ7_fill_53178 3 = .ok (.arraylength, 1) := by decide +kernel
theorem dJ7_fill_53178_4 : decode cJ7_fill_53178 4 = .ok (.istore_n 3, 1) := by decide +kernel
theorem dJ7_fill_53178_5 : decode cJ7_fill_53178 5 = .ok (.iload_n 2, 1) := by decide +kernel
theorem dJ7_fill_53178_6 : decode cJ7_fill_53178 6 = .ok (.iload_n 3, 1) := by decide +kernel
theorem dJ7_fill_53178_7 : decode cJ7_fill_53178 7 = .ok (.if_icmp .ge 13, 3) := by decide +kernel
theorem dJ7_fill_53178_10 : decode cJ7_fill_53178 10 = .ok (.aload_n 0, 1) := by decide +kernel
theorem dJ7_fill_53178_11 : decode cJ7_fill_53178 11 = .ok (.iload_n 2, 1) := by decide +kernel
theorem dJ7_fill_53178_12 : decode cJ7_fill_53178 12 = .ok (.iload_n 1, 1) := by decide +kernel
theorem dJ7_fill_53178_13 : decode cJ7_fill_53178 13 = .ok (.iastore, 1) := by decide +kernel
theorem dJ7_fill_53178_14 : decode cJ7_fill_53178 14 = .ok (.iinc 2 1, 3) := by decide +kernel
theorem dJ7_fill_53178_17 : decode cJ7_fill_53178 17 = .ok (.goto (-12), 3) := by decide +kernel
theorem dJ7_fill_53178_20 : decode cJ7_fill_53178 20 = .ok (.return_, 1) := by decide +kernel
theorem dJ3_checkIndex_8e157_0 : decode cJ3_checkIndex_8e157 0 = .ok (.iload_n 0, 1) := by decide +kernel
theorem dJ3_checkIndex_8e157_1 : decode cJ3_checkIndex_8e157 1 = .ok (.ifCond .lt 8, 3) := by decide +kernel
theorem dJ3_checkIndex_8e157_4 : decode cJ3_checkIndex_8e157 4 = .ok (.iload_n 0, 1) := by decide +kernel
theorem dJ3_checkIndex_8e157_5 : decode cJ3_checkIndex_8e157 5 = .ok (.iload_n 1, 1) := by decide +kernel
theorem dJ3_checkIndex_8e157_6 : decode cJ3_checkIndex_8e157 6 = .ok (.if_icmp .lt 10, 3) := by decide +kernel
theorem dJ3_checkIndex_8e157_9 : decode cJ3_checkIndex_8e157 9 = .ok (.aload_n 2, 1) := by decide +kernel
theorem dJ3_checkIndex_8e157_10 : decode cJ3_checkIndex_8e157 10 = .ok (.iload_n 0, 1) := by decide +kernel
theorem dJ3_checkIndex_8e157_11 : decode cJ3_checkIndex_8e157 11 = .ok (.iload_n 1, 1) := by decide +kernel
theorem dJ3_checkIndex_8e157_12 : decode cJ3_checkIndex_8e157 12 = .ok (.invokestatic 95, 3) := by decide +kernel
theorem dJ3_checkIndex_8e157_15 : decode cJ3_checkIndex_8e157 15 = .ok (.athrow, 1) := by decide +kernel
theorem dJ3_checkIndex_8e157_16 : decode cJ3_checkIndex_8e157 16 = .ok (.iload_n 0, 1) := by decide +kernel
theorem dJ3_checkIndex_8e157_17 : decode cJ3_checkIndex_8e157 17 = .ok (.ireturn, 1) := by decide +kernel
theorem dL_most_0 : decode cL_most 0 = .ok (.iload_n 0, 1) := by decide +kernel
theorem dL_most_1 : decode cL_most 1 = .ok (.ldc 7, 2) := by decide +kernel
theorem dL_most_3 : decode cL_most 3 = .ok (.iand, 1) := by decide +kernel
theorem dL_most_4 : decode cL_most 4 = .ok (.iload_n 1, 1) := by decide +kernel
theorem dL_most_5 : decode cL_most 5 = .ok (.irem, 1) := by decide +kernel
theorem dL_most_6 : decode cL_most 6 = .ok (.ireturn, 1) := by decide +kernel
theorem dL_cell_0 : decode cL_cell 0 = .ok (.iload_n 1, 1) := by decide +kernel
theorem dL_cell_1 : decode cL_cell 1 = .ok (.aload_n 0, 1) := by decide +kernel
theorem dL_cell_2 : decode cL_cell 2 = .ok (.arraylength, 1) := by decide +kernel
theorem dL_cell_3 : decode cL_cell 3 = .ok (.if_icmp .ge 9, 3) := by decide +kernel
theorem dL_cell_6 : decode cL_cell 6 = .ok (.aload_n 0, 1) := by decide +kernel
theorem dL_cell_7 : decode cL_cell 7 = .ok (.iload_n 1, 1) := by decide +kernel
theorem dL_cell_8 : decode cL_cell 8 = .ok (.iaload, 1) := by decide +kernel
theorem dL_cell_9 : decode cL_cell 9 = .ok (.goto 7, 3) := by decide +kernel
theorem dL_cell_12 : decode cL_cell 12 = .ok (.bipush 37, 2) := by decide +kernel
theorem dL_cell_14 : decode cL_cell 14 = .ok (.iload_n 1, 1) := by decide +kernel
theorem dL_cell_15 : decode cL_cell 15 = .ok (.imul, 1) := by decide +kernel
theorem dL_cell_16 : decode cL_cell 16 = .ok (.ireturn, 1) := by decide +kernel
set_option maxRecDepth 20000 in
theorem ggL_add_X8_feed : GoodIn wsL_add wsX8_feed := goodIn_r _ [5, 6, 7, 8, 9, 10, 11, 12, 13, 14, 15, 16, 17, 18, 19, 20, 21, 22, 23, 24, 25, 26, 27, 28, 29, 30, 31, 32, 33, 34, 35] (by decide +kernel) (by decide +kernel)
set_option maxRecDepth 20000 in
theorem gL_add_X8_feed : GoodIn wsL_add (wsV RL 8 RX8 yX8_feed wsX8_feed) := goodIn_app (goodIn_of _ (by decide +kernel)) ggL_add_X8_feed
theorem dL_add_0 : decode cL_add 0 = .ok (.aload_n 1, 1) := by decide +kernel
theorem dL_add_1 : decode cL_add 1 = .ok (.aload_n 1, 1) := by decide +kernel
theorem dL_add_2 : decode cL_add 2 = .ok (.iconst 5, 1) := by decide +kernel
theorem dL_add_3 : decode cL_add 3 = .ok (.iaload, 1) := by decide +kernel
theorem dL_add_4 : decode cL_add 4 = .ok (.bipush 20, 2) := by decide +kernel
theorem dL_add_6 : decode cL_add 6 = .ok (.irem, 1) := by decide +kernel
theorem dL_add_7 : decode cL_add 7 = .ok (.iconst 4, 1) := by decide +kernel
theorem dL_add_8 : decode cL_add 8 = .ok (.idiv, 1) := by decide +kernel
theorem dL_add_9 : decode cL_add 9 = .ok (.dup2, 1) := by decide +kernel
theorem dL_add_10 : decode cL_add 10 = .ok (.iaload, 1) := by decide +kernel
theorem dL_add_11 : decode cL_add 11 = .ok (.iload_n 2, 1) := by decide +kernel
theorem dL_add_12 : decode cL_add 12 = .ok (.bipush 24, 2) := by decide +kernel
theorem dL_add_14 : decode cL_add 14 = .ok (.bipush 8, 2) := by decide +kernel
theorem dL_add_16 : decode cL_add 16 = .ok (.aload_n 1, 1) := by decide +kernel
theorem dL_add_17 : decode cL_add 17 = .ok (.iconst 5, 1) := by decide +kernel
theorem dL_add_18 : decode cL_add 18 = .ok (.iaload, 1) := by decide +kernel
theorem dL_add_19 : decode cL_add 19 = .ok (.iconst 4, 1) := by decide +kernel
theorem dL_add_20 : decode cL_add 20 = .ok (.irem, 1) := by decide +kernel
theorem dL_add_21 : decode cL_add 21 = .ok (.imul, 1) := by decide +kernel
theorem dL_add_22 : decode cL_add 22 = .ok (.isub, 1) := by decide +kernel
theorem dL_add_23 : decode cL_add 23 = .ok (.ishl, 1) := by decide +kernel
theorem dL_add_24 : decode cL_add 24 = .ok (.ior, 1) := by decide +kernel
theorem dL_add_25 : decode cL_add 25 = .ok (.iastore, 1) := by decide +kernel
theorem dL_add_26 : decode cL_add 26 = .ok (.aload_n 1, 1) := by decide +kernel
theorem dL_add_27 : decode cL_add 27 = .ok (.iconst 5, 1) := by decide +kernel
theorem dL_add_28 : decode cL_add 28 = .ok (.dup2, 1) := by decide +kernel
theorem dL_add_29 : decode cL_add 29 = .ok (.iaload, 1) := by decide +kernel
theorem dL_add_30 : decode cL_add 30 = .ok (.iconst 1, 1) := by decide +kernel
theorem dL_add_31 : decode cL_add 31 = .ok (.iadd, 1) := by decide +kernel
theorem dL_add_32 : decode cL_add 32 = .ok (.iastore, 1) := by decide +kernel
theorem dL_add_33 : decode cL_add 33 = .ok (.aload_n 1, 1) := by decide +kernel
theorem dL_add_34 : decode cL_add 34 = .ok (.iconst 5, 1) := by decide +kernel
theorem dL_add_35 : decode cL_add 35 = .ok (.iaload, 1) := by decide +kernel
theorem dL_add_36 : decode cL_add 36 = .ok (.bipush 20, 2) := by decide +kernel
theorem dL_add_38 : decode cL_add 38 = .ok (.irem, 1) := by decide +kernel
theorem dL_add_39 : decode cL_add 39 = .ok (.ifCond .eq 4, 3) := by decide +kernel
theorem dL_add_42 : decode cL_add 42 = .ok (.return_, 1) := by decide +kernel
theorem dL_add_43 : decode cL_add 43 = .ok (.aload_n 0, 1) := by decide +kernel
theorem dL_add_44 : decode cL_add 44 = .ok (.aload_n 1, 1) := by decide +kernel
theorem dL_add_45 : decode cL_add 45 = .ok (.iconst 0, 1) := by decide +kernel
theorem dL_add_46 : decode cL_add 46 = .ok (.iaload, 1) := by decide +kernel
theorem dL_add_47 : decode cL_add 47 = .ok (.aload_n 1, 1) := by decide +kernel
theorem dL_add_48 : decode cL_add 48 = .ok (.iconst 1, 1) := by decide +kernel
theorem dL_add_49 : decode cL_add 49 = .ok (.iaload, 1) := by decide +kernel
theorem dL_add_50 : decode cL_add 50 = .ok (.aload_n 1, 1) := by decide +kernel
theorem dL_add_51 : decode cL_add 51 = .ok (.iconst 2, 1) := by decide +kernel
theorem dL_add_52 : decode cL_add 52 = .ok (.iaload, 1) := by decide +kernel
theorem dL_add_53 : decode cL_add 53 = .ok (.aload_n 1, 1) := by decide +kernel
theorem dL_add_54 : decode cL_add 54 = .ok (.iconst 3, 1) := by decide +kernel
theorem dL_add_55 : decode cL_add 55 = .ok (.iaload, 1) := by decide +kernel
theorem dL_add_56 : decode cL_add 56 = .ok (.aload_n 1, 1) := by decide +kernel
theorem dL_add_57 : decode cL_add 57 = .ok (.iconst 4, 1) := by decide +kernel
theorem dL_add_58 : decode cL_add 58 = .ok (.iaload, 1) := by decide +kernel
theorem dL_add_59 : decode cL_add 59 = .ok (.invokevirtual 8, 3) := by decide +kernel
theorem dL_add_62 : decode cL_add 62 = .ok (.pop, 1) := by decide +kernel
theorem dL_add_63 : decode cL_add 63 = .ok (.iconst 0, 1) := by decide +kernel
theorem dL_add_64 : decode cL_add 64 = .ok (.istore_n 3, 1) := by decide +kernel
theorem dL_add_65 : decode cL_add 65 = .ok (.iload_n 3, 1) := by decide +kernel
theorem dL_add_66 : decode cL_add 66 = .ok (.iconst 5, 1) := by decide +kernel
theorem dL_add_67 : decode cL_add 67 = .ok (.if_icmp .ge 13, 3) := by decide +kernel
theorem dL_add_70 : decode cL_add 70 = .ok (.aload_n 1, 1) := by decide +kernel
theorem dL_add_71 : decode cL_add 71 = .ok (.iload_n 3, 1) := by decide +kernel
theorem dL_add_72 : decode cL_add 72 = .ok (.iconst 0, 1) := by decide +kernel
theorem dL_add_73 : decode cL_add 73 = .ok (.iastore, 1) := by decide +kernel
theorem dL_add_74 : decode cL_add 74 = .ok (.iinc 3 1, 3) := by decide +kernel
theorem dL_add_77 : decode cL_add 77 = .ok (.goto (-12), 3) := by decide +kernel
theorem dL_add_80 : decode cL_add 80 = .ok (.return_, 1) := by decide +kernel
set_option maxRecDepth 20000 in
theorem ggL_number_L_add : GoodIn wsL_number wsL_add := goodIn_r _ [4, 5, 6, 7, 8, 9, 10, 11, 12, 13, 14, 15, 16, 17, 18, 19, 20, 21, 22, 23, 24, 25, 26, 27, 28, 29, 30, 31, 32, 33, 34, 35, 36, 37, 38, 39] (by decide +kernel) (by decide +kernel)
set_option maxRecDepth 20000 in
theorem gL_number_L_add : GoodIn wsL_number (va_wsS RL 14 yL_add wsL_add) := goodIn_app (goodIn_of _ (by decide +kernel)) ggL_number_L_add
theorem dL_number_0 : decode cL_number 0 = .ok (.iconst 1, 1) := by decide +kernel
theorem dL_number_1 : decode cL_number 1 = .ok (.istore_n 3, 1) := by decide +kernel
theorem dL_number_2 : decode cL_number 2 = .ok (.iload_n 3, 1) := by decide +kernel
theorem dL_number_3 : decode cL_number 3 = .ok (.iload_n 2, 1) := by decide +kernel
theorem dL_number_4 : decode cL_number 4 = .ok (.bipush 10, 2) := by decide +kernel
theorem dL_number_6 : decode cL_number 6 = .ok (.idiv, 1) := by decide +kernel
theorem dL_number_7 : decode cL_number 7 = .ok (.if_icmp .gt 11, 3) := by decide +kernel
theorem dL_number_10 : decode cL_number 10 = .ok (.iload_n 3, 1) := by decide +kernel
theorem dL_number_11 : decode cL_number 11 = .ok (.bipush 10, 2) := by decide +kernel
theorem dL_number_13 : decode cL_number 13 = .ok (.imul, 1) := by decide +kernel
theorem dL_number_14 : decode cL_number 14 = .ok (.istore_n 3, 1) := by decide +kernel
theorem dL_number_15 : decode cL_number 15 = .ok (.goto (-13), 3) := by decide +kernel
theorem dL_number_18 : decode cL_number 18 = .ok (.iload_n 3, 1) := by decide +kernel
theorem dL_number_19 : decode cL_number 19 = .ok (.ifCond .le 25, 3) := by decide +kernel
theorem dL_number_22 : decode cL_number 22 = .ok (.aload_n 0, 1) := by decide +kernel
theorem dL_number_23 : decode cL_number 23 = .ok (.aload_n 1, 1) := by decide +kernel
theorem dL_number_24 : decode cL_number 24 = .ok (.bipush 48, 2) := by decide +kernel
theorem dL_number_26 : decode cL_number 26 = .ok (.iload_n 2, 1) := by decide +kernel
theorem dL_number_27 : decode cL_number 27 = .ok (.iload_n 3, 1) := by decide +kernel
theorem dL_number_28 : decode cL_number 28 = .ok (.idiv, 1) := by decide +kernel
theorem dL_number_29 : decode cL_number 29 = .ok (.bipush 10, 2) := by decide +kernel
theorem dL_number_31 : decode cL_number 31 = .ok (.irem, 1) := by decide +kernel
theorem dL_number_32 : decode cL_number 32 = .ok (.iadd, 1) := by decide +kernel
theorem dL_number_33 : decode cL_number 33 = .ok (.invokestatic 14, 3) := by decide +kernel
theorem dL_number_36 : decode cL_number 36 = .ok (.iload_n 3, 1) := by decide +kernel
theorem dL_number_37 : decode cL_number 37 = .ok (.bipush 10, 2) := by decide +kernel
theorem dL_number_39 : decode cL_number 39 = .ok (.idiv, 1) := by decide +kernel
theorem dL_number_40 : decode cL_number 40 = .ok (.istore_n 3, 1) := by decide +kernel
theorem dL_number_41 : decode cL_number 41 = .ok (.goto (-23), 3) := by decide +kernel
theorem dL_number_44 : decode cL_number 44 = .ok (.return_, 1) := by decide +kernel
set_option maxRecDepth 20000 in
theorem ggL_end_L_add : GoodIn wsL_end wsL_add := goodIn_r _ [4, 5, 6, 7, 8, 9, 10, 11, 12, 13, 14, 15, 16, 17, 18, 19, 20, 21, 22, 23, 24, 25, 26, 27, 28, 29, 30, 31, 32, 33, 34, 35, 36, 37, 38, 39] (by decide +kernel) (by decide +kernel)
set_option maxRecDepth 20000 in
theorem gL_end_L_add : GoodIn wsL_end (va_wsS RL 14 yL_add wsL_add) := goodIn_app (goodIn_of _ (by decide +kernel)) ggL_end_L_add
theorem dL_end_0 : decode cL_end 0 = .ok (.aload_n 1, 1) := by decide +kernel
theorem dL_end_1 : decode cL_end 1 = .ok (.iconst 5, 1) := by decide +kernel
theorem dL_end_2 : decode cL_end 2 = .ok (.iaload, 1) := by decide +kernel
theorem dL_end_3 : decode cL_end 3 = .ok (.istore_n 2, 1) := by decide +kernel
theorem dL_end_4 : decode cL_end 4 = .ok (.aload_n 1, 1) := by decide +kernel
theorem dL_end_5 : decode cL_end 5 = .ok (.iconst 5, 1) := by decide +kernel
theorem dL_end_6 : decode cL_end 6 = .ok (.iaload, 1) := by decide +kernel
theorem dL_end_7 : decode cL_end 7 = .ok (.bipush 20, 2) := by decide +kernel
theorem dL_end_9 : decode cL_end 9 = .ok (.irem, 1) := by decide +kernel
theorem dL_end_10 : decode cL_end 10 = .ok (.ifCond .eq 13, 3) := by decide +kernel
theorem dL_end_13 : decode cL_end 13 = .ok (.aload_n 0, 1) := by decide +kernel
theorem dL_end_14 : decode cL_end 14 = .ok (.aload_n 1, 1) := by decide +kernel
theorem dL_end_15 : decode cL_end 15 = .ok (.bipush 32, 2) := by decide +kernel
theorem dL_end_17 : decode cL_end 17 = .ok (.invokestatic 14, 3) := by decide +kernel
theorem dL_end_20 : decode cL_end 20 = .ok (.goto (-16), 3) := by decide +kernel
theorem dL_end_23 : decode cL_end 23 = .ok (.aload_n 1, 1) := by decide +kernel
theorem dL_end_24 : decode cL_end 24 = .ok (.iconst 5, 1) := by decide +kernel
theorem dL_end_25 : decode cL_end 25 = .ok (.iconst 0, 1) := by decide +kernel
theorem dL_end_26 : decode cL_end 26 = .ok (.iastore, 1) := by decide +kernel
theorem dL_end_27 : decode cL_end 27 = .ok (.iload_n 2, 1) := by decide +kernel
theorem dL_end_28 : decode cL_end 28 = .ok (.ireturn, 1) := by decide +kernel
set_option maxRecDepth 20000 in
theorem ggL_drawn_X9_init : GoodIn wsL_drawn wsX9_init := goodIn_r _ [6, 7, 8, 9, 10, 11, 12, 13, 14, 4, 15, 32, 33, 34, 35, 36, 37, 38, 39] (by decide +kernel) (by decide +kernel)
set_option maxRecDepth 20000 in
theorem gL_drawn_X9_init_n22 : GoodIn wsL_drawn (wsX9_init) := ggL_drawn_X9_init
set_option maxRecDepth 20000 in
theorem ggL_drawn_L_cell : GoodIn wsL_drawn wsL_cell := goodIn_r _ [19] (by decide +kernel) (by decide +kernel)
set_option maxRecDepth 20000 in
theorem gL_drawn_L_cell : GoodIn wsL_drawn (va_wsS RL 23 yL_cell wsL_cell) := goodIn_app (goodIn_of _ (by decide +kernel)) ggL_drawn_L_cell
set_option maxRecDepth 20000 in
theorem ggL_drawn_L_most : GoodIn wsL_drawn wsL_most := goodIn_r _ [22, 23] (by decide +kernel) (by decide +kernel)
set_option maxRecDepth 20000 in
theorem gL_drawn_L_most : GoodIn wsL_drawn (va_wsS RL 27 yL_most wsL_most) := goodIn_app (goodIn_of _ (by decide +kernel)) ggL_drawn_L_most
set_option maxRecDepth 20000 in
theorem ggL_drawn_X9_walkBy : GoodIn wsL_drawn wsX9_walkBy := goodIn_r _ [26, 4, 10, 21, 18, 22, 23, 27, 28, 29, 3, 30, 31, 12, 32, 33, 34, 35, 36, 37, 38, 39] (by decide +kernel) (by decide +kernel)
set_option maxRecDepth 20000 in
theorem gL_drawn_X9_walkBy_n48 : GoodIn wsL_drawn (wsX9_walkBy) := ggL_drawn_X9_walkBy
theorem dL_drawn_0 : decode cL_drawn 0 = .ok (.new 20, 3) := by decide +kernel
theorem dL_drawn_3 : decode cL_drawn 3 = .ok (.dup, 1) := by decide +kernel
theorem dL_drawn_4 : decode cL_drawn 4 = .ok (.invokespecial 22, 3) := by decide +kernel
theorem dL_drawn_7 : decode cL_drawn 7 = .ok (.astore_n 2, 1) := by decide +kernel
theorem dL_drawn_8 : decode cL_drawn 8 = .ok (.aload_n 0, 1) := by decide +kernel
theorem dL_drawn_9 : decode cL_drawn 9 = .ok (.iload_n 1, 1) := by decide +kernel
theorem dL_drawn_10 : decode cL_drawn 10 = .ok (.invokestatic 23, 3) := by decide +kernel
theorem dL_drawn_13 : decode cL_drawn 13 = .ok (.istore_n 3, 1) := by decide +kernel
theorem dL_drawn_14 : decode cL_drawn 14 = .ok (.aload_n 2, 1) := by decide +kernel
theorem dL_drawn_15 : decode cL_drawn 15 = .ok (.iconst 1, 1) := by decide +kernel
theorem dL_drawn_16 : decode cL_drawn 16 = .ok (.iload_n 3, 1) := by decide +kernel
theorem dL_drawn_17 : decode cL_drawn 17 = .ok (.bipush 6, 2) := by decide +kernel
theorem dL_drawn_19 : decode cL_drawn 19 = .ok (.invokestatic 27, 3) := by decide +kernel
theorem dL_drawn_22 : decode cL_drawn 22 = .ok (.iadd, 1) := by decide +kernel
theorem dL_drawn_23 : decode cL_drawn 23 = .ok (.putfield 31, 3) := by decide +kernel
theorem dL_drawn_26 : decode cL_drawn 26 = .ok (.iconst 0, 1) := by decide +kernel
theorem dL_drawn_27 : decode cL_drawn 27 = .ok (.istore 4, 2) := by decide +kernel
theorem dL_drawn_29 : decode cL_drawn 29 = .ok (.iload 4, 2) := by decide +kernel
theorem dL_drawn_31 : decode cL_drawn 31 = .ok (.aload_n 2, 1) := by decide +kernel
theorem dL_drawn_32 : decode cL_drawn 32 = .ok (.getfield 31, 3) := by decide +kernel
theorem dL_drawn_35 : decode cL_drawn 35 = .ok (.if_icmp .ge 67, 3) := by decide +kernel
theorem dL_drawn_38 : decode cL_drawn 38 = .ok (.aload_n 2, 1) := by decide +kernel
theorem dL_drawn_39 : decode cL_drawn 39 = .ok (.getfield 35, 3) := by decide +kernel
theorem dL_drawn_42 : decode cL_drawn 42 = .ok (.iload 4, 2) := by decide +kernel
theorem dL_drawn_44 : decode cL_drawn 44 = .ok (.iconst 5, 1) := by decide +kernel
theorem dL_drawn_45 : decode cL_drawn 45 = .ok (.newarray .int, 2) := by decide +kernel
theorem dL_drawn_47 : decode cL_drawn 47 = .ok (.dup, 1) := by decide +kernel
theorem dL_drawn_48 : decode cL_drawn 48 = .ok (.iconst 0, 1) := by decide +kernel
theorem dL_drawn_49 : decode cL_drawn 49 = .ok (.iload_n 3, 1) := by decide +kernel
theorem dL_drawn_50 : decode cL_drawn 50 = .ok (.iconst 3, 1) := by decide +kernel
theorem dL_drawn_51 : decode cL_drawn 51 = .ok (.iload 4, 2) := by decide +kernel
theorem dL_drawn_53 : decode cL_drawn 53 = .ok (.iadd, 1) := by decide +kernel
theorem dL_drawn_54 : decode cL_drawn 54 = .ok (.ishr, 1) := by decide +kernel
theorem dL_drawn_55 : decode cL_drawn 55 = .ok (.iconst 3, 1) := by decide +kernel
theorem dL_drawn_56 : decode cL_drawn 56 = .ok (.invokestatic 27, 3) := by decide +kernel
theorem dL_drawn_59 : decode cL_drawn 59 = .ok (.ifCond .ne 8, 3) := by decide +kernel
theorem dL_drawn_62 : decode cL_drawn 62 = .ok (.bipush 99, 2) := by decide +kernel
theorem dL_drawn_64 : decode cL_drawn 64 = .ok (.goto 14, 3) := by decide +kernel
theorem dL_drawn_67 : decode cL_drawn 67 = .ok (.iload_n 3, 1) := by decide +kernel
theorem dL_drawn_68 : decode cL_drawn 68 = .ok (.iconst 2, 1) := by decide +kernel
theorem dL_drawn_69 : decode cL_drawn 69 = .ok (.iload 4, 2) := by decide +kernel
theorem dL_drawn_71 : decode cL_drawn 71 = .ok (.imul, 1) := by decide +kernel
theorem dL_drawn_72 : decode cL_drawn 72 = .ok (.ishr, 1) := by decide +kernel
theorem dL_drawn_73 : decode cL_drawn 73 = .ok (.bipush 7, 2) := by decide +kernel
theorem dL_drawn_75 : decode cL_drawn 75 = .ok (.invokestatic 27, 3) := by decide +kernel
theorem dL_drawn_78 : decode cL_drawn 78 = .ok (.iastore, 1) := by decide +kernel
theorem dL_drawn_79 : decode cL_drawn 79 = .ok (.dup, 1) := by decide +kernel
theorem dL_drawn_80 : decode cL_drawn 80 = .ok (.iconst 1, 1) := by decide +kernel
theorem dL_drawn_81 : decode cL_drawn 81 = .ok (.iconst 0, 1) := by decide +kernel
theorem dL_drawn_82 : decode cL_drawn 82 = .ok (.iastore, 1) := by decide +kernel
theorem dL_drawn_83 : decode cL_drawn 83 = .ok (.dup, 1) := by decide +kernel
theorem dL_drawn_84 : decode cL_drawn 84 = .ok (.iconst 2, 1) := by decide +kernel
theorem dL_drawn_85 : decode cL_drawn 85 = .ok (.iconst (-1), 1) := by decide +kernel
theorem dL_drawn_86 : decode cL_drawn 86 = .ok (.iastore, 1) := by decide +kernel
theorem dL_drawn_87 : decode cL_drawn 87 = .ok (.dup, 1) := by decide +kernel
theorem dL_drawn_88 : decode cL_drawn 88 = .ok (.iconst 3, 1) := by decide +kernel
theorem dL_drawn_89 : decode cL_drawn 89 = .ok (.iconst 0, 1) := by decide +kernel
theorem dL_drawn_90 : decode cL_drawn 90 = .ok (.iastore, 1) := by decide +kernel
theorem dL_drawn_91 : decode cL_drawn 91 = .ok (.dup, 1) := by decide +kernel
theorem dL_drawn_92 : decode cL_drawn 92 = .ok (.iconst 4, 1) := by decide +kernel
theorem dL_drawn_93 : decode cL_drawn 93 = .ok (.iconst 0, 1) := by decide +kernel
theorem dL_drawn_94 : decode cL_drawn 94 = .ok (.iastore, 1) := by decide +kernel
theorem dL_drawn_95 : decode cL_drawn 95 = .ok (.aastore, 1) := by decide +kernel
theorem dL_drawn_96 : decode cL_drawn 96 = .ok (.iinc 4 1, 3) := by decide +kernel
theorem dL_drawn_99 : decode cL_drawn 99 = .ok (.goto (-70), 3) := by decide +kernel
theorem dL_drawn_102 : decode cL_drawn 102 = .ok (.aload_n 2, 1) := by decide +kernel
theorem dL_drawn_103 : decode cL_drawn 103 = .ok (.getfield 31, 3) := by decide +kernel
theorem dL_drawn_106 : decode cL_drawn 106 = .ok (.iconst 1, 1) := by decide +kernel
theorem dL_drawn_107 : decode cL_drawn 107 = .ok (.if_icmp .ne 7, 3) := by decide +kernel
theorem dL_drawn_110 : decode cL_drawn 110 = .ok (.iconst 0, 1) := by decide +kernel
theorem dL_drawn_111 : decode cL_drawn 111 = .ok (.goto 12, 3) := by decide +kernel
theorem dL_drawn_114 : decode cL_drawn 114 = .ok (.iload_n 3, 1) := by decide +kernel
theorem dL_drawn_115 : decode cL_drawn 115 = .ok (.bipush 9, 2) := by decide +kernel
theorem dL_drawn_117 : decode cL_drawn 117 = .ok (.ishr, 1) := by decide +kernel
theorem dL_drawn_118 : decode cL_drawn 118 = .ok (.bipush 11, 2) := by decide +kernel
theorem dL_drawn_120 : decode cL_drawn 120 = .ok (.invokestatic 27, 3) := by decide +kernel
theorem dL_drawn_123 : decode cL_drawn 123 = .ok (.istore 4, 2) := by decide +kernel
theorem dL_drawn_125 : decode cL_drawn 125 = .ok (.iconst 0, 1) := by decide +kernel
theorem dL_drawn_126 : decode cL_drawn 126 = .ok (.istore 5, 2) := by decide +kernel
theorem dL_drawn_128 : decode cL_drawn 128 = .ok (.iload 5, 2) := by decide +kernel
theorem dL_drawn_130 : decode cL_drawn 130 = .ok (.iload 4, 2) := by decide +kernel
theorem dL_drawn_132 : decode cL_drawn 132 = .ok (.if_icmp .ge 110, 3) := by decide +kernel
theorem dL_drawn_135 : decode cL_drawn 135 = .ok (.aload_n 0, 1) := by decide +kernel
theorem dL_drawn_136 : decode cL_drawn 136 = .ok (.iload_n 1, 1) := by decide +kernel
theorem dL_drawn_137 : decode cL_drawn 137 = .ok (.iconst 1, 1) := by decide +kernel
theorem dL_drawn_138 : decode cL_drawn 138 = .ok (.iadd, 1) := by decide +kernel
theorem dL_drawn_139 : decode cL_drawn 139 = .ok (.iload 5, 2) := by decide +kernel
theorem dL_drawn_141 : decode cL_drawn 141 = .ok (.iconst 2, 1) := by decide +kernel
theorem dL_drawn_142 : decode cL_drawn 142 = .ok (.irem, 1) := by decide +kernel
theorem dL_drawn_143 : decode cL_drawn 143 = .ok (.iadd, 1) := by decide +kernel
theorem dL_drawn_144 : decode cL_drawn 144 = .ok (.invokestatic 23, 3) := by decide +kernel
theorem dL_drawn_147 : decode cL_drawn 147 = .ok (.iload 5, 2) := by decide +kernel
theorem dL_drawn_149 : decode cL_drawn 149 = .ok (.iconst 2, 1) := by decide +kernel
theorem dL_drawn_150 : decode cL_drawn 150 = .ok (.idiv, 1) := by decide +kernel
theorem dL_drawn_151 : decode cL_drawn 151 = .ok (.iconst 5, 1) := by decide +kernel
theorem dL_drawn_152 : decode cL_drawn 152 = .ok (.imul, 1) := by decide +kernel
theorem dL_drawn_153 : decode cL_drawn 153 = .ok (.ishr, 1) := by decide +kernel
theorem dL_drawn_154 : decode cL_drawn 154 = .ok (.istore 6, 2) := by decide +kernel
theorem dL_drawn_156 : decode cL_drawn 156 = .ok (.iload 6, 2) := by decide +kernel
theorem dL_drawn_158 : decode cL_drawn 158 = .ok (.aload_n 2, 1) := by decide +kernel
theorem dL_drawn_159 : decode cL_drawn 159 = .ok (.getfield 31, 3) := by decide +kernel
theorem dL_drawn_162 : decode cL_drawn 162 = .ok (.invokestatic 27, 3) := by decide +kernel
theorem dL_drawn_165 : decode cL_drawn 165 = .ok (.istore 7, 2) := by decide +kernel
theorem dL_drawn_167 : decode cL_drawn 167 = .ok (.aload_n 2, 1) := by decide +kernel
theorem dL_drawn_168 : decode cL_drawn 168 = .ok (.getfield 39, 3) := by decide +kernel
theorem dL_drawn_171 : decode cL_drawn 171 = .ok (.aload_n 2, 1) := by decide +kernel
theorem dL_drawn_172 : decode cL_drawn 172 = .ok (.dup, 1) := by decide +kernel
theorem dL_drawn_173 : decode cL_drawn 173 = .ok (.getfield 42, 3) := by decide +kernel
theorem dL_drawn_176 : decode cL_drawn 176 = .ok (.dup_x1, 1) := by decide +kernel
theorem dL_drawn_177 : decode cL_drawn 177 = .ok (.iconst 1, 1) := by decide +kernel
theorem dL_drawn_178 : decode cL_drawn 178 = .ok (.iadd, 1) := by decide +kernel
theorem dL_drawn_179 : decode cL_drawn 179 = .ok (.putfield 42, 3) := by decide +kernel
theorem dL_drawn_182 : decode cL_drawn 182 = .ok (.iconst 3, 1) := by decide +kernel
theorem dL_drawn_183 : decode cL_drawn 183 = .ok (.newarray .int, 2) := by decide +kernel
theorem dL_drawn_185 : decode cL_drawn 185 = .ok (.dup, 1) := by decide +kernel
theorem dL_drawn_186 : decode cL_drawn 186 = .ok (.iconst 0, 1) := by decide +kernel
theorem dL_drawn_187 : decode cL_drawn 187 = .ok (.iload 7, 2) := by decide +kernel
theorem dL_drawn_189 : decode cL_drawn 189 = .ok (.iastore, 1) := by decide +kernel
theorem dL_drawn_190 : decode cL_drawn 190 = .ok (.dup, 1) := by decide +kernel
theorem dL_drawn_191 : decode cL_drawn 191 = .ok (.iconst 1, 1) := by decide +kernel
theorem dL_drawn_192 : decode cL_drawn 192 = .ok (.iload 7, 2) := by decide +kernel
theorem dL_drawn_194 : decode cL_drawn 194 = .ok (.iconst 1, 1) := by decide +kernel
theorem dL_drawn_195 : decode cL_drawn 195 = .ok (.iadd, 1) := by decide +kernel
theorem dL_drawn_196 : decode cL_drawn 196 = .ok (.iload 6, 2) := by decide +kernel
theorem dL_drawn_198 : decode cL_drawn 198 = .ok (.iconst 2, 1) := by decide +kernel
theorem dL_drawn_199 : decode cL_drawn 199 = .ok (.ishr, 1) := by decide +kernel
theorem dL_drawn_200 : decode cL_drawn 200 = .ok (.aload_n 2, 1) := by decide +kernel
theorem dL_drawn_201 : decode cL_drawn 201 = .ok (.getfield 31, 3) := by decide +kernel
theorem dL_drawn_204 : decode cL_drawn 204 = .ok (.iconst 1, 1) := by decide +kernel
theorem dL_drawn_205 : decode cL_drawn 205 = .ok (.isub, 1) := by decide +kernel
theorem dL_drawn_206 : decode cL_drawn 206 = .ok (.invokestatic 27, 3) := by decide +kernel
theorem dL_drawn_209 : decode cL_drawn 209 = .ok (.iadd, 1) := by decide +kernel
theorem dL_drawn_210 : decode cL_drawn 210 = .ok (.aload_n 2, 1) := by decide +kernel
theorem dL_drawn_211 : decode cL_drawn 211 = .ok (.getfield 31, 3) := by decide +kernel
theorem dL_drawn_214 : decode cL_drawn 214 = .ok (.irem, 1) := by decide +kernel
theorem dL_drawn_215 : decode cL_drawn 215 = .ok (.iastore, 1) := by decide +kernel
theorem dL_drawn_216 : decode cL_drawn 216 = .ok (.dup, 1) := by decide +kernel
theorem dL_drawn_217 : decode cL_drawn 217 = .ok (.iconst 2, 1) := by decide +kernel
theorem dL_drawn_218 : decode cL_drawn 218 = .ok (.iload 6, 2) := by decide +kernel
theorem dL_drawn_220 : decode cL_drawn 220 = .ok (.iconst 4, 1) := by decide +kernel
theorem dL_drawn_221 : decode cL_drawn 221 = .ok (.ishr, 1) := by decide +kernel
theorem dL_drawn_222 : decode cL_drawn 222 = .ok (.iconst 5, 1) := by decide +kernel
theorem dL_drawn_223 : decode cL_drawn 223 = .ok (.invokestatic 27, 3) := by decide +kernel
theorem dL_drawn_226 : decode cL_drawn 226 = .ok (.ifCond .ne 7, 3) := by decide +kernel
theorem dL_drawn_229 : decode cL_drawn 229 = .ok (.iconst 0, 1) := by decide +kernel
theorem dL_drawn_230 : decode cL_drawn 230 = .ok (.goto 4, 3) := by decide +kernel
theorem dL_drawn_233 : decode cL_drawn 233 = .ok (.iconst 1, 1) := by decide +kernel
theorem dL_drawn_234 : decode cL_drawn 234 = .ok (.iastore, 1) := by decide +kernel
theorem dL_drawn_235 : decode cL_drawn 235 = .ok (.aastore, 1) := by decide +kernel
theorem dL_drawn_236 : decode cL_drawn 236 = .ok (.iinc 5 1, 3) := by decide +kernel
theorem dL_drawn_239 : decode cL_drawn 239 = .ok (.goto (-111), 3) := by decide +kernel
theorem dL_drawn_242 : decode cL_drawn 242 = .ok (.iload_n 3, 1) := by decide +kernel
theorem dL_drawn_243 : decode cL_drawn 243 = .ok (.bipush 12, 2) := by decide +kernel
theorem dL_drawn_245 : decode cL_drawn 245 = .ok (.ishr, 1) := by decide +kernel
theorem dL_drawn_246 : decode cL_drawn 246 = .ok (.iconst 5, 1) := by decide +kernel
theorem dL_drawn_247 : decode cL_drawn 247 = .ok (.invokestatic 27, 3) := by decide +kernel
theorem dL_drawn_250 : decode cL_drawn 250 = .ok (.istore 5, 2) := by decide +kernel
theorem dL_drawn_252 : decode cL_drawn 252 = .ok (.iconst 0, 1) := by decide +kernel
theorem dL_drawn_253 : decode cL_drawn 253 = .ok (.istore 6, 2) := by decide +kernel
theorem dL_drawn_255 : decode cL_drawn 255 = .ok (.iload 6, 2) := by decide +kernel
theorem dL_drawn_257 : decode cL_drawn 257 = .ok (.iload 5, 2) := by decide +kernel
theorem dL_drawn_259 : decode cL_drawn 259 = .ok (.if_icmp .ge 77, 3) := by decide +kernel
theorem dL_drawn_262 : decode cL_drawn 262 = .ok (.aload_n 0, 1) := by decide +kernel
theorem dL_drawn_263 : decode cL_drawn 263 = .ok (.iload_n 1, 1) := by decide +kernel
theorem dL_drawn_264 : decode cL_drawn 264 = .ok (.iconst 3, 1) := by decide +kernel
theorem dL_drawn_265 : decode cL_drawn 265 = .ok (.iadd, 1) := by decide +kernel
theorem dL_drawn_266 : decode cL_drawn 266 = .ok (.iload 6, 2) := by decide +kernel
theorem dL_drawn_268 : decode cL_drawn 268 = .ok (.iconst 2, 1) := by decide +kernel
theorem dL_drawn_269 : decode cL_drawn 269 = .ok (.irem, 1) := by decide +kernel
theorem dL_drawn_270 : decode cL_drawn 270 = .ok (.iadd, 1) := by decide +kernel
theorem dL_drawn_271 : decode cL_drawn 271 = .ok (.invokestatic 23, 3) := by decide +kernel
theorem dL_drawn_274 : decode cL_drawn 274 = .ok (.iload 6, 2) := by decide +kernel
theorem dL_drawn_276 : decode cL_drawn 276 = .ok (.iconst 2, 1) := by decide +kernel
theorem dL_drawn_277 : decode cL_drawn 277 = .ok (.idiv, 1) := by decide +kernel
theorem dL_drawn_278 : decode cL_drawn 278 = .ok (.bipush 6, 2) := by decide +kernel
theorem dL_drawn_280 : decode cL_drawn 280 = .ok (.imul, 1) := by decide +kernel
theorem dL_drawn_281 : decode cL_drawn 281 = .ok (.ishr, 1) := by decide +kernel
theorem dL_drawn_282 : decode cL_drawn 282 = .ok (.istore 7, 2) := by decide +kernel
theorem dL_drawn_284 : decode cL_drawn 284 = .ok (.aload_n 2, 1) := by decide +kernel
theorem dL_drawn_285 : decode cL_drawn 285 = .ok (.getfield 45, 3) := by decide +kernel
theorem dL_drawn_288 : decode cL_drawn 288 = .ok (.iload 6, 2) := by decide +kernel
theorem dL_drawn_290 : decode cL_drawn 290 = .ok (.aload_n 2, 1) := by decide +kernel
theorem dL_drawn_291 : decode cL_drawn 291 = .ok (.iload 7, 2) := by decide +kernel
theorem dL_drawn_293 : decode cL_drawn 293 = .ok (.invokevirtual 48, 3) := by decide +kernel
theorem dL_drawn_296 : decode cL_drawn 296 = .ok (.aastore, 1) := by decide +kernel
theorem dL_drawn_297 : decode cL_drawn 297 = .ok (.aload_n 2, 1) := by decide +kernel
theorem dL_drawn_298 : decode cL_drawn 298 = .ok (.getfield 52, 3) := by decide +kernel
theorem dL_drawn_301 : decode cL_drawn 301 = .ok (.iload 6, 2) := by decide +kernel
theorem dL_drawn_303 : decode cL_drawn 303 = .ok (.iload 7, 2) := by decide +kernel
theorem dL_drawn_305 : decode cL_drawn 305 = .ok (.bipush 7, 2) := by decide +kernel
theorem dL_drawn_307 : decode cL_drawn 307 = .ok (.ishr, 1) := by decide +kernel
theorem dL_drawn_308 : decode cL_drawn 308 = .ok (.aload_n 2, 1) := by decide +kernel
theorem dL_drawn_309 : decode cL_drawn 309 = .ok (.getfield 45, 3) := by decide +kernel
theorem dL_drawn_312 : decode cL_drawn 312 = .ok (.iload 6, 2) := by decide +kernel
theorem dL_drawn_314 : decode cL_drawn 314 = .ok (.aaload, 1) := by decide +kernel
theorem dL_drawn_315 : decode cL_drawn 315 = .ok (.arraylength, 1) := by decide +kernel
theorem dL_drawn_316 : decode cL_drawn 316 = .ok (.invokestatic 27, 3) := by decide +kernel
theorem dL_drawn_319 : decode cL_drawn 319 = .ok (.iastore, 1) := by decide +kernel
theorem dL_drawn_320 : decode cL_drawn 320 = .ok (.aload_n 2, 1) := by decide +kernel
theorem dL_drawn_321 : decode cL_drawn 321 = .ok (.dup, 1) := by decide +kernel
theorem dL_drawn_322 : decode cL_drawn 322 = .ok (.getfield 56, 3) := by decide +kernel
theorem dL_drawn_325 : decode cL_drawn 325 = .ok (.iconst 1, 1) := by decide +kernel
theorem dL_drawn_326 : decode cL_drawn 326 = .ok (.iadd, 1) := by decide +kernel
theorem dL_drawn_327 : decode cL_drawn 327 = .ok (.putfield 56, 3) := by decide +kernel
theorem dL_drawn_330 : decode cL_drawn 330 = .ok (.iinc 6 1, 3) := by decide +kernel
theorem dL_drawn_333 : decode cL_drawn 333 = .ok (.goto (-78), 3) := by decide +kernel
theorem dL_drawn_336 : decode cL_drawn 336 = .ok (.aload_n 2, 1) := by decide +kernel
theorem dL_drawn_337 : decode cL_drawn 337 = .ok (.areturn, 1) := by decide +kernel
set_option maxRecDepth 20000 in
theorem ggL_word_J0_length_8abf5 : GoodIn wsL_word wsJ0_length_8abf5 := goodIn_r _ [5, 6, 7, 8, 9, 4, 10, 11, 12] (by decide +kernel) (by decide +kernel)
set_option maxRecDepth 20000 in
theorem gL_word_J0_length_8abf5 : GoodIn wsL_word (wsV RL 59 RJ0 yJ0_length_8abf5 wsJ0_length_8abf5) := goodIn_app (goodIn_of _ (by decide +kernel)) ggL_word_J0_length_8abf5
set_option maxRecDepth 20000 in
theorem ggL_word_J0_charAt_5068e : GoodIn wsL_word wsJ0_charAt_5068e := goodIn_r _ [16, 6, 17, 18, 19, 4, 20, 11, 12, 21, 22, 23, 24, 25, 26, 27, 28, 29, 30, 31, 32, 33, 34, 35, 36, 37, 38, 39, 40, 41, 42, 43, 44, 45, 46, 47, 48, 49] (by decide +kernel) (by decide +kernel)
set_option maxRecDepth 20000 in
theorem gL_word_J0_charAt_5068e : GoodIn wsL_word (wsV RL 65 RJ0 yJ0_charAt_5068e wsJ0_charAt_5068e) := goodIn_app (goodIn_of _ (by decide +kernel)) ggL_word_J0_charAt_5068e
set_option maxRecDepth 20000 in
theorem ggL_word_L_add : GoodIn wsL_word wsL_add := goodIn_r _ [53, 54, 55, 56, 57, 58, 59, 60, 61, 62, 63, 64, 65, 66, 67, 68, 69, 70, 71, 72, 73, 74, 75, 76, 77, 78, 79, 80, 81, 82, 83, 84, 85, 86, 87, 88] (by decide +kernel) (by decide +kernel)
set_option maxRecDepth 20000 in
theorem gL_word_L_add : GoodIn wsL_word (va_wsS RL 14 yL_add wsL_add) := goodIn_app (goodIn_of _ (by decide +kernel)) ggL_word_L_add
theorem dL_word_0 : decode cL_word 0 = .ok (.iconst 0, 1) := by decide +kernel
theorem dL_word_1 : decode cL_word 1 = .ok (.istore_n 3, 1) := by decide +kernel
theorem dL_word_2 : decode cL_word 2 = .ok (.iload_n 3, 1) := by decide +kernel
theorem dL_word_3 : decode cL_word 3 = .ok (.aload_n 2, 1) := by decide +kernel
theorem dL_word_4 : decode cL_word 4 = .ok (.invokevirtual 59, 3) := by decide +kernel
theorem dL_word_7 : decode cL_word 7 = .ok (.if_icmp .ge 19, 3) := by decide +kernel
theorem dL_word_10 : decode cL_word 10 = .ok (.aload_n 0, 1) := by decide +kernel
theorem dL_word_11 : decode cL_word 11 = .ok (.aload_n 1, 1) := by decide +kernel
theorem dL_word_12 : decode cL_word 12 = .ok (.aload_n 2, 1) := by decide +kernel
theorem dL_word_13 : decode cL_word 13 = .ok (.iload_n 3, 1) := by decide +kernel
theorem dL_word_14 : decode cL_word 14 = .ok (.invokevirtual 65, 3) := by decide +kernel
theorem dL_word_17 : decode cL_word 17 = .ok (.invokestatic 14, 3) := by decide +kernel
theorem dL_word_20 : decode cL_word 20 = .ok (.iinc 3 1, 3) := by decide +kernel
theorem dL_word_23 : decode cL_word 23 = .ok (.goto (-21), 3) := by decide +kernel
theorem dL_word_26 : decode cL_word 26 = .ok (.return_, 1) := by decide +kernel
set_option maxRecDepth 20000 in
theorem ggL_with_L_word : GoodIn wsL_with wsL_word := goodIn_r _ [4, 5, 6, 7, 8, 9, 10, 11, 12, 13, 14, 15, 16, 17, 18, 19, 20, 21, 22, 23, 24, 25, 26, 27, 28, 29, 30, 31, 32, 33, 34, 35, 36, 37, 38, 39, 40, 41, 42, 43, 44, 45, 46, 47, 48, 49, 50, 51, 52, 53, 54, 55, 3, 56, 57, 58, 59, 60, 61, 62, 63, 64, 65, 66, 67, 68, 69, 70, 74, 75, 76, 77, 78, 79, 80, 81, 82, 83, 84, 85, 86, 87, 88, 89, 90, 91, 92, 93, 94] (by decide +kernel) (by decide +kernel)
set_option maxRecDepth 20000 in
theorem gL_with_L_word : GoodIn wsL_with (va_wsS RL 69 yL_word wsL_word) := goodIn_app (goodIn_of _ (by decide +kernel)) ggL_with_L_word
set_option maxRecDepth 20000 in
theorem ggL_with_L_number : GoodIn wsL_with wsL_number := goodIn_r _ [73, 54, 55, 3, 56, 57, 58, 59, 60, 61, 62, 63, 64, 65, 66, 67, 68, 69, 70, 74, 75, 76, 77, 78, 79, 80, 81, 82, 83, 84, 85, 86, 87, 88, 89, 90, 91, 92, 93, 94] (by decide +kernel) (by decide +kernel)
set_option maxRecDepth 20000 in
theorem gL_with_L_number : GoodIn wsL_with (va_wsS RL 73 yL_number wsL_number) := goodIn_app (goodIn_of _ (by decide +kernel)) ggL_with_L_number
theorem dL_with_0 : decode cL_with 0 = .ok (.aload_n 0, 1) := by decide +kernel
theorem dL_with_1 : decode cL_with 1 = .ok (.aload_n 1, 1) := by decide +kernel
theorem dL_with_2 : decode cL_with 2 = .ok (.aload_n 2, 1) := by decide +kernel
theorem dL_with_3 : decode cL_with 3 = .ok (.invokestatic 69, 3) := by decide +kernel
theorem dL_with_6 : decode cL_with 6 = .ok (.aload_n 0, 1) := by decide +kernel
theorem dL_with_7 : decode cL_with 7 = .ok (.aload_n 1, 1) := by decide +kernel
theorem dL_with_8 : decode cL_with 8 = .ok (.iload_n 3, 1) := by decide +kernel
theorem dL_with_9 : decode cL_with 9 = .ok (.invokestatic 73, 3) := by decide +kernel
theorem dL_with_12 : decode cL_with 12 = .ok (.return_, 1) := by decide +kernel
set_option maxRecDepth 20000 in
theorem ggL_walkOf_L_with : GoodIn wsL_walkOf wsL_with := goodIn_r _ [4, 5, 6, 3, 7, 8, 9, 10, 11, 12, 13, 14, 15, 16, 17, 18, 19, 20, 21, 22, 23, 24, 25, 26, 27, 28, 29, 30, 31, 32, 33, 34, 35, 36, 37, 38, 39, 40, 41, 42, 43, 44, 45, 46, 47, 48, 49, 50, 51, 52, 53, 54, 55, 56, 57, 58, 59, 60, 61, 62, 63, 64, 65, 66, 67, 68, 69, 70, 71, 72, 73, 74, 75, 76, 77, 78, 79, 80, 81, 82, 83, 84, 85, 86, 87, 88, 89, 90, 91, 92, 93, 94, 95, 96, 97] (by decide +kernel) (by decide +kernel)
set_option maxRecDepth 20000 in
theorem gL_walkOf_L_with : GoodIn wsL_walkOf (va_wsS RL 78 yL_with wsL_with) := goodIn_app (goodIn_of _ (by decide +kernel)) ggL_walkOf_L_with
theorem dL_walkOf_0 : decode cL_walkOf 0 = .ok (.aload_n 2, 1) := by decide +kernel
theorem dL_walkOf_1 : decode cL_walkOf 1 = .ok (.astore 4, 2) := by decide +kernel
theorem dL_walkOf_3 : decode cL_walkOf 3 = .ok (.aload 4, 2) := by decide +kernel
theorem dL_walkOf_5 : decode cL_walkOf 5 = .ok (.arraylength, 1) := by decide +kernel
theorem dL_walkOf_6 : decode cL_walkOf 6 = .ok (.istore 5, 2) := by decide +kernel
theorem dL_walkOf_8 : decode cL_walkOf 8 = .ok (.iconst 0, 1) := by decide +kernel
theorem dL_walkOf_9 : decode cL_walkOf 9 = .ok (.istore 6, 2) := by decide +kernel
theorem dL_walkOf_11 : decode cL_walkOf 11 = .ok (.iload 6, 2) := by decide +kernel
theorem dL_walkOf_13 : decode cL_walkOf 13 = .ok (.iload 5, 2) := by decide +kernel
theorem dL_walkOf_15 : decode cL_walkOf 15 = .ok (.if_icmp .ge 25, 3) := by decide +kernel
theorem dL_walkOf_18 : decode cL_walkOf 18 = .ok (.aload 4, 2) := by decide +kernel
theorem dL_walkOf_20 : decode cL_walkOf 20 = .ok (.iload 6, 2) := by decide +kernel
theorem dL_walkOf_22 : decode cL_walkOf 22 = .ok (.iaload, 1) := by decide +kernel
theorem dL_walkOf_23 : decode cL_walkOf 23 = .ok (.istore 7, 2) := by decide +kernel
theorem dL_walkOf_25 : decode cL_walkOf 25 = .ok (.aload_n 0, 1) := by decide +kernel
theorem dL_walkOf_26 : decode cL_walkOf 26 = .ok (.aload_n 1, 1) := by decide +kernel
theorem dL_walkOf_27 : decode cL_walkOf 27 = .ok (.ldc 76, 2) := by decide +kernel
theorem dL_walkOf_29 : decode cL_walkOf 29 = .ok (.iload 7, 2) := by decide +kernel
theorem dL_walkOf_31 : decode cL_walkOf 31 = .ok (.invokestatic 78, 3) := by decide +kernel
theorem dL_walkOf_34 : decode cL_walkOf 34 = .ok (.iinc 6 1, 3) := by decide +kernel
theorem dL_walkOf_37 : decode cL_walkOf 37 = .ok (.goto (-26), 3) := by decide +kernel
theorem dL_walkOf_40 : decode cL_walkOf 40 = .ok (.iload_n 3, 1) := by decide +kernel
theorem dL_walkOf_41 : decode cL_walkOf 41 = .ok (.ifCond .le 11, 3) := by decide +kernel
theorem dL_walkOf_44 : decode cL_walkOf 44 = .ok (.aload_n 0, 1) := by decide +kernel
theorem dL_walkOf_45 : decode cL_walkOf 45 = .ok (.aload_n 1, 1) := by decide +kernel
theorem dL_walkOf_46 : decode cL_walkOf 46 = .ok (.ldc 82, 2) := by decide +kernel
theorem dL_walkOf_48 : decode cL_walkOf 48 = .ok (.iload_n 3, 1) := by decide +kernel
theorem dL_walkOf_49 : decode cL_walkOf 49 = .ok (.invokestatic 78, 3) := by decide +kernel
theorem dL_walkOf_52 : decode cL_walkOf 52 = .ok (.return_, 1) := by decide +kernel
set_option maxRecDepth 20000 in
theorem ggL_tell_L_with : GoodIn wsL_tell wsL_with := goodIn_r _ [4, 5, 6, 3, 7, 8, 9, 10, 11, 12, 13, 14, 15, 16, 17, 18, 19, 20, 21, 22, 23, 24, 25, 26, 27, 28, 29, 30, 31, 32, 33, 34, 35, 36, 37, 38, 39, 40, 41, 42, 43, 44, 45, 46, 47, 48, 49, 50, 51, 52, 53, 54, 55, 56, 57, 58, 59, 60, 61, 62, 63, 64, 65, 66, 67, 68, 69, 70, 71, 72, 73, 74, 75, 76, 301, 302, 303, 304, 305, 306, 307, 308, 309, 310, 311, 312, 313, 314, 315, 316, 317, 318, 319, 320, 321] (by decide +kernel) (by decide +kernel)
set_option maxRecDepth 20000 in
theorem gL_tell_L_with : GoodIn wsL_tell (va_wsS RL 78 yL_with wsL_with) := goodIn_app (goodIn_of _ (by decide +kernel)) ggL_tell_L_with
set_option maxRecDepth 20000 in
theorem ggL_tell_L_add : GoodIn wsL_tell wsL_add := goodIn_r _ [59, 60, 61, 62, 63, 64, 65, 66, 67, 68, 69, 70, 71, 72, 73, 301, 302, 303, 304, 305, 306, 307, 308, 309, 310, 311, 312, 313, 314, 315, 316, 317, 318, 319, 320, 321] (by decide +kernel) (by decide +kernel)
set_option maxRecDepth 20000 in
theorem gL_tell_L_add : GoodIn wsL_tell (va_wsS RL 14 yL_add wsL_add) := goodIn_app (goodIn_of _ (by decide +kernel)) ggL_tell_L_add
set_option maxRecDepth 20000 in
theorem ggL_tell_L_word : GoodIn wsL_tell wsL_word := goodIn_r _ [7, 8, 9, 10, 11, 12, 13, 14, 15, 16, 17, 18, 19, 20, 21, 22, 23, 24, 25, 26, 27, 28, 29, 30, 31, 32, 33, 34, 35, 36, 37, 38, 39, 40, 41, 42, 43, 44, 45, 46, 47, 48, 49, 50, 51, 52, 53, 54, 55, 56, 57, 58, 3, 59, 60, 61, 62, 63, 64, 65, 66, 67, 68, 69, 70, 71, 72, 73, 301, 302, 303, 304, 305, 306, 307, 308, 309, 310, 311, 312, 313, 314, 315, 316, 317, 318, 319, 320, 321] (by decide +kernel) (by decide +kernel)
set_option maxRecDepth 20000 in
theorem gL_tell_L_word : GoodIn wsL_tell (va_wsS RL 69 yL_word wsL_word) := goodIn_app (goodIn_of _ (by decide +kernel)) ggL_tell_L_word
set_option maxRecDepth 20000 in
theorem ggL_tell_L_walkOf : GoodIn wsL_tell wsL_walkOf := goodIn_r _ [79, 1, 2, 3, 4, 5, 6, 7, 8, 9, 10, 11, 12, 13, 14, 15, 16, 17, 18, 19, 20, 21, 22, 23, 24, 25, 26, 27, 28, 29, 30, 31, 32, 33, 34, 35, 36, 37, 38, 39, 40, 41, 42, 43, 44, 45, 46, 47, 48, 49, 50, 51, 52, 53, 54, 55, 56, 57, 58, 59, 60, 61, 62, 63, 64, 65, 66, 67, 68, 69, 70, 71, 72, 73, 74, 75, 76, 301, 302, 303, 304, 305, 306, 307, 308, 309, 310, 311, 312, 313, 314, 315, 316, 317, 318, 319, 320, 321] (by decide +kernel) (by decide +kernel)
set_option maxRecDepth 20000 in
theorem gL_tell_L_walkOf : GoodIn wsL_tell (va_wsS RL 94 yL_walkOf wsL_walkOf) := goodIn_app (goodIn_of _ (by decide +kernel)) ggL_tell_L_walkOf
set_option maxRecDepth 20000 in
theorem ggL_tell_L_end : GoodIn wsL_tell wsL_end := goodIn_r _ [82, 57, 58, 3, 59, 60, 61, 62, 63, 64, 65, 66, 67, 68, 69, 70, 71, 72, 73, 301, 302, 303, 304, 305, 306, 307, 308, 309, 310, 311, 312, 313, 314, 315, 316, 317, 318, 319, 320, 321] (by decide +kernel) (by decide +kernel)
set_option maxRecDepth 20000 in
theorem gL_tell_L_end : GoodIn wsL_tell (va_wsS RL 100 yL_end wsL_end) := goodIn_app (goodIn_of _ (by decide +kernel)) ggL_tell_L_end
set_option maxRecDepth 20000 in
theorem ggL_tell_X8_load : GoodIn wsL_tell wsX8_load := goodIn_ca (goodIn_r _ [86, 65, 66, 87, 88, 89, 90, 91, 92, 93, 63, 94, 95, 96, 97, 98, 99, 70, 100, 101, 102, 103, 104, 105, 106, 107, 108, 109, 110, 73, 111, 112, 113, 114, 115, 116, 117, 118, 119, 120, 121, 122, 123, 124, 125, 126, 127, 128, 9, 10, 11, 12, 13, 14, 15, 16, 17, 18, 19, 129, 21, 22, 23, 24, 25, 26, 27, 28, 29, 30, 31, 32, 33, 34, 35, 36, 37, 38, 39, 40, 41, 42, 43, 44, 45, 46, 47, 48, 49, 50, 51, 52, 53, 54, 55, 56, 130, 131, 132, 133, 134, 135, 136, 137, 138, 139, 140, 141, 142, 143, 144, 145, 146, 147, 148, 149, 150, 151, 152, 153, 154, 155, 156, 157, 158, 159, 160, 161, 162, 163, 164, 165, 166, 167, 168, 169, 170, 171, 172, 173, 174, 175, 176, 177, 178, 179, 180, 181, 182, 183, 184, 185, 186, 187, 188, 189, 190, 191, 192, 193, 194, 195, 196, 197, 198, 199, 200, 201, 202, 203, 204, 205, 206, 207, 208, 209, 210, 211, 212, 213, 214, 215, 216, 217, 218, 219, 220, 221, 222, 223, 224, 225, 226, 227, 228, 229, 230, 231, 232, 233, 234, 235, 236, 237, 238, 239, 240, 241, 242, 243, 244, 245, 246, 247, 248, 249, 250, 251, 252, 253, 254, 255, 256, 257, 258, 259, 260, 261, 262, 263, 264, 265, 266, 267, 268, 269, 270, 271, 272, 273, 274, 275, 276, 277, 278, 279, 280, 281, 282, 283, 284, 285, 286, 287, 288, 289, 290, 291, 292, 301, 302, 303, 304, 305, 306, 307, 308, 309, 310, 311, 312, 313, 314, 315, 316, 317, 318, 319, 320, 321, 322, 323, 324, 325, 326, 327, 328, 329, 330, 331, 332, 333, 334, 335, 336, 337, 338, 339, 340, 341, 342, 343, 344, 345, 346] (by decide +kernel) (by decide +kernel)) (goodIn_sub (fun _ h => List.mem_cons_of_mem _ (List.mem_append_right _ h)) (by decide +kernel))
set_option maxRecDepth 20000 in
theorem gL_tell_X8_load : GoodIn wsL_tell (wsV RL 104 RX8 yX8_load wsX8_load) := goodIn_app (goodIn_of _ (by decide +kernel)) ggL_tell_X8_load
theorem dL_tell_0 : decode cL_tell 0 = .ok (.aload_n 0, 1) := by decide +kernel
theorem dL_tell_1 : decode cL_tell 1 = .ok (.aload_n 1, 1) := by decide +kernel
theorem dL_tell_2 : decode cL_tell 2 = .ok (.ldc 84, 2) := by decide +kernel
theorem dL_tell_4 : decode cL_tell 4 = .ok (.aload_n 2, 1) := by decide +kernel
theorem dL_tell_5 : decode cL_tell 5 = .ok (.getfield 31, 3) := by decide +kernel
theorem dL_tell_8 : decode cL_tell 8 = .ok (.invokestatic 78, 3) := by decide +kernel
theorem dL_tell_11 : decode cL_tell 11 = .ok (.aload_n 0, 1) := by decide +kernel
theorem dL_tell_12 : decode cL_tell 12 = .ok (.aload_n 1, 1) := by decide +kernel
theorem dL_tell_13 : decode cL_tell 13 = .ok (.bipush 59, 2) := by decide +kernel
theorem dL_tell_15 : decode cL_tell 15 = .ok (.invokestatic 14, 3) := by decide +kernel
theorem dL_tell_18 : decode cL_tell 18 = .ok (.iconst 0, 1) := by decide +kernel
theorem dL_tell_19 : decode cL_tell 19 = .ok (.istore_n 3, 1) := by decide +kernel
theorem dL_tell_20 : decode cL_tell 20 = .ok (.iload_n 3, 1) := by decide +kernel
theorem dL_tell_21 : decode cL_tell 21 = .ok (.aload_n 2, 1) := by decide +kernel
theorem dL_tell_22 : decode cL_tell 22 = .ok (.getfield 42, 3) := by decide +kernel
theorem dL_tell_25 : decode cL_tell 25 = .ok (.if_icmp .ge 63, 3) := by decide +kernel
theorem dL_tell_28 : decode cL_tell 28 = .ok (.aload_n 0, 1) := by decide +kernel
theorem dL_tell_29 : decode cL_tell 29 = .ok (.aload_n 1, 1) := by decide +kernel
theorem dL_tell_30 : decode cL_tell 30 = .ok (.ldc 86, 2) := by decide +kernel
theorem dL_tell_32 : decode cL_tell 32 = .ok (.aload_n 2, 1) := by decide +kernel
theorem dL_tell_33 : decode cL_tell 33 = .ok (.getfield 39, 3) := by decide +kernel
theorem dL_tell_36 : decode cL_tell 36 = .ok (.iload_n 3, 1) := by decide +kernel
theorem dL_tell_37 : decode cL_tell 37 = .ok (.aaload, 1) := by decide +kernel
theorem dL_tell_38 : decode cL_tell 38 = .ok (.iconst 0, 1) := by decide +kernel
theorem dL_tell_39 : decode cL_tell 39 = .ok (.iaload, 1) := by decide +kernel
theorem dL_tell_40 : decode cL_tell 40 = .ok (.invokestatic 78, 3) := by decide +kernel
theorem dL_tell_43 : decode cL_tell 43 = .ok (.aload_n 0, 1) := by decide +kernel
theorem dL_tell_44 : decode cL_tell 44 = .ok (.aload_n 1, 1) := by decide +kernel
theorem dL_tell_45 : decode cL_tell 45 = .ok (.ldc 76, 2) := by decide +kernel
theorem dL_tell_47 : decode cL_tell 47 = .ok (.aload_n 2, 1) := by decide +kernel
theorem dL_tell_48 : decode cL_tell 48 = .ok (.getfield 39, 3) := by decide +kernel
theorem dL_tell_51 : decode cL_tell 51 = .ok (.iload_n 3, 1) := by decide +kernel
theorem dL_tell_52 : decode cL_tell 52 = .ok (.aaload, 1) := by decide +kernel
theorem dL_tell_53 : decode cL_tell 53 = .ok (.iconst 1, 1) := by decide +kernel
theorem dL_tell_54 : decode cL_tell 54 = .ok (.iaload, 1) := by decide +kernel
theorem dL_tell_55 : decode cL_tell 55 = .ok (.invokestatic 78, 3) := by decide +kernel
theorem dL_tell_58 : decode cL_tell 58 = .ok (.aload_n 0, 1) := by decide +kernel
theorem dL_tell_59 : decode cL_tell 59 = .ok (.aload_n 1, 1) := by decide +kernel
theorem dL_tell_60 : decode cL_tell 60 = .ok (.aload_n 2, 1) := by decide +kernel
theorem dL_tell_61 : decode cL_tell 61 = .ok (.getfield 39, 3) := by decide +kernel
theorem dL_tell_64 : decode cL_tell 64 = .ok (.iload_n 3, 1) := by decide +kernel
theorem dL_tell_65 : decode cL_tell 65 = .ok (.aaload, 1) := by decide +kernel
theorem dL_tell_66 : decode cL_tell 66 = .ok (.iconst 2, 1) := by decide +kernel
theorem dL_tell_67 : decode cL_tell 67 = .ok (.iaload, 1) := by decide +kernel
theorem dL_tell_68 : decode cL_tell 68 = .ok (.iconst 1, 1) := by decide +kernel
theorem dL_tell_69 : decode cL_tell 69 = .ok (.if_icmp .ne 8, 3) := by decide +kernel
theorem dL_tell_72 : decode cL_tell 72 = .ok (.ldc 88, 2) := by decide +kernel
theorem dL_tell_74 : decode cL_tell 74 = .ok (.goto 5, 3) := by decide +kernel
theorem dL_tell_77 : decode cL_tell 77 = .ok (.ldc 90, 2) := by decide +kernel
theorem dL_tell_79 : decode cL_tell 79 = .ok (.invokestatic 69, 3) := by decide +kernel
theorem dL_tell_82 : decode cL_tell 82 = .ok (.iinc 3 1, 3) := by decide +kernel
theorem dL_tell_85 : decode cL_tell 85 = .ok (.goto (-65), 3) := by decide +kernel
theorem dL_tell_88 : decode cL_tell 88 = .ok (.iconst 0, 1) := by decide +kernel
theorem dL_tell_89 : decode cL_tell 89 = .ok (.istore_n 3, 1) := by decide +kernel
theorem dL_tell_90 : decode cL_tell 90 = .ok (.iload_n 3, 1) := by decide +kernel
theorem dL_tell_91 : decode cL_tell 91 = .ok (.aload_n 2, 1) := by decide +kernel
theorem dL_tell_92 : decode cL_tell 92 = .ok (.getfield 56, 3) := by decide +kernel
theorem dL_tell_95 : decode cL_tell 95 = .ok (.if_icmp .ge 40, 3) := by decide +kernel
theorem dL_tell_98 : decode cL_tell 98 = .ok (.aload_n 0, 1) := by decide +kernel
theorem dL_tell_99 : decode cL_tell 99 = .ok (.aload_n 1, 1) := by decide +kernel
theorem dL_tell_100 : decode cL_tell 100 = .ok (.ldc 92, 2) := by decide +kernel
theorem dL_tell_102 : decode cL_tell 102 = .ok (.invokestatic 69, 3) := by decide +kernel
theorem dL_tell_105 : decode cL_tell 105 = .ok (.aload_n 0, 1) := by decide +kernel
theorem dL_tell_106 : decode cL_tell 106 = .ok (.aload_n 1, 1) := by decide +kernel
theorem dL_tell_107 : decode cL_tell 107 = .ok (.aload_n 2, 1) := by decide +kernel
theorem dL_tell_108 : decode cL_tell 108 = .ok (.getfield 45, 3) := by decide +kernel
theorem dL_tell_111 : decode cL_tell 111 = .ok (.iload_n 3, 1) := by decide +kernel
theorem dL_tell_112 : decode cL_tell 112 = .ok (.aaload, 1) := by decide +kernel
theorem dL_tell_113 : decode cL_tell 113 = .ok (.aload_n 2, 1) := by decide +kernel
theorem dL_tell_114 : decode cL_tell 114 = .ok (.getfield 52, 3) := by decide +kernel
theorem dL_tell_117 : decode cL_tell 117 = .ok (.iload_n 3, 1) := by decide +kernel
theorem dL_tell_118 : decode cL_tell 118 = .ok (.iaload, 1) := by decide +kernel
theorem dL_tell_119 : decode cL_tell 119 = .ok (.invokestatic 94, 3) := by decide +kernel
theorem dL_tell_122 : decode cL_tell 122 = .ok (.aload_n 0, 1) := by decide +kernel
theorem dL_tell_123 : decode cL_tell 123 = .ok (.aload_n 1, 1) := by decide +kernel
theorem dL_tell_124 : decode cL_tell 124 = .ok (.bipush 59, 2) := by decide +kernel
theorem dL_tell_126 : decode cL_tell 126 = .ok (.invokestatic 14, 3) := by decide +kernel
theorem dL_tell_129 : decode cL_tell 129 = .ok (.iinc 3 1, 3) := by decide +kernel
theorem dL_tell_132 : decode cL_tell 132 = .ok (.goto (-42), 3) := by decide +kernel
theorem dL_tell_135 : decode cL_tell 135 = .ok (.iconst 0, 1) := by decide +kernel
theorem dL_tell_136 : decode cL_tell 136 = .ok (.istore_n 3, 1) := by decide +kernel
theorem dL_tell_137 : decode cL_tell 137 = .ok (.iload_n 3, 1) := by decide +kernel
theorem dL_tell_138 : decode cL_tell 138 = .ok (.aload_n 2, 1) := by decide +kernel
theorem dL_tell_139 : decode cL_tell 139 = .ok (.getfield 31, 3) := by decide +kernel
theorem dL_tell_142 : decode cL_tell 142 = .ok (.if_icmp .ge 55, 3) := by decide +kernel
theorem dL_tell_145 : decode cL_tell 145 = .ok (.aload_n 2, 1) := by decide +kernel
theorem dL_tell_146 : decode cL_tell 146 = .ok (.getfield 35, 3) := by decide +kernel
theorem dL_tell_149 : decode cL_tell 149 = .ok (.iload_n 3, 1) := by decide +kernel
theorem dL_tell_150 : decode cL_tell 150 = .ok (.aaload, 1) := by decide +kernel
theorem dL_tell_151 : decode cL_tell 151 = .ok (.iconst 0, 1) := by decide +kernel
theorem dL_tell_152 : decode cL_tell 152 = .ok (.iaload, 1) := by decide +kernel
theorem dL_tell_153 : decode cL_tell 153 = .ok (.bipush 99, 2) := by decide +kernel
theorem dL_tell_155 : decode cL_tell 155 = .ok (.if_icmp .ne 6, 3) := by decide +kernel
theorem dL_tell_158 : decode cL_tell 158 = .ok (.goto 33, 3) := by decide +kernel
theorem dL_tell_161 : decode cL_tell 161 = .ok (.aload_n 0, 1) := by decide +kernel
theorem dL_tell_162 : decode cL_tell 162 = .ok (.aload_n 1, 1) := by decide +kernel
theorem dL_tell_163 : decode cL_tell 163 = .ok (.ldc 98, 2) := by decide +kernel
theorem dL_tell_165 : decode cL_tell 165 = .ok (.iload_n 3, 1) := by decide +kernel
theorem dL_tell_166 : decode cL_tell 166 = .ok (.invokestatic 78, 3) := by decide +kernel
theorem dL_tell_169 : decode cL_tell 169 = .ok (.aload_n 0, 1) := by decide +kernel
theorem dL_tell_170 : decode cL_tell 170 = .ok (.aload_n 1, 1) := by decide +kernel
theorem dL_tell_171 : decode cL_tell 171 = .ok (.ldc 76, 2) := by decide +kernel
theorem dL_tell_173 : decode cL_tell 173 = .ok (.aload_n 2, 1) := by decide +kernel
theorem dL_tell_174 : decode cL_tell 174 = .ok (.getfield 35, 3) := by decide +kernel
theorem dL_tell_177 : decode cL_tell 177 = .ok (.iload_n 3, 1) := by decide +kernel
theorem dL_tell_178 : decode cL_tell 178 = .ok (.aaload, 1) := by decide +kernel
theorem dL_tell_179 : decode cL_tell 179 = .ok (.iconst 0, 1) := by decide +kernel
theorem dL_tell_180 : decode cL_tell 180 = .ok (.iaload, 1) := by decide +kernel
theorem dL_tell_181 : decode cL_tell 181 = .ok (.invokestatic 78, 3) := by decide +kernel
theorem dL_tell_184 : decode cL_tell 184 = .ok (.aload_n 0, 1) := by decide +kernel
theorem dL_tell_185 : decode cL_tell 185 = .ok (.aload_n 1, 1) := by decide +kernel
theorem dL_tell_186 : decode cL_tell 186 = .ok (.bipush 59, 2) := by decide +kernel
theorem dL_tell_188 : decode cL_tell 188 = .ok (.invokestatic 14, 3) := by decide +kernel
theorem dL_tell_191 : decode cL_tell 191 = .ok (.iinc 3 1, 3) := by decide +kernel
theorem dL_tell_194 : decode cL_tell 194 = .ok (.goto (-57), 3) := by decide +kernel
theorem dL_tell_197 : decode cL_tell 197 = .ok (.aload_n 0, 1) := by decide +kernel
theorem dL_tell_198 : decode cL_tell 198 = .ok (.aload_n 0, 1) := by decide +kernel
theorem dL_tell_199 : decode cL_tell 199 = .ok (.aload_n 1, 1) := by decide +kernel
theorem dL_tell_200 : decode cL_tell 200 = .ok (.invokestatic 100, 3) := by decide +kernel
theorem dL_tell_203 : decode cL_tell 203 = .ok (.invokevirtual 104, 3) := by decide +kernel
theorem dL_tell_206 : decode cL_tell 206 = .ok (.ireturn, 1) := by decide +kernel
set_option maxRecDepth 20000 in
theorem ggL_act_L_most : GoodIn wsL_act wsL_most := goodIn_r _ [4, 5] (by decide +kernel) (by decide +kernel)
set_option maxRecDepth 20000 in
theorem gL_act_L_most : GoodIn wsL_act (va_wsS RL 27 yL_most wsL_most) := goodIn_app (goodIn_of _ (by decide +kernel)) ggL_act_L_most
set_option maxRecDepth 20000 in
theorem ggL_act_X9_pass : GoodIn wsL_act wsX9_pass := goodIn_r _ [9, 10, 11, 12, 13, 14, 15, 16, 17, 18, 19, 7, 20, 21, 22, 23, 24, 25, 26, 27, 561, 562, 563, 564, 565, 566, 567, 568] (by decide +kernel) (by decide +kernel)
set_option maxRecDepth 20000 in
theorem gL_act_X9_pass_n159 : GoodIn wsL_act (wsX9_pass) := ggL_act_X9_pass
set_option maxRecDepth 20000 in
theorem ggL_act_X8_pass : GoodIn wsL_act wsX8_pass := goodIn_ca (goodIn_r _ [32, 33, 34, 35, 36, 37, 38, 31, 39, 40, 41, 42, 43, 44, 45, 46, 47, 48, 49, 50, 51, 15, 52, 53, 54, 55, 56, 57, 58, 59, 60, 61, 62, 63, 64, 65, 66, 67, 68, 69, 70, 71, 72, 73, 74, 75, 76, 77, 78, 79, 80, 81, 82, 83, 84, 85, 14, 16, 86, 87, 88, 89, 90, 91, 92, 93, 94, 95, 96, 97, 98, 99, 100, 101, 102, 103, 104, 105, 106, 569, 570, 571, 572, 573, 574, 575, 576, 577, 578, 579, 580, 581, 582, 583, 584, 585, 586, 587, 588, 589, 590, 591, 592, 593, 594, 595, 596, 597, 598, 599, 600, 601, 602, 603, 604, 605, 606] (by decide +kernel) (by decide +kernel)) (goodIn_sub (fun _ h => List.mem_cons_of_mem _ (List.mem_append_left _ (List.mem_append_right _ h))) (by decide +kernel))
set_option maxRecDepth 20000 in
theorem gL_act_X8_pass : GoodIn wsL_act (wsV RL 162 RX8 yX8_pass wsX8_pass) := goodIn_app (goodIn_of _ (by decide +kernel)) ggL_act_X8_pass
set_option maxRecDepth 20000 in
theorem ggL_act_X8_setLimit : GoodIn wsL_act wsX8_setLimit := goodIn_ca (goodIn_ca (goodIn_r _ [110, 36, 33, 111, 112, 113, 114, 31, 115, 116, 117, 118, 119, 120, 56, 121, 58, 37, 38, 39, 40, 41, 42, 43, 44, 45, 46, 47, 48, 49, 50, 51, 15, 52, 53, 54, 55, 57, 59, 60, 61, 62, 63, 64, 65, 66, 67, 68, 69, 70, 71, 72, 73, 74, 75, 76, 77, 78, 79, 80, 122, 123, 124, 125, 126, 127, 128, 129, 130, 131, 132, 133, 134, 135, 136, 137, 138, 139, 140, 141, 142, 143, 144, 14, 16, 145, 146, 147, 148, 149, 150, 151, 152, 153, 154, 155, 156, 157, 158, 159, 160, 161, 162, 163, 164, 165, 166, 94, 95, 96, 97, 167, 168, 169, 170, 171, 172, 173, 174, 175, 176, 177, 178, 179, 180, 181, 182, 183, 569, 570, 571, 572, 573, 574, 575, 576, 577, 578, 579, 580, 581, 582, 583, 584, 585, 586, 587, 588, 589, 590, 591, 592, 593, 594, 595, 596, 597, 598, 599, 600, 601, 602, 603, 604, 605, 606, 607, 608, 609, 610, 611, 612, 613, 614] (by decide +kernel) (by decide +kernel)) (goodIn_sub (fun _ h => List.mem_cons_of_mem _ (List.mem_append_right _ h)) (by decide +kernel))) (goodIn_sub (fun _ h => List.mem_cons_of_mem _ (List.mem_append_left _ (List.mem_append_right _ h))) (by decide +kernel))
set_option maxRecDepth 20000 in
theorem gL_act_X8_setLimit : GoodIn wsL_act (wsV RL 163 RX8 yX8_setLimit wsX8_setLimit) := goodIn_app (goodIn_of _ (by decide +kernel)) ggL_act_X8_setLimit
set_option maxRecDepth 20000 in
theorem ggL_act_X9_lates : GoodIn wsL_act wsX9_lates := goodIn_r _ [186, 10, 187, 188, 189, 7, 190, 12, 191, 192, 193, 194, 195, 196, 197, 198, 199, 21, 26, 200, 201, 202, 203, 17, 18, 19, 20, 22, 23, 24, 25, 27, 561, 562, 563, 564, 565, 566, 567, 568] (by decide +kernel) (by decide +kernel)
set_option maxRecDepth 20000 in
theorem gL_act_X9_lates_n129 : GoodIn wsL_act (wsX9_lates) := ggL_act_X9_lates
set_option maxRecDepth 20000 in
theorem ggL_act_X9_best : GoodIn wsL_act wsX9_best := goodIn_r _ [206, 21, 26, 27, 195, 207, 208, 209, 7, 210, 211, 212, 10, 213, 11, 214, 215, 216, 217, 218, 219, 220, 12, 221, 222, 223, 224, 225, 226, 227, 228, 229, 230, 13, 14, 15, 16, 191, 192, 193, 194, 196, 197, 198, 199, 200, 201, 202, 203, 17, 18, 19, 20, 22, 23, 24, 25, 231, 232, 233, 234, 235, 236, 237, 238, 239, 240, 241, 242, 561, 562, 563, 564, 565, 566, 567, 568] (by decide +kernel) (by decide +kernel)
set_option maxRecDepth 20000 in
theorem gL_act_X9_best_n166 : GoodIn wsL_act (wsX9_best) := ggL_act_X9_best
set_option maxRecDepth 20000 in
theorem ggL_act_X8_adopt : GoodIn wsL_act wsX8_adopt := goodIn_r _ [246, 36, 33, 247, 248, 249, 250, 251, 252, 31, 253, 254, 255, 256, 257, 258, 259, 260, 261, 262, 263, 264, 265, 54, 55, 56, 57, 58, 59, 60, 61, 62, 63, 64, 65, 66, 67, 68, 69, 70, 71, 72, 73, 74, 75, 76, 77, 78, 79, 80, 266, 267, 268, 269, 270, 271, 272, 273, 155, 156, 274, 275, 276, 277, 278, 279, 280, 281, 282, 283, 284, 130, 131, 132, 133, 134, 135, 136, 137, 138, 139, 140, 141, 142, 143, 144, 14, 15, 16, 145, 146, 147, 148, 149, 150, 151, 152, 153, 154, 157, 158, 159, 160, 161, 162, 163, 164, 165, 166, 94, 95, 96, 97, 167, 168, 169, 170, 171, 172, 173, 174, 285, 286, 287, 288, 289, 290, 291, 292, 293, 90, 91, 92, 93, 294, 295, 296, 297, 298, 51, 52, 42, 43, 44, 45, 46, 47, 48, 49, 50, 53, 299, 300, 301, 302, 303, 128, 569, 570, 571, 572, 573, 574, 575, 576, 577, 578, 579, 580, 581, 582, 583, 584, 585, 586, 587, 588, 589, 590, 591, 592, 593, 594, 595, 596, 597, 598, 599, 600, 601, 615, 616, 617, 618, 619, 620, 621, 607, 608, 609, 610, 611, 612, 613, 614, 602, 603, 604, 605, 606] (by decide +kernel) (by decide +kernel)
set_option maxRecDepth 20000 in
theorem gL_act_X8_adopt : GoodIn wsL_act (wsV RL 170 RX8 yX8_adopt wsX8_adopt) := goodIn_app (goodIn_of _ (by decide +kernel)) ggL_act_X8_adopt
set_option maxRecDepth 20000 in
theorem ggL_act_X9_through : GoodIn wsL_act wsX9_through := goodIn_r _ [306, 21, 26, 214, 561, 562, 563, 564, 565, 566, 567, 568] (by decide +kernel) (by decide +kernel)
set_option maxRecDepth 20000 in
theorem gL_act_X9_through_n143 : GoodIn wsL_act (wsX9_through) := ggL_act_X9_through
set_option maxRecDepth 20000 in
theorem ggL_act_X9_open : GoodIn wsL_act wsX9_open := goodIn_r _ [309, 213, 214, 561, 562, 563, 564, 565, 566, 567, 568] (by decide +kernel) (by decide +kernel)
set_option maxRecDepth 20000 in
theorem gL_act_X9_open_n173 : GoodIn wsL_act (wsX9_open) := ggL_act_X9_open
set_option maxRecDepth 20000 in
theorem ggL_act_X8_closeDoor : GoodIn wsL_act wsX8_closeDoor := goodIn_ca (goodIn_r _ [313, 33, 36, 314, 315, 316, 31, 317, 116, 117, 318, 319, 320, 56, 321, 59, 322, 323, 324, 325, 62, 98, 99, 326, 327, 328, 329, 60, 65, 70, 330, 331, 332, 333, 334, 335, 336, 337, 338, 73, 75, 94, 95, 96, 97, 339, 164, 165, 166, 340, 341, 342, 343, 344, 345, 346, 347, 348, 42, 43, 44, 45, 46, 47, 48, 49, 50, 51, 15, 52, 53, 54, 55, 57, 58, 61, 63, 64, 66, 67, 68, 69, 71, 72, 74, 76, 77, 78, 79, 80, 349, 350, 351, 352, 353, 148, 149, 150, 354, 355, 356, 357, 358, 119, 120, 121, 359, 360, 361, 362, 100, 101, 102, 103, 104, 105, 106, 569, 570, 571, 572, 573, 574, 575, 576, 577, 578, 579, 580, 581, 582, 583, 584, 585, 586, 587, 588, 589, 590, 591, 592, 593, 594, 595, 596, 597, 598, 599, 600, 601, 602, 603, 604, 605, 606] (by decide +kernel) (by decide +kernel)) (goodIn_sub (fun _ h => List.mem_cons_of_mem _ (List.mem_append_right _ h)) (by decide +kernel))
set_option maxRecDepth 20000 in
theorem gL_act_X8_closeDoor : GoodIn wsL_act (wsV RL 176 RX8 yX8_closeDoor wsX8_closeDoor) := goodIn_app (goodIn_of _ (by decide +kernel)) ggL_act_X8_closeDoor
set_option maxRecDepth 20000 in
theorem ggL_act_X9_opens : GoodIn wsL_act wsX9_opens := goodIn_r _ [365, 213, 214, 561, 562, 563, 564, 565, 566, 567, 568] (by decide +kernel) (by decide +kernel)
set_option maxRecDepth 20000 in
theorem gL_act_X9_opens_n135 : GoodIn wsL_act (wsX9_opens) := ggL_act_X9_opens
set_option maxRecDepth 20000 in
theorem ggL_act_X8_openDoor : GoodIn wsL_act wsX8_openDoor := goodIn_ca (goodIn_r _ [369, 33, 36, 314, 315, 316, 31, 317, 116, 117, 318, 319, 320, 56, 321, 59, 322, 323, 324, 325, 62, 98, 99, 42, 43, 44, 45, 46, 47, 48, 49, 50, 51, 15, 52, 53, 54, 55, 57, 58, 60, 61, 63, 64, 65, 66, 67, 68, 69, 70, 71, 72, 73, 74, 75, 76, 77, 78, 79, 80, 349, 350, 351, 352, 353, 148, 149, 150, 344, 354, 355, 356, 357, 358, 119, 120, 121, 359, 360, 361, 362, 100, 101, 102, 103, 104, 105, 106, 569, 570, 571, 572, 573, 574, 575, 576, 577, 578, 579, 580, 581, 582, 583, 584, 585, 586, 587, 588, 589, 590, 591, 592, 593, 594, 595, 596, 597, 598, 599, 600, 601, 602, 603, 604, 605, 606] (by decide +kernel) (by decide +kernel)) (goodIn_sub (fun _ h => List.mem_cons_of_mem _ (List.mem_append_right _ h)) (by decide +kernel))
set_option maxRecDepth 20000 in
theorem gL_act_X8_openDoor : GoodIn wsL_act (wsV RL 179 RX8 yX8_openDoor wsX8_openDoor) := goodIn_app (goodIn_of _ (by decide +kernel)) ggL_act_X8_openDoor
set_option maxRecDepth 20000 in
theorem ggL_act_X9_walkBy : GoodIn wsL_act wsX9_walkBy := goodIn_r _ [372, 195, 10, 2, 3, 4, 5, 373, 307, 308, 7, 309, 213, 214, 561, 562, 563, 564, 565, 566, 567, 568] (by decide +kernel) (by decide +kernel)
set_option maxRecDepth 20000 in
theorem gL_act_X9_walkBy_n48 : GoodIn wsL_act (wsX9_walkBy) := ggL_act_X9_walkBy
set_option maxRecDepth 20000 in
theorem ggL_act_L_with : GoodIn wsL_act wsL_with := goodIn_r _ [376, 377, 378, 3, 379, 380, 381, 382, 383, 384, 385, 386, 387, 388, 389, 390, 391, 392, 393, 394, 395, 396, 397, 398, 399, 400, 401, 402, 403, 404, 405, 406, 407, 408, 409, 410, 411, 412, 413, 414, 415, 416, 417, 418, 419, 420, 421, 422, 423, 424, 425, 426, 427, 428, 429, 430, 431, 432, 433, 434, 31, 435, 436, 437, 438, 439, 440, 441, 442, 443, 444, 445, 446, 447, 569, 570, 571, 572, 573, 574, 575, 576, 577, 578, 579, 580, 581, 582, 622, 623, 624, 625, 626, 627, 628] (by decide +kernel) (by decide +kernel)
set_option maxRecDepth 20000 in
theorem gL_act_L_with : GoodIn wsL_act (va_wsS RL 78 yL_with wsL_with) := goodIn_app (goodIn_of _ (by decide +kernel)) ggL_act_L_with
set_option maxRecDepth 20000 in
theorem ggL_act_L_walkOf : GoodIn wsL_act wsL_walkOf := goodIn_r _ [450, 374, 375, 3, 376, 377, 378, 379, 380, 381, 382, 383, 384, 385, 386, 387, 388, 389, 390, 391, 392, 393, 394, 395, 396, 397, 398, 399, 400, 401, 402, 403, 404, 405, 406, 407, 408, 409, 410, 411, 412, 413, 414, 415, 416, 417, 418, 419, 420, 421, 422, 423, 424, 425, 426, 427, 428, 429, 430, 431, 432, 433, 434, 31, 435, 436, 437, 438, 439, 440, 441, 442, 443, 444, 445, 446, 447, 569, 570, 571, 572, 573, 574, 575, 576, 577, 578, 579, 580, 581, 582, 622, 623, 624, 625, 626, 627, 628] (by decide +kernel) (by decide +kernel)
set_option maxRecDepth 20000 in
theorem gL_act_L_walkOf : GoodIn wsL_act (va_wsS RL 94 yL_walkOf wsL_walkOf) := goodIn_app (goodIn_of _ (by decide +kernel)) ggL_act_L_walkOf
set_option maxRecDepth 20000 in
theorem ggL_act_L_end : GoodIn wsL_act wsL_end := goodIn_r _ [453, 429, 430, 3, 431, 432, 433, 434, 31, 435, 436, 437, 438, 439, 440, 441, 442, 443, 444, 569, 570, 571, 572, 573, 574, 575, 576, 577, 578, 579, 580, 581, 582, 622, 623, 624, 625, 626, 627, 628] (by decide +kernel) (by decide +kernel)
set_option maxRecDepth 20000 in
theorem gL_act_L_end : GoodIn wsL_act (va_wsS RL 100 yL_end wsL_end) := goodIn_app (goodIn_of _ (by decide +kernel)) ggL_act_L_end
set_option maxRecDepth 20000 in
theorem ggL_act_X8_change : GoodIn wsL_act wsX8_change := goodIn_ca (goodIn_r _ [457, 436, 437, 458, 33, 459, 36, 37, 38, 31, 39, 40, 41, 460, 461, 462, 441, 463, 464, 51, 15, 52, 465, 466, 467, 468, 469, 470, 444, 471, 472, 473, 474, 475, 476, 477, 54, 55, 56, 57, 58, 59, 60, 61, 62, 63, 64, 65, 66, 67, 68, 69, 70, 71, 72, 73, 74, 75, 76, 77, 78, 79, 80, 478, 479, 480, 481, 482, 483, 484, 485, 486, 487, 488, 489, 490, 381, 382, 383, 384, 385, 386, 387, 388, 389, 390, 391, 491, 393, 394, 395, 396, 397, 398, 399, 400, 401, 402, 403, 404, 405, 406, 407, 408, 409, 410, 411, 412, 413, 414, 415, 416, 417, 418, 419, 420, 421, 422, 423, 424, 425, 426, 427, 428, 492, 493, 494, 495, 496, 497, 498, 499, 500, 501, 502, 503, 504, 95, 96, 97, 505, 506, 507, 508, 94, 509, 510, 511, 512, 513, 514, 515, 516, 517, 336, 337, 338, 518, 519, 520, 521, 358, 119, 120, 121, 98, 99, 522, 523, 524, 525, 526, 527, 528, 529, 530, 531, 532, 533, 534, 535, 536, 537, 538, 164, 165, 166, 539, 540, 541, 542, 543, 544, 42, 43, 44, 45, 46, 47, 48, 49, 50, 53, 545, 546, 547, 548, 303, 256, 299, 300, 301, 302, 128, 549, 152, 153, 154, 155, 156, 569, 570, 571, 572, 573, 574, 575, 576, 577, 578, 579, 580, 581, 582, 622, 623, 624, 625, 626, 627, 628, 583, 584, 585, 586, 587, 588, 589, 590, 591, 592, 593, 594, 595, 596, 597, 598, 599, 600, 601, 629, 602, 603, 604, 605, 606] (by decide +kernel) (by decide +kernel)) (goodIn_sub (fun _ h => List.mem_cons_of_mem _ (List.mem_append_left _ (List.mem_append_right _ h))) (by decide +kernel))
set_option maxRecDepth 20000 in
theorem gL_act_X8_change : GoodIn wsL_act (wsV RL 184 RX8 yX8_change wsX8_change) := goodIn_app (goodIn_of _ (by decide +kernel)) ggL_act_X8_change
set_option maxRecDepth 20000 in
theorem ggL_act_X9_cycle : GoodIn wsL_act wsX9_cycle := goodIn_r _ [199, 21, 26, 561, 562, 563, 564, 565, 566, 567, 568] (by decide +kernel) (by decide +kernel)
set_option maxRecDepth 20000 in
theorem gL_act_X9_cycle_n120 : GoodIn wsL_act (wsX9_cycle) := ggL_act_X9_cycle
set_option maxRecDepth 20000 in
theorem ggL_act_X8_shift : GoodIn wsL_act wsX8_shift := goodIn_ca (goodIn_ca (goodIn_r _ [553, 33, 554, 36, 248, 555, 556, 557, 558, 31, 559, 116, 117, 560, 95, 96, 56, 97, 60, 37, 38, 39, 40, 41, 42, 43, 44, 45, 46, 47, 48, 49, 50, 51, 15, 52, 53, 54, 55, 57, 58, 59, 61, 62, 63, 64, 65, 66, 67, 68, 69, 70, 71, 72, 73, 74, 75, 76, 77, 78, 79, 80, 299, 300, 301, 302, 303, 128, 122, 123, 124, 125, 126, 127, 129, 130, 131, 132, 133, 134, 135, 136, 137, 138, 139, 140, 141, 142, 143, 144, 14, 16, 145, 146, 147, 148, 149, 150, 151, 152, 153, 154, 155, 156, 157, 158, 159, 160, 161, 162, 163, 164, 165, 166, 94, 167, 168, 169, 170, 171, 172, 173, 174, 569, 570, 571, 572, 573, 574, 575, 576, 577, 578, 579, 580, 581, 582, 583, 584, 585, 586, 587, 588, 589, 590, 591, 592, 593, 594, 595, 596, 597, 598, 599, 600, 601, 607, 608, 609, 610, 611, 612, 613, 614, 602, 603, 604, 605, 606] (by decide +kernel) (by decide +kernel)) (goodIn_sub (fun _ h => List.mem_cons_of_mem _ (List.mem_append_right _ h)) (by decide +kernel))) (goodIn_sub (fun _ h => List.mem_cons_of_mem _ (List.mem_append_left _ (List.mem_append_right _ h))) (by decide +kernel))
set_option maxRecDepth 20000 in
theorem gL_act_X8_shift : GoodIn wsL_act (wsV RL 187 RX8 yX8_shift wsX8_shift) := goodIn_app (goodIn_of _ (by decide +kernel)) ggL_act_X8_shift
set_option maxRecDepth 20000 in
theorem ggL_act_X9_worst : GoodIn wsL_act wsX9_worst := goodIn_r _ [230, 10, 13, 14, 15, 16, 191, 192, 193, 7, 194, 195, 196, 197, 198, 199, 21, 26, 200, 201, 202, 203, 17, 18, 19, 20, 22, 23, 24, 25, 27, 561, 562, 563, 564, 565, 566, 567, 568] (by decide +kernel) (by decide +kernel)
set_option maxRecDepth 20000 in
theorem gL_act_X9_worst_n126 : GoodIn wsL_act (wsX9_worst) := ggL_act_X9_worst
theorem dL_act_0 : decode cL_act 0 = .ok (.iload_n 3, 1) := by decide +kernel
theorem dL_act_1 : decode cL_act 1 = .ok (.bipush 16, 2) := by decide +kernel
theorem dL_act_3 : decode cL_act 3 = .ok (.invokestatic 27, 3) := by decide +kernel
theorem dL_act_6 : decode cL_act 6 = .ok (.istore 4, 2) := by decide +kernel
theorem dL_act_8 : decode cL_act 8 = .ok (.iload_n 3, 1) := by decide +kernel
theorem dL_act_9 : decode cL_act 9 = .ok (.iconst 4, 1) := by decide +kernel
theorem dL_act_10 : decode cL_act 10 = .ok (.ishr, 1) := by decide +kernel
theorem dL_act_11 : decode cL_act 11 = .ok (.istore 5, 2) := by decide +kernel
theorem dL_act_13 : decode cL_act 13 = .ok (.iload 4, 2) := by decide +kernel
theorem dL_act_15 : decode cL_act 15 = .ok (.iconst 5, 1) := by decide +kernel
theorem dL_act_16 : decode cL_act 16 = .ok (.if_icmp .ge 55, 3) := by decide +kernel
theorem dL_act_19 : decode cL_act 19 = .ok (.iconst 1, 1) := by decide +kernel
theorem dL_act_20 : decode cL_act 20 = .ok (.iload 5, 2) := by decide +kernel
theorem dL_act_22 : decode cL_act 22 = .ok (.iload 5, 2) := by decide +kernel
theorem dL_act_24 : decode cL_act 24 = .ok (.iconst 3, 1) := by decide +kernel
theorem dL_act_25 : decode cL_act 25 = .ok (.ishr, 1) := by decide +kernel
theorem dL_act_26 : decode cL_act 26 = .ok (.iconst 4, 1) := by decide +kernel
theorem dL_act_27 : decode cL_act 27 = .ok (.invokestatic 27, 3) := by decide +kernel
theorem dL_act_30 : decode cL_act 30 = .ok (.ifCond .ne 8, 3) := by decide +kernel
theorem dL_act_33 : decode cL_act 33 = .ok (.bipush 60, 2) := by decide +kernel
theorem dL_act_35 : decode cL_act 35 = .ok (.goto 5, 3) := by decide +kernel
theorem dL_act_38 : decode cL_act 38 = .ok (.bipush 6, 2) := by decide +kernel
theorem dL_act_40 : decode cL_act 40 = .ok (.invokestatic 27, 3) := by decide +kernel
theorem dL_act_43 : decode cL_act 43 = .ok (.iadd, 1) := by decide +kernel
theorem dL_act_44 : decode cL_act 44 = .ok (.istore 6, 2) := by decide +kernel
theorem dL_act_46 : decode cL_act 46 = .ok (.aload_n 2, 1) := by decide +kernel
theorem dL_act_47 : decode cL_act 47 = .ok (.iload 6, 2) := by decide +kernel
theorem dL_act_49 : decode cL_act 49 = .ok (.invokevirtual 159, 3) := by decide +kernel
theorem dL_act_52 : decode cL_act 52 = .ok (.istore 7, 2) := by decide +kernel
theorem dL_act_54 : decode cL_act 54 = .ok (.aload_n 0, 1) := by decide +kernel
theorem dL_act_55 : decode cL_act 55 = .ok (.iload 6, 2) := by decide +kernel
theorem dL_act_57 : decode cL_act 57 = .ok (.invokevirtual 162, 3) := by decide +kernel
theorem dL_act_60 : decode cL_act 60 = .ok (.iload 7, 2) := by decide +kernel
theorem dL_act_62 : decode cL_act 62 = .ok (.if_icmp .ne 7, 3) := by decide +kernel
theorem dL_act_65 : decode cL_act 65 = .ok (.iconst 1, 1) := by decide +kernel
theorem dL_act_66 : decode cL_act 66 = .ok (.goto 4, 3) := by decide +kernel
theorem dL_act_69 : decode cL_act 69 = .ok (.iconst (-1), 1) := by decide +kernel
theorem dL_act_70 : decode cL_act 70 = .ok (.ireturn, 1) := by decide +kernel
theorem dL_act_71 : decode cL_act 71 = .ok (.iload 4, 2) := by decide +kernel
theorem dL_act_73 : decode cL_act 73 = .ok (.iconst 5, 1) := by decide +kernel
theorem dL_act_74 : decode cL_act 74 = .ok (.if_icmp .ne 76, 3) := by decide +kernel
theorem dL_act_77 : decode cL_act 77 = .ok (.iload 5, 2) := by decide +kernel
theorem dL_act_79 : decode cL_act 79 = .ok (.aload_n 2, 1) := by decide +kernel
theorem dL_act_80 : decode cL_act 80 = .ok (.getfield 31, 3) := by decide +kernel
theorem dL_act_83 : decode cL_act 83 = .ok (.invokestatic 27, 3) := by decide +kernel
theorem dL_act_86 : decode cL_act 86 = .ok (.istore 6, 2) := by decide +kernel
theorem dL_act_88 : decode cL_act 88 = .ok (.aload_n 2, 1) := by decide +kernel
theorem dL_act_89 : decode cL_act 89 = .ok (.getfield 35, 3) := by decide +kernel
theorem dL_act_92 : decode cL_act 92 = .ok (.iload 6, 2) := by decide +kernel
theorem dL_act_94 : decode cL_act 94 = .ok (.aaload, 1) := by decide +kernel
theorem dL_act_95 : decode cL_act 95 = .ok (.iconst 0, 1) := by decide +kernel
theorem dL_act_96 : decode cL_act 96 = .ok (.iload 5, 2) := by decide +kernel
theorem dL_act_98 : decode cL_act 98 = .ok (.iconst 3, 1) := by decide +kernel
theorem dL_act_99 : decode cL_act 99 = .ok (.ishr, 1) := by decide +kernel
theorem dL_act_100 : decode cL_act 100 = .ok (.iload 5, 2) := by decide +kernel
theorem dL_act_102 : decode cL_act 102 = .ok (.iconst 5, 1) := by decide +kernel
theorem dL_act_103 : decode cL_act 103 = .ok (.ishr, 1) := by decide +kernel
theorem dL_act_104 : decode cL_act 104 = .ok (.iconst 3, 1) := by decide +kernel
theorem dL_act_105 : decode cL_act 105 = .ok (.invokestatic 27, 3) := by decide +kernel
theorem dL_act_108 : decode cL_act 108 = .ok (.ifCond .ne 8, 3) := by decide +kernel
theorem dL_act_111 : decode cL_act 111 = .ok (.bipush 100, 2) := by decide +kernel
theorem dL_act_113 : decode cL_act 113 = .ok (.goto 5, 3) := by decide +kernel
theorem dL_act_116 : decode cL_act 116 = .ok (.bipush 6, 2) := by decide +kernel
theorem dL_act_118 : decode cL_act 118 = .ok (.invokestatic 27, 3) := by decide +kernel
theorem dL_act_121 : decode cL_act 121 = .ok (.iastore, 1) := by decide +kernel
theorem dL_act_122 : decode cL_act 122 = .ok (.aload_n 0, 1) := by decide +kernel
theorem dL_act_123 : decode cL_act 123 = .ok (.iload 6, 2) := by decide +kernel
theorem dL_act_125 : decode cL_act 125 = .ok (.aload_n 2, 1) := by decide +kernel
theorem dL_act_126 : decode cL_act 126 = .ok (.getfield 35, 3) := by decide +kernel
theorem dL_act_129 : decode cL_act 129 = .ok (.iload 6, 2) := by decide +kernel
theorem dL_act_131 : decode cL_act 131 = .ok (.aaload, 1) := by decide +kernel
theorem dL_act_132 : decode cL_act 132 = .ok (.iconst 0, 1) := by decide +kernel
theorem dL_act_133 : decode cL_act 133 = .ok (.iaload, 1) := by decide +kernel
theorem dL_act_134 : decode cL_act 134 = .ok (.invokevirtual 163, 3) := by decide +kernel
theorem dL_act_137 : decode cL_act 137 = .ok (.aload_n 2, 1) := by decide +kernel
theorem dL_act_138 : decode cL_act 138 = .ok (.invokevirtual 129, 3) := by decide +kernel
theorem dL_act_141 : decode cL_act 141 = .ok (.if_icmp .ne 7, 3) := by decide +kernel
theorem dL_act_144 : decode cL_act 144 = .ok (.iconst 1, 1) := by decide +kernel
theorem dL_act_145 : decode cL_act 145 = .ok (.goto 4, 3) := by decide +kernel
theorem dL_act_148 : decode cL_act 148 = .ok (.iconst (-1), 1) := by decide +kernel
theorem dL_act_149 : decode cL_act 149 = .ok (.ireturn, 1) := by decide +kernel
theorem dL_act_150 : decode cL_act 150 = .ok (.iload 4, 2) := by decide +kernel
theorem dL_act_152 : decode cL_act 152 = .ok (.bipush 6, 2) := by decide +kernel
theorem dL_act_154 : decode cL_act 154 = .ok (.if_icmp .ne 86, 3) := by decide +kernel
theorem dL_act_157 : decode cL_act 157 = .ok (.aload_n 2, 1) := by decide +kernel
theorem dL_act_158 : decode cL_act 158 = .ok (.invokevirtual 166, 3) := by decide +kernel
theorem dL_act_161 : decode cL_act 161 = .ok (.astore 6, 2) := by decide +kernel
theorem dL_act_163 : decode cL_act 163 = .ok (.iconst 0, 1) := by decide +kernel
theorem dL_act_164 : decode cL_act 164 = .ok (.istore 7, 2) := by decide +kernel
theorem dL_act_166 : decode cL_act 166 = .ok (.iconst 0, 1) := by decide +kernel
theorem dL_act_167 : decode cL_act 167 = .ok (.istore 8, 2) := by decide +kernel
theorem dL_act_169 : decode cL_act 169 = .ok (.iload 8, 2) := by decide +kernel
theorem dL_act_171 : decode cL_act 171 = .ok (.aload_n 2, 1) := by decide +kernel
theorem dL_act_172 : decode cL_act 172 = .ok (.getfield 56, 3) := by decide +kernel
theorem dL_act_175 : decode cL_act 175 = .ok (.if_icmp .ge 50, 3) := by decide +kernel
theorem dL_act_178 : decode cL_act 178 = .ok (.iload 7, 2) := by decide +kernel
theorem dL_act_180 : decode cL_act 180 = .ok (.aload_n 2, 1) := by decide +kernel
theorem dL_act_181 : decode cL_act 181 = .ok (.getfield 52, 3) := by decide +kernel
theorem dL_act_184 : decode cL_act 184 = .ok (.iload 8, 2) := by decide +kernel
theorem dL_act_186 : decode cL_act 186 = .ok (.iaload, 1) := by decide +kernel
theorem dL_act_187 : decode cL_act 187 = .ok (.aload 6, 2) := by decide +kernel
theorem dL_act_189 : decode cL_act 189 = .ok (.iconst 2, 1) := by decide +kernel
theorem dL_act_190 : decode cL_act 190 = .ok (.iload 8, 2) := by decide +kernel
theorem dL_act_192 : decode cL_act 192 = .ok (.iadd, 1) := by decide +kernel
theorem dL_act_193 : decode cL_act 193 = .ok (.iaload, 1) := by decide +kernel
theorem dL_act_194 : decode cL_act 194 = .ok (.if_icmp .ne 7, 3) := by decide +kernel
theorem dL_act_197 : decode cL_act 197 = .ok (.iconst 0, 1) := by decide +kernel
theorem dL_act_198 : decode cL_act 198 = .ok (.goto 4, 3) := by decide +kernel
theorem dL_act_201 : decode cL_act 201 = .ok (.iconst 1, 1) := by decide +kernel
theorem dL_act_202 : decode cL_act 202 = .ok (.iadd, 1) := by decide +kernel
theorem dL_act_203 : decode cL_act 203 = .ok (.istore 7, 2) := by decide +kernel
theorem dL_act_205 : decode cL_act 205 = .ok (.aload_n 2, 1) := by decide +kernel
theorem dL_act_206 : decode cL_act 206 = .ok (.getfield 52, 3) := by decide +kernel
theorem dL_act_209 : decode cL_act 209 = .ok (.iload 8, 2) := by decide +kernel
theorem dL_act_211 : decode cL_act 211 = .ok (.aload 6, 2) := by decide +kernel
theorem dL_act_213 : decode cL_act 213 = .ok (.iconst 2, 1) := by decide +kernel
theorem dL_act_214 : decode cL_act 214 = .ok (.iload 8, 2) := by decide +kernel
theorem dL_act_216 : decode cL_act 216 = .ok (.iadd, 1) := by decide +kernel
theorem dL_act_217 : decode cL_act 217 = .ok (.iaload, 1) := by decide +kernel
theorem dL_act_218 : decode cL_act 218 = .ok (.iastore, 1) := by decide +kernel
theorem dL_act_219 : decode cL_act 219 = .ok (.iinc 8 1, 3) := by decide +kernel
theorem dL_act_222 : decode cL_act 222 = .ok (.goto (-53), 3) := by decide +kernel
theorem dL_act_225 : decode cL_act 225 = .ok (.aload_n 0, 1) := by decide +kernel
theorem dL_act_226 : decode cL_act 226 = .ok (.invokevirtual 170, 3) := by decide +kernel
theorem dL_act_229 : decode cL_act 229 = .ok (.iload 7, 2) := by decide +kernel
theorem dL_act_231 : decode cL_act 231 = .ok (.if_icmp .ne 7, 3) := by decide +kernel
theorem dL_act_234 : decode cL_act 234 = .ok (.iconst 1, 1) := by decide +kernel
theorem dL_act_235 : decode cL_act 235 = .ok (.goto 4, 3) := by decide +kernel
theorem dL_act_238 : decode cL_act 238 = .ok (.iconst (-1), 1) := by decide +kernel
theorem dL_act_239 : decode cL_act 239 = .ok (.ireturn, 1) := by decide +kernel
theorem dL_act_240 : decode cL_act 240 = .ok (.iload 4, 2) := by decide +kernel
theorem dL_act_242 : decode cL_act 242 = .ok (.bipush 12, 2) := by decide +kernel
theorem dL_act_244 : decode cL_act 244 = .ok (.if_icmp .ge 202, 3) := by decide +kernel
theorem dL_act_247 : decode cL_act 247 = .ok (.aload_n 2, 1) := by decide +kernel
theorem dL_act_248 : decode cL_act 248 = .ok (.getfield 42, 3) := by decide +kernel
theorem dL_act_251 : decode cL_act 251 = .ok (.ifCond .ne 5, 3) := by decide +kernel
theorem dL_act_254 : decode cL_act 254 = .ok (.iconst 0, 1) := by decide +kernel
theorem dL_act_255 : decode cL_act 255 = .ok (.ireturn, 1) := by decide +kernel
theorem dL_act_256 : decode cL_act 256 = .ok (.iload 5, 2) := by decide +kernel
theorem dL_act_258 : decode cL_act 258 = .ok (.aload_n 2, 1) := by decide +kernel
theorem dL_act_259 : decode cL_act 259 = .ok (.getfield 42, 3) := by decide +kernel
theorem dL_act_262 : decode cL_act 262 = .ok (.invokestatic 27, 3) := by decide +kernel
theorem dL_act_265 : decode cL_act 265 = .ok (.istore 6, 2) := by decide +kernel
theorem dL_act_267 : decode cL_act 267 = .ok (.iload 4, 2) := by decide +kernel
theorem dL_act_269 : decode cL_act 269 = .ok (.bipush 9, 2) := by decide +kernel
theorem dL_act_271 : decode cL_act 271 = .ok (.if_icmp .ge 115, 3) := by decide +kernel
theorem dL_act_274 : decode cL_act 274 = .ok (.aload_n 2, 1) := by decide +kernel
theorem dL_act_275 : decode cL_act 275 = .ok (.getfield 39, 3) := by decide +kernel
theorem dL_act_278 : decode cL_act 278 = .ok (.iload 6, 2) := by decide +kernel
theorem dL_act_280 : decode cL_act 280 = .ok (.aaload, 1) := by decide +kernel
theorem dL_act_281 : decode cL_act 281 = .ok (.iconst 2, 1) := by decide +kernel
theorem dL_act_282 : decode cL_act 282 = .ok (.iaload, 1) := by decide +kernel
theorem dL_act_283 : decode cL_act 283 = .ok (.ifCond .ne 8, 3) := by decide +kernel
theorem dL_act_286 : decode cL_act 286 = .ok (.bipush (-2), 2) := by decide +kernel
theorem dL_act_288 : decode cL_act 288 = .ok (.goto 44, 3) := by decide +kernel
theorem dL_act_291 : decode cL_act 291 = .ok (.aload_n 2, 1) := by decide +kernel
theorem dL_act_292 : decode cL_act 292 = .ok (.iload 6, 2) := by decide +kernel
theorem dL_act_294 : decode cL_act 294 = .ok (.invokevirtual 143, 3) := by decide +kernel
theorem dL_act_297 : decode cL_act 297 = .ok (.ifCond .le 34, 3) := by decide +kernel
theorem dL_act_300 : decode cL_act 300 = .ok (.aload_n 2, 1) := by decide +kernel
theorem dL_act_301 : decode cL_act 301 = .ok (.aload_n 2, 1) := by decide +kernel
theorem dL_act_302 : decode cL_act 302 = .ok (.getfield 39, 3) := by decide +kernel
theorem dL_act_305 : decode cL_act 305 = .ok (.iload 6, 2) := by decide +kernel
theorem dL_act_307 : decode cL_act 307 = .ok (.aaload, 1) := by decide +kernel
theorem dL_act_308 : decode cL_act 308 = .ok (.iconst 0, 1) := by decide +kernel
theorem dL_act_309 : decode cL_act 309 = .ok (.iaload, 1) := by decide +kernel
theorem dL_act_310 : decode cL_act 310 = .ok (.aload_n 2, 1) := by decide +kernel
theorem dL_act_311 : decode cL_act 311 = .ok (.getfield 39, 3) := by decide +kernel
theorem dL_act_314 : decode cL_act 314 = .ok (.iload 6, 2) := by decide +kernel
theorem dL_act_316 : decode cL_act 316 = .ok (.aaload, 1) := by decide +kernel
theorem dL_act_317 : decode cL_act 317 = .ok (.iconst 1, 1) := by decide +kernel
theorem dL_act_318 : decode cL_act 318 = .ok (.iaload, 1) := by decide +kernel
theorem dL_act_319 : decode cL_act 319 = .ok (.invokevirtual 173, 3) := by decide +kernel
theorem dL_act_322 : decode cL_act 322 = .ok (.iconst 1, 1) := by decide +kernel
theorem dL_act_323 : decode cL_act 323 = .ok (.if_icmp .ne 8, 3) := by decide +kernel
theorem dL_act_326 : decode cL_act 326 = .ok (.bipush (-3), 2) := by decide +kernel
theorem dL_act_328 : decode cL_act 328 = .ok (.goto 4, 3) := by decide +kernel
theorem dL_act_331 : decode cL_act 331 = .ok (.iconst 0, 1) := by decide +kernel
theorem dL_act_332 : decode cL_act 332 = .ok (.istore 7, 2) := by decide +kernel
theorem dL_act_334 : decode cL_act 334 = .ok (.iload 7, 2) := by decide +kernel
theorem dL_act_336 : decode cL_act 336 = .ok (.ifCond .ge 20, 3) := by decide +kernel
theorem dL_act_339 : decode cL_act 339 = .ok (.aload_n 0, 1) := by decide +kernel
theorem dL_act_340 : decode cL_act 340 = .ok (.iload 6, 2) := by decide +kernel
theorem dL_act_342 : decode cL_act 342 = .ok (.invokevirtual 176, 3) := by decide +kernel
theorem dL_act_345 : decode cL_act 345 = .ok (.iload 7, 2) := by decide +kernel
theorem dL_act_347 : decode cL_act 347 = .ok (.if_icmp .ne 7, 3) := by decide +kernel
theorem dL_act_350 : decode cL_act 350 = .ok (.iconst 0, 1) := by decide +kernel
theorem dL_act_351 : decode cL_act 351 = .ok (.goto 4, 3) := by decide +kernel
theorem dL_act_354 : decode cL_act 354 = .ok (.iconst (-1), 1) := by decide +kernel
theorem dL_act_355 : decode cL_act 355 = .ok (.ireturn, 1) := by decide +kernel
theorem dL_act_356 : decode cL_act 356 = .ok (.aload_n 2, 1) := by decide +kernel
theorem dL_act_357 : decode cL_act 357 = .ok (.getfield 39, 3) := by decide +kernel
theorem dL_act_360 : decode cL_act 360 = .ok (.iload 6, 2) := by decide +kernel
theorem dL_act_362 : decode cL_act 362 = .ok (.aaload, 1) := by decide +kernel
theorem dL_act_363 : decode cL_act 363 = .ok (.iconst 2, 1) := by decide +kernel
theorem dL_act_364 : decode cL_act 364 = .ok (.iconst 0, 1) := by decide +kernel
theorem dL_act_365 : decode cL_act 365 = .ok (.iastore, 1) := by decide +kernel
theorem dL_act_366 : decode cL_act 366 = .ok (.aload_n 0, 1) := by decide +kernel
theorem dL_act_367 : decode cL_act 367 = .ok (.iload 6, 2) := by decide +kernel
theorem dL_act_369 : decode cL_act 369 = .ok (.invokevirtual 176, 3) := by decide +kernel
theorem dL_act_372 : decode cL_act 372 = .ok (.aload_n 2, 1) := by decide +kernel
theorem dL_act_373 : decode cL_act 373 = .ok (.iconst (-1), 1) := by decide +kernel
theorem dL_act_374 : decode cL_act 374 = .ok (.invokevirtual 135, 3) := by decide +kernel
theorem dL_act_377 : decode cL_act 377 = .ok (.if_icmp .ne 7, 3) := by decide +kernel
theorem dL_act_380 : decode cL_act 380 = .ok (.iconst 1, 1) := by decide +kernel
theorem dL_act_381 : decode cL_act 381 = .ok (.goto 4, 3) := by decide +kernel
theorem dL_act_384 : decode cL_act 384 = .ok (.iconst (-1), 1) := by decide +kernel
theorem dL_act_385 : decode cL_act 385 = .ok (.ireturn, 1) := by decide +kernel
theorem dL_act_386 : decode cL_act 386 = .ok (.aload_n 2, 1) := by decide +kernel
theorem dL_act_387 : decode cL_act 387 = .ok (.getfield 39, 3) := by decide +kernel
theorem dL_act_390 : decode cL_act 390 = .ok (.iload 6, 2) := by decide +kernel
theorem dL_act_392 : decode cL_act 392 = .ok (.aaload, 1) := by decide +kernel
theorem dL_act_393 : decode cL_act 393 = .ok (.iconst 2, 1) := by decide +kernel
theorem dL_act_394 : decode cL_act 394 = .ok (.iaload, 1) := by decide +kernel
theorem dL_act_395 : decode cL_act 395 = .ok (.iconst 1, 1) := by decide +kernel
theorem dL_act_396 : decode cL_act 396 = .ok (.if_icmp .ne 20, 3) := by decide +kernel
theorem dL_act_399 : decode cL_act 399 = .ok (.aload_n 0, 1) := by decide +kernel
theorem dL_act_400 : decode cL_act 400 = .ok (.iload 6, 2) := by decide +kernel
theorem dL_act_402 : decode cL_act 402 = .ok (.invokevirtual 179, 3) := by decide +kernel
theorem dL_act_405 : decode cL_act 405 = .ok (.bipush (-2), 2) := by decide +kernel
theorem dL_act_407 : decode cL_act 407 = .ok (.if_icmp .ne 7, 3) := by decide +kernel
theorem dL_act_410 : decode cL_act 410 = .ok (.iconst 0, 1) := by decide +kernel
theorem dL_act_411 : decode cL_act 411 = .ok (.goto 4, 3) := by decide +kernel
theorem dL_act_414 : decode cL_act 414 = .ok (.iconst (-1), 1) := by decide +kernel
theorem dL_act_415 : decode cL_act 415 = .ok (.ireturn, 1) := by decide +kernel
theorem dL_act_416 : decode cL_act 416 = .ok (.aload_n 2, 1) := by decide +kernel
theorem dL_act_417 : decode cL_act 417 = .ok (.getfield 39, 3) := by decide +kernel
theorem dL_act_420 : decode cL_act 420 = .ok (.iload 6, 2) := by decide +kernel
theorem dL_act_422 : decode cL_act 422 = .ok (.aaload, 1) := by decide +kernel
theorem dL_act_423 : decode cL_act 423 = .ok (.iconst 2, 1) := by decide +kernel
theorem dL_act_424 : decode cL_act 424 = .ok (.iconst 1, 1) := by decide +kernel
theorem dL_act_425 : decode cL_act 425 = .ok (.iastore, 1) := by decide +kernel
theorem dL_act_426 : decode cL_act 426 = .ok (.aload_n 0, 1) := by decide +kernel
theorem dL_act_427 : decode cL_act 427 = .ok (.iload 6, 2) := by decide +kernel
theorem dL_act_429 : decode cL_act 429 = .ok (.invokevirtual 179, 3) := by decide +kernel
theorem dL_act_432 : decode cL_act 432 = .ok (.aload_n 2, 1) := by decide +kernel
theorem dL_act_433 : decode cL_act 433 = .ok (.iconst (-1), 1) := by decide +kernel
theorem dL_act_434 : decode cL_act 434 = .ok (.invokevirtual 135, 3) := by decide +kernel
theorem dL_act_437 : decode cL_act 437 = .ok (.if_icmp .ne 7, 3) := by decide +kernel
theorem dL_act_440 : decode cL_act 440 = .ok (.iconst 1, 1) := by decide +kernel
theorem dL_act_441 : decode cL_act 441 = .ok (.goto 4, 3) := by decide +kernel
theorem dL_act_444 : decode cL_act 444 = .ok (.iconst (-1), 1) := by decide +kernel
theorem dL_act_445 : decode cL_act 445 = .ok (.ireturn, 1) := by decide +kernel
theorem dL_act_446 : decode cL_act 446 = .ok (.aload_n 2, 1) := by decide +kernel
theorem dL_act_447 : decode cL_act 447 = .ok (.getfield 56, 3) := by decide +kernel
theorem dL_act_450 : decode cL_act 450 = .ok (.ifCond .ne 5, 3) := by decide +kernel
theorem dL_act_453 : decode cL_act 453 = .ok (.iconst 0, 1) := by decide +kernel
theorem dL_act_454 : decode cL_act 454 = .ok (.ireturn, 1) := by decide +kernel
theorem dL_act_455 : decode cL_act 455 = .ok (.iload 5, 2) := by decide +kernel
theorem dL_act_457 : decode cL_act 457 = .ok (.aload_n 2, 1) := by decide +kernel
theorem dL_act_458 : decode cL_act 458 = .ok (.getfield 56, 3) := by decide +kernel
theorem dL_act_461 : decode cL_act 461 = .ok (.invokestatic 27, 3) := by decide +kernel
theorem dL_act_464 : decode cL_act 464 = .ok (.istore 6, 2) := by decide +kernel
theorem dL_act_466 : decode cL_act 466 = .ok (.iload 4, 2) := by decide +kernel
theorem dL_act_468 : decode cL_act 468 = .ok (.bipush 14, 2) := by decide +kernel
theorem dL_act_470 : decode cL_act 470 = .ok (.if_icmp .ge 91, 3) := by decide +kernel
theorem dL_act_473 : decode cL_act 473 = .ok (.aload_n 2, 1) := by decide +kernel
theorem dL_act_474 : decode cL_act 474 = .ok (.getfield 45, 3) := by decide +kernel
theorem dL_act_477 : decode cL_act 477 = .ok (.iload 6, 2) := by decide +kernel
theorem dL_act_479 : decode cL_act 479 = .ok (.aload_n 2, 1) := by decide +kernel
theorem dL_act_480 : decode cL_act 480 = .ok (.iload 5, 2) := by decide +kernel
theorem dL_act_482 : decode cL_act 482 = .ok (.iconst 2, 1) := by decide +kernel
theorem dL_act_483 : decode cL_act 483 = .ok (.ishr, 1) := by decide +kernel
theorem dL_act_484 : decode cL_act 484 = .ok (.invokevirtual 48, 3) := by decide +kernel
theorem dL_act_487 : decode cL_act 487 = .ok (.aastore, 1) := by decide +kernel
theorem dL_act_488 : decode cL_act 488 = .ok (.aload_n 2, 1) := by decide +kernel
theorem dL_act_489 : decode cL_act 489 = .ok (.getfield 52, 3) := by decide +kernel
theorem dL_act_492 : decode cL_act 492 = .ok (.iload 6, 2) := by decide +kernel
theorem dL_act_494 : decode cL_act 494 = .ok (.iload 5, 2) := by decide +kernel
theorem dL_act_496 : decode cL_act 496 = .ok (.bipush 8, 2) := by decide +kernel
theorem dL_act_498 : decode cL_act 498 = .ok (.ishr, 1) := by decide +kernel
theorem dL_act_499 : decode cL_act 499 = .ok (.aload_n 2, 1) := by decide +kernel
theorem dL_act_500 : decode cL_act 500 = .ok (.getfield 45, 3) := by decide +kernel
theorem dL_act_503 : decode cL_act 503 = .ok (.iload 6, 2) := by decide +kernel
theorem dL_act_505 : decode cL_act 505 = .ok (.aaload, 1) := by decide +kernel
theorem dL_act_506 : decode cL_act 506 = .ok (.arraylength, 1) := by decide +kernel
theorem dL_act_507 : decode cL_act 507 = .ok (.invokestatic 27, 3) := by decide +kernel
theorem dL_act_510 : decode cL_act 510 = .ok (.iastore, 1) := by decide +kernel
theorem dL_act_511 : decode cL_act 511 = .ok (.aload_n 0, 1) := by decide +kernel
theorem dL_act_512 : decode cL_act 512 = .ok (.aload_n 1, 1) := by decide +kernel
theorem dL_act_513 : decode cL_act 513 = .ok (.ldc 182, 2) := by decide +kernel
theorem dL_act_515 : decode cL_act 515 = .ok (.iload 6, 2) := by decide +kernel
theorem dL_act_517 : decode cL_act 517 = .ok (.invokestatic 78, 3) := by decide +kernel
theorem dL_act_520 : decode cL_act 520 = .ok (.aload_n 0, 1) := by decide +kernel
theorem dL_act_521 : decode cL_act 521 = .ok (.aload_n 1, 1) := by decide +kernel
theorem dL_act_522 : decode cL_act 522 = .ok (.aload_n 2, 1) := by decide +kernel
theorem dL_act_523 : decode cL_act 523 = .ok (.getfield 45, 3) := by decide +kernel
theorem dL_act_526 : decode cL_act 526 = .ok (.iload 6, 2) := by decide +kernel
theorem dL_act_528 : decode cL_act 528 = .ok (.aaload, 1) := by decide +kernel
theorem dL_act_529 : decode cL_act 529 = .ok (.aload_n 2, 1) := by decide +kernel
theorem dL_act_530 : decode cL_act 530 = .ok (.getfield 52, 3) := by decide +kernel
theorem dL_act_533 : decode cL_act 533 = .ok (.iload 6, 2) := by decide +kernel
theorem dL_act_535 : decode cL_act 535 = .ok (.iaload, 1) := by decide +kernel
theorem dL_act_536 : decode cL_act 536 = .ok (.invokestatic 94, 3) := by decide +kernel
theorem dL_act_539 : decode cL_act 539 = .ok (.aload_n 0, 1) := by decide +kernel
theorem dL_act_540 : decode cL_act 540 = .ok (.aload_n 0, 1) := by decide +kernel
theorem dL_act_541 : decode cL_act 541 = .ok (.aload_n 1, 1) := by decide +kernel
theorem dL_act_542 : decode cL_act 542 = .ok (.invokestatic 100, 3) := by decide +kernel
theorem dL_act_545 : decode cL_act 545 = .ok (.invokevirtual 184, 3) := by decide +kernel
theorem dL_act_548 : decode cL_act 548 = .ok (.aload_n 2, 1) := by decide +kernel
theorem dL_act_549 : decode cL_act 549 = .ok (.invokevirtual 120, 3) := by decide +kernel
theorem dL_act_552 : decode cL_act 552 = .ok (.if_icmp .ne 7, 3) := by decide +kernel
theorem dL_act_555 : decode cL_act 555 = .ok (.iconst 1, 1) := by decide +kernel
theorem dL_act_556 : decode cL_act 556 = .ok (.goto 4, 3) := by decide +kernel
theorem dL_act_559 : decode cL_act 559 = .ok (.iconst (-1), 1) := by decide +kernel
theorem dL_act_560 : decode cL_act 560 = .ok (.ireturn, 1) := by decide +kernel
theorem dL_act_561 : decode cL_act 561 = .ok (.aload_n 2, 1) := by decide +kernel
theorem dL_act_562 : decode cL_act 562 = .ok (.getfield 52, 3) := by decide +kernel
theorem dL_act_565 : decode cL_act 565 = .ok (.iload 6, 2) := by decide +kernel
theorem dL_act_567 : decode cL_act 567 = .ok (.iload 5, 2) := by decide +kernel
theorem dL_act_569 : decode cL_act 569 = .ok (.iconst 3, 1) := by decide +kernel
theorem dL_act_570 : decode cL_act 570 = .ok (.ishr, 1) := by decide +kernel
theorem dL_act_571 : decode cL_act 571 = .ok (.aload_n 2, 1) := by decide +kernel
theorem dL_act_572 : decode cL_act 572 = .ok (.getfield 45, 3) := by decide +kernel
theorem dL_act_575 : decode cL_act 575 = .ok (.iload 6, 2) := by decide +kernel
theorem dL_act_577 : decode cL_act 577 = .ok (.aaload, 1) := by decide +kernel
theorem dL_act_578 : decode cL_act 578 = .ok (.arraylength, 1) := by decide +kernel
theorem dL_act_579 : decode cL_act 579 = .ok (.invokestatic 27, 3) := by decide +kernel
theorem dL_act_582 : decode cL_act 582 = .ok (.iastore, 1) := by decide +kernel
theorem dL_act_583 : decode cL_act 583 = .ok (.aload_n 0, 1) := by decide +kernel
theorem dL_act_584 : decode cL_act 584 = .ok (.iload 6, 2) := by decide +kernel
theorem dL_act_586 : decode cL_act 586 = .ok (.aload_n 2, 1) := by decide +kernel
theorem dL_act_587 : decode cL_act 587 = .ok (.getfield 52, 3) := by decide +kernel
theorem dL_act_590 : decode cL_act 590 = .ok (.iload 6, 2) := by decide +kernel
theorem dL_act_592 : decode cL_act 592 = .ok (.iaload, 1) := by decide +kernel
theorem dL_act_593 : decode cL_act 593 = .ok (.invokevirtual 187, 3) := by decide +kernel
theorem dL_act_596 : decode cL_act 596 = .ok (.aload_n 2, 1) := by decide +kernel
theorem dL_act_597 : decode cL_act 597 = .ok (.invokevirtual 126, 3) := by decide +kernel
theorem dL_act_600 : decode cL_act 600 = .ok (.if_icmp .ne 7, 3) := by decide +kernel
theorem dL_act_603 : decode cL_act 603 = .ok (.iconst 1, 1) := by decide +kernel
theorem dL_act_604 : decode cL_act 604 = .ok (.goto 4, 3) := by decide +kernel
theorem dL_act_607 : decode cL_act 607 = .ok (.iconst (-1), 1) := by decide +kernel
theorem dL_act_608 : decode cL_act 608 = .ok (.ireturn, 1) := by decide +kernel
set_option maxRecDepth 20000 in
theorem ggL_all_X8_size : GoodIn wsL_all wsX8_size := goodIn_ca (goodIn_r _ [6, 7, 8, 9, 10, 11, 12, 13, 14, 15, 16, 17, 18, 19, 20, 21, 22, 5, 23, 24, 25, 26, 27, 28, 29, 30, 31, 32, 33, 34, 35, 36, 37, 38, 39, 40, 41, 42, 43, 44, 45, 46, 47, 48, 49, 50, 51, 52, 53, 54, 55, 56, 57, 58, 59, 60, 61, 62, 63, 64, 65, 66, 67, 68, 69, 70, 71, 72, 73, 74, 75, 76, 77, 78, 79, 80, 81, 82, 83, 84, 85, 86, 87, 88, 89, 90, 91, 92, 93, 94, 95, 96, 97, 98, 99, 100, 101, 102, 103, 104, 105, 106, 107, 108, 109, 110, 111, 112, 113, 114, 115, 116, 117, 118, 119, 120, 121, 122, 123, 200, 201, 202, 203, 204, 205, 206, 207, 208, 209, 210, 211, 212, 213, 214, 215, 216, 217, 218, 219, 220, 221, 222, 223, 224, 225, 226, 227, 228, 229, 230, 231, 232, 233, 234, 235, 236, 237, 238, 239, 240] (by decide +kernel) (by decide +kernel)) (goodIn_sub (fun _ h => List.mem_cons_of_mem _ (List.mem_append_right _ h)) (by decide +kernel))
set_option maxRecDepth 20000 in
theorem gL_all_X8_size : GoodIn wsL_all (wsV RL 138 RX8 yX8_size wsX8_size) := goodIn_app (goodIn_of _ (by decide +kernel)) ggL_all_X8_size
set_option maxRecDepth 20000 in
theorem ggL_all_X8_room : GoodIn wsL_all wsX8_room := goodIn_ca (goodIn_r _ [127, 7, 8, 9, 128, 129, 130, 131, 132, 133, 134, 135, 136, 137, 5, 138, 139, 140, 141, 18, 142, 122, 24, 25, 26, 27, 28, 29, 30, 31, 32, 33, 34, 35, 36, 37, 38, 39, 40, 41, 42, 43, 44, 45, 46, 47, 48, 49, 50, 51, 52, 53, 54, 55, 56, 57, 58, 59, 16, 17, 19, 20, 21, 22, 23, 60, 61, 62, 63, 64, 65, 66, 67, 68, 69, 70, 71, 72, 73, 74, 75, 76, 77, 78, 79, 80, 81, 82, 143, 88, 89, 90, 91, 200, 201, 202, 203, 204, 205, 206, 207, 208, 209, 210, 211, 212, 213, 214, 215, 216, 217, 218, 219, 220, 221, 222, 223, 224, 225, 226, 227, 228, 229, 230, 231, 232, 233, 234, 235, 236, 237, 238, 239, 240] (by decide +kernel) (by decide +kernel)) (goodIn_sub (fun _ h => List.mem_cons_of_mem _ (List.mem_append_right _ h)) (by decide +kernel))
set_option maxRecDepth 20000 in
theorem gL_all_X8_room : GoodIn wsL_all (wsV RL 118 RX8 yX8_room wsX8_room) := goodIn_app (goodIn_of _ (by decide +kernel)) ggL_all_X8_room
set_option maxRecDepth 20000 in
theorem ggL_all_X8_door : GoodIn wsL_all wsX8_door := goodIn_ca (goodIn_r _ [147, 7, 8, 9, 148, 149, 150, 151, 152, 5, 153, 154, 155, 156, 18, 157, 158, 159, 160, 161, 162, 110, 163, 164, 165, 166, 167, 168, 20, 169, 170, 171, 172, 173, 174, 175, 176, 177, 178, 179, 21, 70, 71, 72, 73, 74, 180, 67, 68, 69, 200, 201, 202, 203, 204, 205, 206, 207, 208, 209, 210, 211, 212, 213, 214, 215, 216, 217, 218, 219, 220, 221, 222, 223, 224, 225, 226, 227, 228, 229, 230, 231, 232] (by decide +kernel) (by decide +kernel)) (goodIn_sub (fun _ h => List.mem_cons_of_mem _ (List.mem_append_right _ h)) (by decide +kernel))
set_option maxRecDepth 20000 in
theorem gL_all_X8_door : GoodIn wsL_all (wsV RL 141 RX8 yX8_door wsX8_door) := goodIn_app (goodIn_of _ (by decide +kernel)) ggL_all_X8_door
set_option maxRecDepth 20000 in
theorem ggL_all_X8_guard : GoodIn wsL_all wsX8_guard := goodIn_ca (goodIn_r _ [184, 7, 8, 9, 185, 186, 13, 187, 188, 189, 190, 5, 191, 192, 72, 73, 18, 74, 20, 193, 102, 103, 104, 21, 105, 70, 71, 194, 112, 113, 114, 115, 116, 117, 200, 201, 202, 203, 204, 205, 206, 207, 208, 209, 210, 211, 212, 213, 214, 215, 216, 217, 218, 219, 220, 221, 222, 223, 224, 225, 226, 227, 228, 229, 230, 231, 232] (by decide +kernel) (by decide +kernel)) (goodIn_sub (fun _ h => List.mem_cons_of_mem _ (List.mem_append_right _ h)) (by decide +kernel))
set_option maxRecDepth 20000 in
theorem gL_all_X8_guard : GoodIn wsL_all (wsV RL 155 RX8 yX8_guard wsX8_guard) := goodIn_app (goodIn_of _ (by decide +kernel)) ggL_all_X8_guard
set_option maxRecDepth 20000 in
theorem ggL_all_X8_walk : GoodIn wsL_all wsX8_walk := goodIn_ca (goodIn_r _ [198, 9, 188, 189, 190, 5, 191, 7, 8, 192, 72, 73, 18, 74, 20, 199, 67, 68, 69, 21, 70, 71, 200, 201, 202, 203, 204, 205, 206, 207, 208, 209, 210, 211, 212, 213, 214, 215, 216, 217, 218, 219, 220, 221, 222, 223, 224, 225, 226, 227, 228, 229, 230, 231, 232] (by decide +kernel) (by decide +kernel)) (goodIn_sub (fun _ h => List.mem_cons_of_mem _ (List.mem_append_right _ h)) (by decide +kernel))
set_option maxRecDepth 20000 in
theorem gL_all_X8_walk : GoodIn wsL_all (wsV RL 157 RX8 yX8_walk wsX8_walk) := goodIn_app (goodIn_of _ (by decide +kernel)) ggL_all_X8_walk
theorem dL_all_0 : decode cL_all 0 = .ok (.lconst 0, 1) := by decide +kernel
theorem dL_all_1 : decode cL_all 1 = .ok (.lstore_n 1, 1) := by decide +kernel
theorem dL_all_2 : decode cL_all 2 = .ok (.iconst 0, 1) := by decide +kernel
theorem dL_all_3 : decode cL_all 3 = .ok (.istore_n 3, 1) := by decide +kernel
theorem dL_all_4 : decode cL_all 4 = .ok (.iload_n 3, 1) := by decide +kernel
theorem dL_all_5 : decode cL_all 5 = .ok (.bipush 10, 2) := by decide +kernel
theorem dL_all_7 : decode cL_all 7 = .ok (.if_icmp .ge 22, 3) := by decide +kernel
theorem dL_all_10 : decode cL_all 10 = .ok (.ldc2_w 190, 3) := by decide +kernel
theorem dL_all_13 : decode cL_all 13 = .ok (.lload_n 1, 1) := by decide +kernel
theorem dL_all_14 : decode cL_all 14 = .ok (.lmul, 1) := by decide +kernel
theorem dL_all_15 : decode cL_all 15 = .ok (.aload_n 0, 1) := by decide +kernel
theorem dL_all_16 : decode cL_all 16 = .ok (.iload_n 3, 1) := by decide +kernel
theorem dL_all_17 : decode cL_all 17 = .ok (.invokevirtual 138, 3) := by decide +kernel
theorem dL_all_20 : decode cL_all 20 = .ok (.i2l, 1) := by decide +kernel
theorem dL_all_21 : decode cL_all 21 = .ok (.ladd, 1) := by decide +kernel
theorem dL_all_22 : decode cL_all 22 = .ok (.lstore_n 1, 1) := by decide +kernel
theorem dL_all_23 : decode cL_all 23 = .ok (.iinc 3 1, 3) := by decide +kernel
theorem dL_all_26 : decode cL_all 26 = .ok (.goto (-22), 3) := by decide +kernel
theorem dL_all_29 : decode cL_all 29 = .ok (.iconst 0, 1) := by decide +kernel
theorem dL_all_30 : decode cL_all 30 = .ok (.istore_n 3, 1) := by decide +kernel
theorem dL_all_31 : decode cL_all 31 = .ok (.iload_n 3, 1) := by decide +kernel
theorem dL_all_32 : decode cL_all 32 = .ok (.aload_n 0, 1) := by decide +kernel
theorem dL_all_33 : decode cL_all 33 = .ok (.iconst 0, 1) := by decide +kernel
theorem dL_all_34 : decode cL_all 34 = .ok (.invokevirtual 138, 3) := by decide +kernel
theorem dL_all_37 : decode cL_all 37 = .ok (.if_icmp .ge 40, 3) := by decide +kernel
theorem dL_all_40 : decode cL_all 40 = .ok (.iconst 0, 1) := by decide +kernel
theorem dL_all_41 : decode cL_all 41 = .ok (.istore 4, 2) := by decide +kernel
theorem dL_all_43 : decode cL_all 43 = .ok (.iload 4, 2) := by decide +kernel
theorem dL_all_45 : decode cL_all 45 = .ok (.bipush 8, 2) := by decide +kernel
theorem dL_all_47 : decode cL_all 47 = .ok (.if_icmp .ge 24, 3) := by decide +kernel
theorem dL_all_50 : decode cL_all 50 = .ok (.ldc2_w 190, 3) := by decide +kernel
theorem dL_all_53 : decode cL_all 53 = .ok (.lload_n 1, 1) := by decide +kernel
theorem dL_all_54 : decode cL_all 54 = .ok (.lmul, 1) := by decide +kernel
theorem dL_all_55 : decode cL_all 55 = .ok (.aload_n 0, 1) := by decide +kernel
theorem dL_all_56 : decode cL_all 56 = .ok (.iload_n 3, 1) := by decide +kernel
theorem dL_all_57 : decode cL_all 57 = .ok (.iload 4, 2) := by decide +kernel
theorem dL_all_59 : decode cL_all 59 = .ok (.invokevirtual 118, 3) := by decide +kernel
theorem dL_all_62 : decode cL_all 62 = .ok (.i2l, 1) := by decide +kernel
theorem dL_all_63 : decode cL_all 63 = .ok (.ladd, 1) := by decide +kernel
theorem dL_all_64 : decode cL_all 64 = .ok (.lstore_n 1, 1) := by decide +kernel
theorem dL_all_65 : decode cL_all 65 = .ok (.iinc 4 1, 3) := by decide +kernel
theorem dL_all_68 : decode cL_all 68 = .ok (.goto (-25), 3) := by decide +kernel
theorem dL_all_71 : decode cL_all 71 = .ok (.iinc 3 1, 3) := by decide +kernel
theorem dL_all_74 : decode cL_all 74 = .ok (.goto (-43), 3) := by decide +kernel
theorem dL_all_77 : decode cL_all 77 = .ok (.iconst 0, 1) := by decide +kernel
theorem dL_all_78 : decode cL_all 78 = .ok (.istore_n 3, 1) := by decide +kernel
theorem dL_all_79 : decode cL_all 79 = .ok (.iload_n 3, 1) := by decide +kernel
theorem dL_all_80 : decode cL_all 80 = .ok (.aload_n 0, 1) := by decide +kernel
theorem dL_all_81 : decode cL_all 81 = .ok (.iconst 1, 1) := by decide +kernel
theorem dL_all_82 : decode cL_all 82 = .ok (.invokevirtual 138, 3) := by decide +kernel
theorem dL_all_85 : decode cL_all 85 = .ok (.if_icmp .ge 39, 3) := by decide +kernel
theorem dL_all_88 : decode cL_all 88 = .ok (.iconst 0, 1) := by decide +kernel
theorem dL_all_89 : decode cL_all 89 = .ok (.istore 4, 2) := by decide +kernel
theorem dL_all_91 : decode cL_all 91 = .ok (.iload 4, 2) := by decide +kernel
theorem dL_all_93 : decode cL_all 93 = .ok (.iconst 4, 1) := by decide +kernel
theorem dL_all_94 : decode cL_all 94 = .ok (.if_icmp .ge 24, 3) := by decide +kernel
theorem dL_all_97 : decode cL_all 97 = .ok (.ldc2_w 190, 3) := by decide +kernel
theorem dL_all_100 : decode cL_all 100 = .ok (.lload_n 1, 1) := by decide +kernel
theorem dL_all_101 : decode cL_all 101 = .ok (.lmul, 1) := by decide +kernel
theorem dL_all_102 : decode cL_all 102 = .ok (.aload_n 0, 1) := by decide +kernel
theorem dL_all_103 : decode cL_all 103 = .ok (.iload_n 3, 1) := by decide +kernel
theorem dL_all_104 : decode cL_all 104 = .ok (.iload 4, 2) := by decide +kernel
theorem dL_all_106 : decode cL_all 106 = .ok (.invokevirtual 141, 3) := by decide +kernel
theorem dL_all_109 : decode cL_all 109 = .ok (.i2l, 1) := by decide +kernel
theorem dL_all_110 : decode cL_all 110 = .ok (.ladd, 1) := by decide +kernel
theorem dL_all_111 : decode cL_all 111 = .ok (.lstore_n 1, 1) := by decide +kernel
theorem dL_all_112 : decode cL_all 112 = .ok (.iinc 4 1, 3) := by decide +kernel
theorem dL_all_115 : decode cL_all 115 = .ok (.goto (-24), 3) := by decide +kernel
theorem dL_all_118 : decode cL_all 118 = .ok (.iinc 3 1, 3) := by decide +kernel
theorem dL_all_121 : decode cL_all 121 = .ok (.goto (-42), 3) := by decide +kernel
theorem dL_all_124 : decode cL_all 124 = .ok (.iconst 0, 1) := by decide +kernel
theorem dL_all_125 : decode cL_all 125 = .ok (.istore_n 3, 1) := by decide +kernel
theorem dL_all_126 : decode cL_all 126 = .ok (.iload_n 3, 1) := by decide +kernel
theorem dL_all_127 : decode cL_all 127 = .ok (.aload_n 0, 1) := by decide +kernel
theorem dL_all_128 : decode cL_all 128 = .ok (.iconst 2, 1) := by decide +kernel
theorem dL_all_129 : decode cL_all 129 = .ok (.invokevirtual 138, 3) := by decide +kernel
theorem dL_all_132 : decode cL_all 132 = .ok (.if_icmp .ge 74, 3) := by decide +kernel
theorem dL_all_135 : decode cL_all 135 = .ok (.iconst 0, 1) := by decide +kernel
theorem dL_all_136 : decode cL_all 136 = .ok (.istore 4, 2) := by decide +kernel
theorem dL_all_138 : decode cL_all 138 = .ok (.iload 4, 2) := by decide +kernel
theorem dL_all_140 : decode cL_all 140 = .ok (.iconst 4, 1) := by decide +kernel
theorem dL_all_141 : decode cL_all 141 = .ok (.if_icmp .ge 24, 3) := by decide +kernel
theorem dL_all_144 : decode cL_all 144 = .ok (.ldc2_w 190, 3) := by decide +kernel
theorem dL_all_147 : decode cL_all 147 = .ok (.lload_n 1, 1) := by decide +kernel
theorem dL_all_148 : decode cL_all 148 = .ok (.lmul, 1) := by decide +kernel
theorem dL_all_149 : decode cL_all 149 = .ok (.aload_n 0, 1) := by decide +kernel
theorem dL_all_150 : decode cL_all 150 = .ok (.iload_n 3, 1) := by decide +kernel
theorem dL_all_151 : decode cL_all 151 = .ok (.iload 4, 2) := by decide +kernel
theorem dL_all_153 : decode cL_all 153 = .ok (.invokevirtual 155, 3) := by decide +kernel
theorem dL_all_156 : decode cL_all 156 = .ok (.i2l, 1) := by decide +kernel
theorem dL_all_157 : decode cL_all 157 = .ok (.ladd, 1) := by decide +kernel
theorem dL_all_158 : decode cL_all 158 = .ok (.lstore_n 1, 1) := by decide +kernel
theorem dL_all_159 : decode cL_all 159 = .ok (.iinc 4 1, 3) := by decide +kernel
theorem dL_all_162 : decode cL_all 162 = .ok (.goto (-24), 3) := by decide +kernel
theorem dL_all_165 : decode cL_all 165 = .ok (.iconst 0, 1) := by decide +kernel
theorem dL_all_166 : decode cL_all 166 = .ok (.istore 4, 2) := by decide +kernel
theorem dL_all_168 : decode cL_all 168 = .ok (.iload 4, 2) := by decide +kernel
theorem dL_all_170 : decode cL_all 170 = .ok (.aload_n 0, 1) := by decide +kernel
theorem dL_all_171 : decode cL_all 171 = .ok (.iload_n 3, 1) := by decide +kernel
theorem dL_all_172 : decode cL_all 172 = .ok (.iconst 0, 1) := by decide +kernel
theorem dL_all_173 : decode cL_all 173 = .ok (.invokevirtual 155, 3) := by decide +kernel
theorem dL_all_176 : decode cL_all 176 = .ok (.if_icmp .ge 24, 3) := by decide +kernel
theorem dL_all_179 : decode cL_all 179 = .ok (.ldc2_w 190, 3) := by decide +kernel
theorem dL_all_182 : decode cL_all 182 = .ok (.lload_n 1, 1) := by decide +kernel
theorem dL_all_183 : decode cL_all 183 = .ok (.lmul, 1) := by decide +kernel
theorem dL_all_184 : decode cL_all 184 = .ok (.aload_n 0, 1) := by decide +kernel
theorem dL_all_185 : decode cL_all 185 = .ok (.iload_n 3, 1) := by decide +kernel
theorem dL_all_186 : decode cL_all 186 = .ok (.iload 4, 2) := by decide +kernel
theorem dL_all_188 : decode cL_all 188 = .ok (.invokevirtual 157, 3) := by decide +kernel
theorem dL_all_191 : decode cL_all 191 = .ok (.i2l, 1) := by decide +kernel
theorem dL_all_192 : decode cL_all 192 = .ok (.ladd, 1) := by decide +kernel
theorem dL_all_193 : decode cL_all 193 = .ok (.lstore_n 1, 1) := by decide +kernel
theorem dL_all_194 : decode cL_all 194 = .ok (.iinc 4 1, 3) := by decide +kernel
theorem dL_all_197 : decode cL_all 197 = .ok (.goto (-29), 3) := by decide +kernel
theorem dL_all_200 : decode cL_all 200 = .ok (.iinc 3 1, 3) := by decide +kernel
theorem dL_all_203 : decode cL_all 203 = .ok (.goto (-77), 3) := by decide +kernel
theorem dL_all_206 : decode cL_all 206 = .ok (.lload_n 1, 1) := by decide +kernel
theorem dL_all_207 : decode cL_all 207 = .ok (.lreturn, 1) := by decide +kernel
set_option maxRecDepth 20000 in
theorem ggL_isSound_X8_size : GoodIn wsL_isSound wsX8_size := goodIn_ca (goodIn_r _ [9, 10, 11, 12, 13, 14, 15, 16, 17, 18, 19, 20, 21, 22, 23, 24, 25, 8, 26, 27, 28, 29, 30, 31, 32, 33, 34, 35, 36, 37, 38, 39, 40, 41, 42, 43, 44, 45, 46, 47, 48, 49, 50, 51, 52, 2, 3, 4, 53, 54, 55, 56, 57, 58, 59, 60, 61, 62, 63, 64, 65, 66, 67, 68, 69, 70, 71, 72, 73, 74, 75, 76, 77, 78, 79, 80, 81, 82, 83, 84, 85, 86, 87, 88, 89, 90, 91, 92, 93, 94, 95, 96, 97, 98, 99, 100, 101, 102, 103, 104, 105, 106, 107, 108, 109, 110, 111, 112, 113, 114, 115, 116, 117, 118, 119, 120, 121, 122, 123, 306, 307, 308, 309, 310, 311, 312, 313, 314, 315, 316, 317, 318, 319, 320, 321, 322, 323, 324, 325, 326, 327, 328, 329, 330, 331, 332, 333, 334, 335, 336, 337, 338, 339, 340, 341, 342, 343, 344, 345, 346] (by decide +kernel) (by decide +kernel)) (goodIn_sub (fun _ h => List.mem_cons_of_mem _ (List.mem_append_left _ (List.mem_append_right _ h))) (by decide +kernel))
set_option maxRecDepth 20000 in
theorem gL_isSound_X8_size : GoodIn wsL_isSound (wsV RL 138 RX8 yX8_size wsX8_size) := goodIn_app (goodIn_of _ (by decide +kernel)) ggL_isSound_X8_size
set_option maxRecDepth 20000 in
theorem ggL_isSound_X8_room : GoodIn wsL_isSound wsX8_room := goodIn_ca (goodIn_r _ [127, 10, 11, 12, 128, 129, 130, 131, 132, 133, 134, 135, 136, 137, 8, 138, 139, 140, 141, 21, 142, 122, 27, 28, 29, 30, 31, 32, 33, 34, 35, 36, 37, 38, 39, 40, 41, 42, 43, 44, 45, 46, 47, 48, 49, 50, 51, 52, 2, 3, 4, 53, 54, 55, 56, 57, 58, 59, 19, 20, 22, 23, 24, 25, 26, 60, 61, 62, 63, 64, 65, 66, 67, 68, 69, 70, 71, 72, 73, 74, 75, 76, 77, 78, 79, 80, 81, 82, 143, 88, 89, 90, 91, 306, 307, 308, 309, 310, 311, 312, 313, 314, 315, 316, 317, 318, 319, 320, 321, 322, 323, 324, 325, 326, 327, 328, 329, 330, 331, 332, 333, 334, 335, 336, 337, 338, 339, 340, 341, 342, 343, 344, 345, 346] (by decide +kernel) (by decide +kernel)) (goodIn_sub (fun _ h => List.mem_cons_of_mem _ (List.mem_append_left _ (List.mem_append_right _ h))) (by decide +kernel))
set_option maxRecDepth 20000 in
theorem gL_isSound_X8_room : GoodIn wsL_isSound (wsV RL 118 RX8 yX8_room wsX8_room) := goodIn_app (goodIn_of _ (by decide +kernel)) ggL_isSound_X8_room
set_option maxRecDepth 20000 in
theorem ggL_isSound_X8_gapFrom : GoodIn wsL_isSound wsX8_gapFrom := goodIn_ca (goodIn_r _ [147, 148, 135, 136, 137, 8, 138, 10, 11, 12, 139, 140, 141, 21, 142, 122, 27, 28, 29, 30, 31, 32, 33, 34, 35, 36, 37, 38, 39, 40, 41, 42, 43, 44, 45, 46, 47, 48, 49, 50, 51, 52, 2, 3, 4, 53, 54, 55, 56, 57, 58, 59, 19, 20, 22, 23, 24, 25, 26, 60, 61, 62, 63, 64, 65, 66, 67, 68, 69, 70, 71, 72, 73, 74, 75, 76, 77, 78, 79, 80, 81, 82, 339, 340, 341, 342, 343, 344, 345, 346, 306, 307, 308, 309, 310, 311, 312, 313, 314, 315, 316, 317, 318, 319, 320, 321, 322, 323, 324, 325, 326, 327, 328, 329, 330, 331, 332, 333, 334, 335, 336, 337, 338] (by decide +kernel) (by decide +kernel)) (goodIn_sub (fun _ h => List.mem_cons_of_mem _ (List.mem_append_left _ (List.mem_append_right _ h))) (by decide +kernel))
set_option maxRecDepth 20000 in
theorem gL_isSound_X8_gapFrom : GoodIn wsL_isSound (wsV RL 192 RX8 yX8_gapFrom wsX8_gapFrom) := goodIn_app (goodIn_of _ (by decide +kernel)) ggL_isSound_X8_gapFrom
set_option maxRecDepth 20000 in
theorem ggL_isSound_X8_guardsIn : GoodIn wsL_isSound wsX8_guardsIn := goodIn_ca (goodIn_ca (goodIn_r _ [152, 12, 135, 136, 137, 8, 138, 10, 11, 139, 140, 141, 21, 142, 122, 153, 154, 155, 156, 157, 158, 159, 160, 161, 23, 101, 102, 103, 104, 24, 105, 70, 71, 72, 73, 74, 306, 307, 308, 309, 310, 311, 312, 313, 314, 315, 316, 317, 318, 319, 320, 321, 322, 323, 324, 325, 326, 327, 328, 329, 330, 331, 332, 333, 334, 335, 336, 337, 338] (by decide +kernel) (by decide +kernel)) (goodIn_sub (fun _ h => List.mem_cons_of_mem _ (List.mem_append_left _ (List.mem_append_right _ h))) (by decide +kernel))) (goodIn_sub (fun _ h => List.mem_cons_of_mem _ (List.mem_append_right _ h)) (by decide +kernel))

set_option maxRecDepth 20000 in
theorem wsL_law0_r22_in : ∀ w ∈ wsL_law0_r22, w ∈ lw_tbl := wx_mem _ [848, 849, 851, 21, 852, 853, 854, 855, 856, 858, 859, 860, 861, 862, 863, 864, 866, 22, 867, 868, 869, 870, 871, 872] (by decide +kernel)
set_option maxRecDepth 20000 in
theorem wsL_law0_r23_in : ∀ w ∈ wsL_law0_r23, w ∈ lw_tbl := wx_mem _ [873, 874, 876, 23, 877, 878, 879, 880, 881, 883, 882, 884, 813, 814, 815, 816, 795, 817, 818, 819, 820, 821, 822, 823] (by decide +kernel)
set_option maxRecDepth 20000 in
theorem wsL_law0_r24_in : ∀ w ∈ wsL_law0_r24, w ∈ lw_tbl := wx_mem _ [824, 825, 826, 828, 830, 19, 831, 87, 112, 832, 834, 20, 835, 97, 836, 791, 792, 793, 794, 796, 797, 798, 799, 800] (by decide +kernel)
set_option maxRecDepth 20000 in
theorem wsL_law0_r25_in : ∀ w ∈ wsL_law0_r25, w ∈ lw_tbl := wx_mem _ [801, 802, 803, 215, 837, 838, 839, 840, 841, 842, 843, 844, 930, 931, 932, 933, 934, 69, 936, 937, 938, 941, 939, 948] (by decide +kernel)
set_option maxRecDepth 20000 in
theorem wsL_law0_r26_in : ∀ w ∈ wsL_law0_r26, w ∈ lw_tbl := wx_mem _ [950, 952, 954, 913, 914, 915, 973, 974, 975, 976, 979, 24, 980, 982, 984, 25, 985, 943, 991, 992, 993, 995, 996, 997] (by decide +kernel)
set_option maxRecDepth 20000 in
theorem wsL_law0_r27_hv : Cond.code yL_isSound cL_isSound 10 (some .boolean) ∈ lw_tbl := kT_5 _ (List.mem_of_getElem? (i := 169) rfl)
set_option maxRecDepth 20000 in
theorem wsL_law0_r27_in : ∀ w ∈ wsL_law0_r27, w ∈ lw_tbl := show ∀ w ∈ [Cond.methodLink RL 73 yL_number, Cond.static yL_number, Cond.code yL_number cL_number 4 none, Cond.methodLink RL 94 yL_walkOf, Cond.static yL_walkOf, Cond.code yL_walkOf cL_walkOf 8 none, Cond.methodLink RL 266 yL_isSound, Cond.static yL_isSound] ++ (Cond.code yL_isSound cL_isSound 10 (some .boolean) :: [Cond.methodLink RL 195 Lib.Math.max.name, Cond.methodLink RL 200 yX8_guardsIn, Cond.instanceMethod yX8_guardsIn, Cond.selects RX8 yX8_guardsIn yX8_guardsIn, Cond.code yX8_guardsIn cX8_guardsIn 3 (some .int), Cond.methodLink RL 155 yX8_guard, Cond.instanceMethod yX8_guard, Cond.selects RX8 yX8_guard yX8_guard, Cond.code yX8_guard cX8_guard 3 (some .int), Cond.fieldLink RX8 212 "GuardWalks$House" "periods" "[I", Cond.fieldLink RX8 215 "GuardWalks$House" "phases" "[I", Cond.fieldLink RX8 222 "GuardWalks$House" "walked" "[I", Cond.methodLink RX8 225 yJ6_bitCount_0f7a4, Cond.methodLink RL 157 yX8_walk, Cond.instanceMethod yX8_walk]), w ∈ lw_tbl from List.forall_mem_append.mpr ⟨wx_mem _ [998, 999, 1000, 1006, 1007, 1008, 1173, 1174] (by decide +kernel), List.forall_mem_cons.mpr ⟨wsL_law0_r27_hv, wx_mem _ [1176, 1177, 1178, 1179, 1180, 1162, 1163, 1164, 1165, 120, 125, 129, 1166, 1168, 1169] (by decide +kernel)⟩⟩
set_option maxRecDepth 20000 in
theorem wsL_law0_r28_in : ∀ w ∈ wsL_law0_r28, w ∈ lw_tbl := wx_mem _ [1170, 1171, 1172, 1181, 1182, 1183, 1184, 1185, 1186, 1187, 1188, 1157, 1158, 1159, 1160, 108, 110, 1189, 1190, 1191, 1192, 1193, 1194, 1195] (by decide +kernel)

set_option maxRecDepth 20000 in
theorem wsL_law0_r29_hv : Cond.code yL_act cL_act 9 (some .int) ∈ lw_tbl := kT_5 _ (List.mem_of_getElem? (i := 7) rfl)
set_option maxRecDepth 20000 in
theorem wsL_law0_r29_in : ∀ w ∈ wsL_law0_r29, w ∈ lw_tbl := show ∀ w ∈ [Cond.code yX8_distance cX8_distance 3 (some .int), Cond.methodLink RX8 249 yX2_doorsBetween, Cond.instanceMethod yX2_doorsBetween, Cond.selects RX2 yX2_doorsBetween yX2_doorsBetween, Cond.code yX2_doorsBetween cX2_doorsBetween 7 (some .int), Cond.methodLink RL 269 yX8_saveSnapshot, Cond.instanceMethod yX8_saveSnapshot, Cond.selects RX8 yX8_saveSnapshot yX8_saveSnapshot, Cond.code yX8_saveSnapshot cX8_saveSnapshot 1 none, Cond.methodLink RX8 314 yX1_keepSnapshot, Cond.instanceMethod yX1_keepSnapshot, Cond.selects RX1 yX1_keepSnapshot yX1_keepSnapshot, Cond.code yX1_keepSnapshot cX1_keepSnapshot 2 none, Cond.methodLink RL 236 yL_all, Cond.static yL_all, Cond.code yL_all cL_all 5 (some .long), Cond.constantLong RL 190 (31), Cond.methodLink RL 272 yL_act, Cond.static yL_act] ++ (Cond.code yL_act cL_act 9 (some .int) :: [Cond.instanceMethod yX9_pass, Cond.selects RX9 yX9_pass yX9_pass, Cond.code yX9_pass cX9_pass 5 (some .int), Cond.fieldLink RX9 35 "GuardWalksLaw$Own" "minute" "I"]), w ∈ lw_tbl from List.forall_mem_append.mpr ⟨wx_mem _ [1196, 1197, 1198, 1199, 1200, 897, 898, 899, 900, 901, 902, 903, 904, 1153, 1154, 1155, 1156, 1011, 1012] (by decide +kernel), List.forall_mem_cons.mpr ⟨wsL_law0_r29_hv, wx_mem _ [1016, 26, 1017, 947] (by decide +kernel)⟩⟩
set_option maxRecDepth 20000 in
theorem wsL_law0_r30_in : ∀ w ∈ wsL_law0_r30, w ∈ lw_tbl := wx_mem _ [1026, 1018, 1020, 27, 1021, 945, 1022, 1024, 28, 1025, 1027, 1028, 1029, 1030, 1031, 1032, 1033, 1034, 1035, 1037, 1036, 1038, 1039, 1040] (by decide +kernel)
set_option maxRecDepth 20000 in
theorem wsL_law0_r31_in : ∀ w ∈ wsL_law0_r31, w ∈ lw_tbl := wx_mem _ [1041, 1044, 29, 1045, 1046, 1048, 30, 1049, 1050, 1052, 31, 1053, 1054, 1056, 32, 1057, 1058, 1060, 33, 1061, 1064, 34, 1065, 1066] (by decide +kernel)
set_option maxRecDepth 20000 in
theorem wsL_law0_r32_in : ∀ w ∈ wsL_law0_r32, w ∈ lw_tbl := wx_mem _ [1068, 35, 1069, 1070, 1072, 1073, 1074, 1075, 1076, 1071, 1078, 1080, 36, 1081, 1082, 1084, 37, 1085, 1086, 1088, 38, 1089, 1090, 1092] (by decide +kernel)
set_option maxRecDepth 20000 in
theorem wsL_law0_r33_in : ∀ w ∈ wsL_law0_r33, w ∈ lw_tbl := wx_mem _ [39, 1093, 1094, 1095, 1096, 1097, 252, 1098, 1100, 40, 1101, 258, 1102, 1103, 1104, 1105, 102, 1106, 1107, 1109, 41, 1110, 94, 118] (by decide +kernel)
set_option maxRecDepth 20000 in
theorem wsL_law0_r34_in : ∀ w ∈ wsL_law0_r34, w ∈ lw_tbl := wx_mem _ [124, 1112, 1114, 42, 1115, 220, 1118, 1116, 1117, 1119, 1121, 43, 1122, 1123, 1126, 44, 1127, 1131, 45, 1132, 1133, 1134, 1135, 1136] (by decide +kernel)
set_option maxRecDepth 20000 in
theorem wsL_law0_r35_in : ∀ w ∈ wsL_law0_r35, w ∈ lw_tbl := wx_mem _ [1138, 1139, 1140, 1141, 1142, 1143, 1144, 1145, 1148, 1149, 1150, 1151, 885, 886, 887, 888, 192, 1201, 1202, 1203, 1204, 1205, 1206, 1207] (by decide +kernel)

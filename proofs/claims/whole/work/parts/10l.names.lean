set_option maxRecDepth 20000 in
theorem ggX9_change_X9_finish : GoodIn wsX9_change wsX9_finish := goodIn_r _ [186, 2, 6, 109, 187, 205, 206, 207, 208, 209, 210, 211, 212, 213, 214, 215, 216, 217, 218, 219, 220, 221, 222, 223, 224, 225, 226, 227, 228, 229, 230, 231, 232, 233, 234, 235, 236, 237, 238, 239] (by decide +kernel) (by decide +kernel)
set_option maxRecDepth 20000 in
theorem gX9_change_X9_finish : GoodIn wsX9_change (wsV RX9 433 RX9 yX9_finish wsX9_finish) := goodIn_app (goodIn_of _ (by decide +kernel)) ggX9_change_X9_finish
set_option maxRecDepth 20000 in
theorem ggX9_change_X9_record : GoodIn wsX9_change wsX9_record := goodIn_r _ [191, 192, 193, 3, 16, 17, 10, 18, 205, 206, 207, 208, 209, 210, 211, 212, 213, 214, 215, 216, 217, 218, 219, 220, 221, 222, 223, 224, 225, 226, 227, 228, 229, 230, 231, 232, 233, 234, 235, 236, 237, 238, 239] (by decide +kernel) (by decide +kernel)
set_option maxRecDepth 20000 in
theorem gX9_change_X9_record : GoodIn wsX9_change (wsV RX9 287 RX9 yX9_record wsX9_record) := goodIn_app (goodIn_of _ (by decide +kernel)) ggX9_change_X9_record
set_option maxRecDepth 20000 in
theorem ggX9_change_X9_cycle : GoodIn wsX9_change wsX9_cycle := goodIn_r _ [197, 114, 115, 116, 10, 117, 5, 198, 199, 200, 201, 137, 138, 139, 202, 203, 204, 205, 206, 207, 208, 209, 210, 211, 212, 213, 214, 215, 216, 217, 218, 219, 220, 221, 222, 223, 224, 225, 226, 227, 228, 229, 230, 231, 232, 233, 234, 235, 236, 237, 238, 239] (by decide +kernel) (by decide +kernel)
set_option maxRecDepth 20000 in
theorem gX9_change_X9_cycle : GoodIn wsX9_change (wsV RX9 154 RX9 yX9_cycle wsX9_cycle) := goodIn_app (goodIn_of _ (by decide +kernel)) ggX9_change_X9_cycle
theorem dX9_change_0 : decode cX9_change 0 = .ok (.aload_n 0, 1) := by decide +kernel
theorem dX9_change_1 : decode cX9_change 1 = .ok (.iconst 0, 1) := by decide +kernel
theorem dX9_change_2 : decode cX9_change 2 = .ok (.putfield 97, 3) := by decide +kernel
theorem dX9_change_5 : decode cX9_change 5 = .ok (.iload_n 1, 1) := by decide +kernel
theorem dX9_change_6 : decode cX9_change 6 = .ok (.iconst 0, 1) := by decide +kernel
theorem dX9_change_7 : decode cX9_change 7 = .ok (.aload_n 0, 1) := by decide +kernel
theorem dX9_change_8 : decode cX9_change 8 = .ok (.getfield 315, 3) := by decide +kernel
theorem dX9_change_11 : decode cX9_change 11 = .ok (.invokestatic 114, 3) := by decide +kernel
theorem dX9_change_14 : decode cX9_change 14 = .ok (.ifCond .ne 9, 3) := by decide +kernel
theorem dX9_change_17 : decode cX9_change 17 = .ok (.aload_n 0, 1) := by decide +kernel
theorem dX9_change_18 : decode cX9_change 18 = .ok (.iconst 1, 1) := by decide +kernel
theorem dX9_change_19 : decode cX9_change 19 = .ok (.invokevirtual 237, 3) := by decide +kernel
theorem dX9_change_22 : decode cX9_change 22 = .ok (.ireturn, 1) := by decide +kernel
theorem dX9_change_23 : decode cX9_change 23 = .ok (.aload_n 0, 1) := by decide +kernel
theorem dX9_change_24 : decode cX9_change 24 = .ok (.getfield 9, 3) := by decide +kernel
theorem dX9_change_27 : decode cX9_change 27 = .ok (.iconst 0, 1) := by decide +kernel
theorem dX9_change_28 : decode cX9_change 28 = .ok (.aload_n 0, 1) := by decide +kernel
theorem dX9_change_29 : decode cX9_change 29 = .ok (.getfield 13, 3) := by decide +kernel
theorem dX9_change_32 : decode cX9_change 32 = .ok (.iconst 0, 1) := by decide +kernel
theorem dX9_change_33 : decode cX9_change 33 = .ok (.invokestatic 307, 3) := by decide +kernel
theorem dX9_change_36 : decode cX9_change 36 = .ok (.aload_n 0, 1) := by decide +kernel
theorem dX9_change_37 : decode cX9_change 37 = .ok (.aload_n 0, 1) := by decide +kernel
theorem dX9_change_38 : decode cX9_change 38 = .ok (.getfield 13, 3) := by decide +kernel
theorem dX9_change_41 : decode cX9_change 41 = .ok (.putfield 22, 3) := by decide +kernel
theorem dX9_change_44 : decode cX9_change 44 = .ok (.aload_n 0, 1) := by decide +kernel
theorem dX9_change_45 : decode cX9_change 45 = .ok (.iload_n 1, 1) := by decide +kernel
theorem dX9_change_46 : decode cX9_change 46 = .ok (.invokevirtual 427, 3) := by decide +kernel
theorem dX9_change_49 : decode cX9_change 49 = .ok (.aload_n 0, 1) := by decide +kernel
theorem dX9_change_50 : decode cX9_change 50 = .ok (.ldc_w 436, 3) := by decide +kernel
theorem dX9_change_53 : decode cX9_change 53 = .ok (.invokevirtual 407, 3) := by decide +kernel
theorem dX9_change_56 : decode cX9_change 56 = .ok (.aload_n 0, 1) := by decide +kernel
theorem dX9_change_57 : decode cX9_change 57 = .ok (.iconst 0, 1) := by decide +kernel
theorem dX9_change_58 : decode cX9_change 58 = .ok (.aload_n 0, 1) := by decide +kernel
theorem dX9_change_59 : decode cX9_change 59 = .ok (.invokevirtual 118, 3) := by decide +kernel
theorem dX9_change_62 : decode cX9_change 62 = .ok (.iconst 1, 1) := by decide +kernel
theorem dX9_change_63 : decode cX9_change 63 = .ok (.isub, 1) := by decide +kernel
theorem dX9_change_64 : decode cX9_change 64 = .ok (.invokevirtual 387, 3) := by decide +kernel
theorem dX9_change_67 : decode cX9_change 67 = .ok (.istore_n 2, 1) := by decide +kernel
theorem dX9_change_68 : decode cX9_change 68 = .ok (.aload_n 0, 1) := by decide +kernel
theorem dX9_change_69 : decode cX9_change 69 = .ok (.getfield 338, 3) := by decide +kernel
theorem dX9_change_72 : decode cX9_change 72 = .ok (.ifCond .ne 9, 3) := by decide +kernel
theorem dX9_change_75 : decode cX9_change 75 = .ok (.aload_n 0, 1) := by decide +kernel
theorem dX9_change_76 : decode cX9_change 76 = .ok (.iload_n 2, 1) := by decide +kernel
theorem dX9_change_77 : decode cX9_change 77 = .ok (.iconst 1, 1) := by decide +kernel
theorem dX9_change_78 : decode cX9_change 78 = .ok (.invokevirtual 403, 3) := by decide +kernel
theorem dX9_change_81 : decode cX9_change 81 = .ok (.aload_n 0, 1) := by decide +kernel
theorem dX9_change_82 : decode cX9_change 82 = .ok (.aload_n 0, 1) := by decide +kernel
theorem dX9_change_83 : decode cX9_change 83 = .ok (.getfield 338, 3) := by decide +kernel
theorem dX9_change_86 : decode cX9_change 86 = .ok (.ifCond .ne 10, 3) := by decide +kernel
theorem dX9_change_89 : decode cX9_change 89 = .ok (.aload_n 0, 1) := by decide +kernel
theorem dX9_change_90 : decode cX9_change 90 = .ok (.getfield 329, 3) := by decide +kernel
theorem dX9_change_93 : decode cX9_change 93 = .ok (.ifCond .ne 7, 3) := by decide +kernel
theorem dX9_change_96 : decode cX9_change 96 = .ok (.iconst 1, 1) := by decide +kernel
theorem dX9_change_97 : decode cX9_change 97 = .ok (.goto 4, 3) := by decide +kernel
theorem dX9_change_100 : decode cX9_change 100 = .ok (.iconst 0, 1) := by decide +kernel
theorem dX9_change_101 : decode cX9_change 101 = .ok (.iconst 1, 1) := by decide +kernel
theorem dX9_change_102 : decode cX9_change 102 = .ok (.invokevirtual 364, 3) := by decide +kernel
theorem dX9_change_105 : decode cX9_change 105 = .ok (.aload_n 0, 1) := by decide +kernel
theorem dX9_change_106 : decode cX9_change 106 = .ok (.aload_n 0, 1) := by decide +kernel
theorem dX9_change_107 : decode cX9_change 107 = .ok (.getfield 9, 3) := by decide +kernel
theorem dX9_change_110 : decode cX9_change 110 = .ok (.putfield 22, 3) := by decide +kernel
theorem dX9_change_113 : decode cX9_change 113 = .ok (.aload_n 0, 1) := by decide +kernel
theorem dX9_change_114 : decode cX9_change 114 = .ok (.invokevirtual 433, 3) := by decide +kernel
theorem dX9_change_117 : decode cX9_change 117 = .ok (.ifCond .eq 11, 3) := by decide +kernel
theorem dX9_change_120 : decode cX9_change 120 = .ok (.bipush (-10), 2) := by decide +kernel
theorem dX9_change_122 : decode cX9_change 122 = .ok (.aload_n 0, 1) := by decide +kernel
theorem dX9_change_123 : decode cX9_change 123 = .ok (.getfield 338, 3) := by decide +kernel
theorem dX9_change_126 : decode cX9_change 126 = .ok (.isub, 1) := by decide +kernel
theorem dX9_change_127 : decode cX9_change 127 = .ok (.ireturn, 1) := by decide +kernel
theorem dX9_change_128 : decode cX9_change 128 = .ok (.aload_n 0, 1) := by decide +kernel
theorem dX9_change_129 : decode cX9_change 129 = .ok (.invokevirtual 287, 3) := by decide +kernel
theorem dX9_change_132 : decode cX9_change 132 = .ok (.aload_n 0, 1) := by decide +kernel
theorem dX9_change_133 : decode cX9_change 133 = .ok (.getfield 13, 3) := by decide +kernel
theorem dX9_change_136 : decode cX9_change 136 = .ok (.iconst 0, 1) := by decide +kernel
theorem dX9_change_137 : decode cX9_change 137 = .ok (.aload_n 0, 1) := by decide +kernel
theorem dX9_change_138 : decode cX9_change 138 = .ok (.getfield 9, 3) := by decide +kernel
theorem dX9_change_141 : decode cX9_change 141 = .ok (.iconst 0, 1) := by decide +kernel
theorem dX9_change_142 : decode cX9_change 142 = .ok (.invokestatic 307, 3) := by decide +kernel
theorem dX9_change_145 : decode cX9_change 145 = .ok (.aload_n 0, 1) := by decide +kernel
theorem dX9_change_146 : decode cX9_change 146 = .ok (.invokevirtual 154, 3) := by decide +kernel
theorem dX9_change_149 : decode cX9_change 149 = .ok (.ireturn, 1) := by decide +kernel
theorem dX9_emit_0 : decode cX9_emit 0 = .ok (.aload_n 0, 1) := by decide +kernel
theorem dX9_emit_1 : decode cX9_emit 1 = .ok (.getfield 338, 3) := by decide +kernel
theorem dX9_emit_4 : decode cX9_emit 4 = .ok (.ifCond .ne 23, 3) := by decide +kernel
theorem dX9_emit_7 : decode cX9_emit 7 = .ok (.aload_n 0, 1) := by decide +kernel
theorem dX9_emit_8 : decode cX9_emit 8 = .ok (.getfield 86, 3) := by decide +kernel
theorem dX9_emit_11 : decode cX9_emit 11 = .ok (.aload_n 0, 1) := by decide +kernel
theorem dX9_emit_12 : decode cX9_emit 12 = .ok (.getfield 438, 3) := by decide +kernel
theorem dX9_emit_15 : decode cX9_emit 15 = .ok (.iload_n 1, 1) := by decide +kernel
theorem dX9_emit_16 : decode cX9_emit 16 = .ok (.iastore, 1) := by decide +kernel
theorem dX9_emit_17 : decode cX9_emit 17 = .ok (.aload_n 0, 1) := by decide +kernel
theorem dX9_emit_18 : decode cX9_emit 18 = .ok (.dup, 1) := by decide +kernel
theorem dX9_emit_19 : decode cX9_emit 19 = .ok (.getfield 438, 3) := by decide +kernel
theorem dX9_emit_22 : decode cX9_emit 22 = .ok (.iconst 1, 1) := by decide +kernel
theorem dX9_emit_23 : decode cX9_emit 23 = .ok (.iadd, 1) := by decide +kernel
theorem dX9_emit_24 : decode cX9_emit 24 = .ok (.putfield 438, 3) := by decide +kernel
theorem dX9_emit_27 : decode cX9_emit 27 = .ok (.return_, 1) := by decide +kernel
set_option maxRecDepth 20000 in
theorem ggX9_enter_X9_check : GoodIn wsX9_enter wsX9_check := goodIn_r _ [6, 7, 8, 9, 5, 10, 11, 12, 13, 38, 39, 40, 41, 42, 43, 44, 45, 46, 47, 48, 49, 50, 51, 52, 53, 54, 55, 56, 57, 58, 59, 60, 61, 62, 63, 64, 65, 66, 67, 68, 69, 70, 71, 72] (by decide +kernel) (by decide +kernel)
set_option maxRecDepth 20000 in
theorem gX9_enter_X9_check : GoodIn wsX9_enter (wsV RX9 364 RX9 yX9_check wsX9_check) := goodIn_app (goodIn_of _ (by decide +kernel)) ggX9_enter_X9_check
set_option maxRecDepth 20000 in
theorem ggX9_enter_X9_advance : GoodIn wsX9_enter wsX9_advance := goodIn_r _ [17, 11, 18, 19, 20, 5, 21, 22, 12, 23, 24, 25, 26, 27, 28, 29, 30, 31, 32, 33, 34, 35, 36, 37, 38, 39, 40, 41, 42, 43, 44, 45, 46, 47, 48, 49, 50, 51, 52, 53, 54, 55, 56, 57, 58, 59, 60, 61, 62, 63, 64, 65, 66, 67, 68, 69, 70, 71, 72] (by decide +kernel) (by decide +kernel)
set_option maxRecDepth 20000 in
theorem gX9_enter_X9_advance : GoodIn wsX9_enter (wsV RX9 368 RX9 yX9_advance wsX9_advance) := goodIn_app (goodIn_of _ (by decide +kernel)) ggX9_enter_X9_advance
theorem dX9_enter_0 : decode cX9_enter 0 = .ok (.aload_n 0, 1) := by decide +kernel
theorem dX9_enter_1 : decode cX9_enter 1 = .ok (.aload_n 0, 1) := by decide +kernel
theorem dX9_enter_2 : decode cX9_enter 2 = .ok (.getfield 341, 3) := by decide +kernel
theorem dX9_enter_5 : decode cX9_enter 5 = .ok (.bipush 6, 2) := by decide +kernel
theorem dX9_enter_7 : decode cX9_enter 7 = .ok (.if_icmp .ge 7, 3) := by decide +kernel
theorem dX9_enter_10 : decode cX9_enter 10 = .ok (.iconst 1, 1) := by decide +kernel
theorem dX9_enter_11 : decode cX9_enter 11 = .ok (.goto 4, 3) := by decide +kernel
theorem dX9_enter_14 : decode cX9_enter 14 = .ok (.iconst 0, 1) := by decide +kernel
theorem dX9_enter_15 : decode cX9_enter 15 = .ok (.iconst 3, 1) := by decide +kernel
theorem dX9_enter_16 : decode cX9_enter 16 = .ok (.invokevirtual 364, 3) := by decide +kernel
theorem dX9_enter_19 : decode cX9_enter 19 = .ok (.aload_n 0, 1) := by decide +kernel
theorem dX9_enter_20 : decode cX9_enter 20 = .ok (.dup, 1) := by decide +kernel
theorem dX9_enter_21 : decode cX9_enter 21 = .ok (.getfield 341, 3) := by decide +kernel
theorem dX9_enter_24 : decode cX9_enter 24 = .ok (.iconst 1, 1) := by decide +kernel
theorem dX9_enter_25 : decode cX9_enter 25 = .ok (.iadd, 1) := by decide +kernel
theorem dX9_enter_26 : decode cX9_enter 26 = .ok (.putfield 341, 3) := by decide +kernel
theorem dX9_enter_29 : decode cX9_enter 29 = .ok (.aload_n 0, 1) := by decide +kernel
theorem dX9_enter_30 : decode cX9_enter 30 = .ok (.invokevirtual 368, 3) := by decide +kernel
theorem dX9_enter_33 : decode cX9_enter 33 = .ok (.return_, 1) := by decide +kernel
set_option maxRecDepth 20000 in
theorem ggX9_compileValue_X9_readNumber : GoodIn wsX9_compileValue wsX9_readNumber := goodIn_r _ [8, 1, 2, 9, 10, 11, 7, 12, 13, 14, 15, 16, 17, 18, 19, 20, 21, 22, 23, 24, 25, 26, 27, 28, 29, 30, 31, 32, 33, 34, 35, 36, 37, 38, 39, 40, 41, 42, 43, 44, 45, 46, 47, 48, 49, 50, 51, 52, 53, 54, 55, 115, 116, 117, 118, 119, 120, 121, 122, 123, 124, 125, 126, 127, 128, 129, 130, 131, 132, 133, 134, 135, 136, 137, 138, 139, 140, 141, 142, 143, 144, 145, 146, 147, 148, 149] (by decide +kernel) (by decide +kernel)
set_option maxRecDepth 20000 in
theorem gX9_compileValue_X9_readNumber : GoodIn wsX9_compileValue (wsV RX9 387 RX9 yX9_readNumber wsX9_readNumber) := goodIn_app (goodIn_of _ (by decide +kernel)) ggX9_compileValue_X9_readNumber
set_option maxRecDepth 20000 in
theorem ggX9_compileValue_X9_emit : GoodIn wsX9_compileValue wsX9_emit := goodIn_r _ [59, 1, 60, 61, 115, 116, 117, 118, 119, 120, 121, 122, 123, 124, 125, 126, 127, 128, 129, 130, 131, 132, 133, 134, 135, 136, 137, 138, 139, 140, 141, 142, 143, 144, 145, 146, 147, 148, 149] (by decide +kernel) (by decide +kernel)
set_option maxRecDepth 20000 in
theorem gX9_compileValue_X9_emit : GoodIn wsX9_compileValue (wsV RX9 441 RX9 yX9_emit wsX9_emit) := goodIn_app (goodIn_of _ (by decide +kernel)) ggX9_compileValue_X9_emit
set_option maxRecDepth 20000 in
theorem ggX9_compileValue_X9_isWord : GoodIn wsX9_compileValue wsX9_isWord := goodIn_r _ [65, 1, 2, 23, 17, 26, 66, 67, 68, 69, 70, 71, 72, 73, 74, 75, 76, 77, 78, 79, 80, 81, 82, 83, 84, 85, 86, 87, 88, 89, 90, 91, 92, 93, 94, 95, 96, 97, 98, 99, 100, 101, 102, 103, 104, 105, 106, 107, 108, 109, 110, 111, 112, 113, 114, 115, 116, 117, 118, 119, 120, 121, 122, 123, 124, 125, 126, 127, 128, 129, 130, 131, 132, 133, 134, 135, 136, 137, 138, 139, 140, 141, 142, 143, 144, 145, 146, 147, 148, 149] (by decide +kernel) (by decide +kernel)
set_option maxRecDepth 20000 in
theorem gX9_compileValue_X9_isWord : GoodIn wsX9_compileValue (wsV RX9 360 RX9 yX9_isWord wsX9_isWord) := goodIn_app (goodIn_of _ (by decide +kernel)) ggX9_compileValue_X9_isWord
set_option maxRecDepth 20000 in
theorem ggX9_compileValue_X9_check : GoodIn wsX9_compileValue wsX9_check := goodIn_r _ [12, 13, 14, 15, 7, 16, 1, 17, 18, 115, 116, 117, 118, 119, 120, 121, 122, 123, 124, 125, 126, 127, 128, 129, 130, 131, 132, 133, 134, 135, 136, 137, 138, 139, 140, 141, 142, 143, 144, 145, 146, 147, 148, 149] (by decide +kernel) (by decide +kernel)
set_option maxRecDepth 20000 in
theorem gX9_compileValue_X9_check : GoodIn wsX9_compileValue (wsV RX9 364 RX9 yX9_check wsX9_check) := goodIn_app (goodIn_of _ (by decide +kernel)) ggX9_compileValue_X9_check
set_option maxRecDepth 20000 in
theorem ggX9_compileValue_X9_advance : GoodIn wsX9_compileValue wsX9_advance := goodIn_r _ [38, 1, 39, 40, 41, 7, 42, 23, 17, 43, 2, 44, 45, 46, 47, 26, 48, 49, 50, 51, 52, 53, 54, 55, 115, 116, 117, 118, 119, 120, 121, 122, 123, 124, 125, 126, 127, 128, 129, 130, 131, 132, 133, 134, 135, 136, 137, 138, 139, 140, 141, 142, 143, 144, 145, 146, 147, 148, 149] (by decide +kernel) (by decide +kernel)
set_option maxRecDepth 20000 in
theorem gX9_compileValue_X9_advance : GoodIn wsX9_compileValue (wsV RX9 368 RX9 yX9_advance wsX9_advance) := goodIn_app (goodIn_of _ (by decide +kernel)) ggX9_compileValue_X9_advance
theorem dX9_compileValue_0 : decode cX9_compileValue 0 = .ok (.aload_n 0, 1) := by decide +kernel
theorem dX9_compileValue_1 : decode cX9_compileValue 1 = .ok (.getfield 338, 3) := by decide +kernel
theorem dX9_compileValue_4 : decode cX9_compileValue 4 = .ok (.ifCond .ne 11, 3) := by decide +kernel
theorem dX9_compileValue_7 : decode cX9_compileValue 7 = .ok (.aload_n 0, 1) := by decide +kernel
theorem dX9_compileValue_8 : decode cX9_compileValue 8 = .ok (.getfield 329, 3) := by decide +kernel
theorem dX9_compileValue_11 : decode cX9_compileValue 11 = .ok (.iconst 2, 1) := by decide +kernel
theorem dX9_compileValue_12 : decode cX9_compileValue 12 = .ok (.if_icmp .ne 16, 3) := by decide +kernel
theorem dX9_compileValue_15 : decode cX9_compileValue 15 = .ok (.aload_n 0, 1) := by decide +kernel
theorem dX9_compileValue_16 : decode cX9_compileValue 16 = .ok (.aload_n 0, 1) := by decide +kernel
theorem dX9_compileValue_17 : decode cX9_compileValue 17 = .ok (.iconst 0, 1) := by decide +kernel
theorem dX9_compileValue_18 : decode cX9_compileValue 18 = .ok (.sipush 9999, 3) := by decide +kernel
theorem dX9_compileValue_21 : decode cX9_compileValue 21 = .ok (.invokevirtual 387, 3) := by decide +kernel
theorem dX9_compileValue_24 : decode cX9_compileValue 24 = .ok (.invokevirtual 441, 3) := by decide +kernel
theorem dX9_compileValue_27 : decode cX9_compileValue 27 = .ok (.return_, 1) := by decide +kernel
theorem dX9_compileValue_28 : decode cX9_compileValue 28 = .ok (.iconst 0, 1) := by decide +kernel
theorem dX9_compileValue_29 : decode cX9_compileValue 29 = .ok (.istore_n 1, 1) := by decide +kernel
theorem dX9_compileValue_30 : decode cX9_compileValue 30 = .ok (.iload_n 1, 1) := by decide +kernel
theorem dX9_compileValue_31 : decode cX9_compileValue 31 = .ok (.aload_n 0, 1) := by decide +kernel
theorem dX9_compileValue_32 : decode cX9_compileValue 32 = .ok (.getfield 82, 3) := by decide +kernel
theorem dX9_compileValue_35 : decode cX9_compileValue 35 = .ok (.arraylength, 1) := by decide +kernel
theorem dX9_compileValue_36 : decode cX9_compileValue 36 = .ok (.if_icmp .ge 22, 3) := by decide +kernel
theorem dX9_compileValue_39 : decode cX9_compileValue 39 = .ok (.aload_n 0, 1) := by decide +kernel
theorem dX9_compileValue_40 : decode cX9_compileValue 40 = .ok (.aload_n 0, 1) := by decide +kernel
theorem dX9_compileValue_41 : decode cX9_compileValue 41 = .ok (.getfield 82, 3) := by decide +kernel
theorem dX9_compileValue_44 : decode cX9_compileValue 44 = .ok (.iload_n 1, 1) := by decide +kernel
theorem dX9_compileValue_45 : decode cX9_compileValue 45 = .ok (.aaload, 1) := by decide +kernel
theorem dX9_compileValue_46 : decode cX9_compileValue 46 = .ok (.invokevirtual 360, 3) := by decide +kernel
theorem dX9_compileValue_49 : decode cX9_compileValue 49 = .ok (.ifCond .ne 9, 3) := by decide +kernel
theorem dX9_compileValue_52 : decode cX9_compileValue 52 = .ok (.iinc 1 1, 3) := by decide +kernel
theorem dX9_compileValue_55 : decode cX9_compileValue 55 = .ok (.goto (-25), 3) := by decide +kernel
theorem dX9_compileValue_58 : decode cX9_compileValue 58 = .ok (.aload_n 0, 1) := by decide +kernel
theorem dX9_compileValue_59 : decode cX9_compileValue 59 = .ok (.iload_n 1, 1) := by decide +kernel
theorem dX9_compileValue_60 : decode cX9_compileValue 60 = .ok (.aload_n 0, 1) := by decide +kernel
theorem dX9_compileValue_61 : decode cX9_compileValue 61 = .ok (.getfield 82, 3) := by decide +kernel
theorem dX9_compileValue_64 : decode cX9_compileValue 64 = .ok (.arraylength, 1) := by decide +kernel
theorem dX9_compileValue_65 : decode cX9_compileValue 65 = .ok (.if_icmp .ge 7, 3) := by decide +kernel
theorem dX9_compileValue_68 : decode cX9_compileValue 68 = .ok (.iconst 1, 1) := by decide +kernel
theorem dX9_compileValue_69 : decode cX9_compileValue 69 = .ok (.goto 4, 3) := by decide +kernel
theorem dX9_compileValue_72 : decode cX9_compileValue 72 = .ok (.iconst 0, 1) := by decide +kernel
theorem dX9_compileValue_73 : decode cX9_compileValue 73 = .ok (.iconst 1, 1) := by decide +kernel
theorem dX9_compileValue_74 : decode cX9_compileValue 74 = .ok (.invokevirtual 364, 3) := by decide +kernel
theorem dX9_compileValue_77 : decode cX9_compileValue 77 = .ok (.aload_n 0, 1) := by decide +kernel
theorem dX9_compileValue_78 : decode cX9_compileValue 78 = .ok (.iconst (-1), 1) := by decide +kernel
theorem dX9_compileValue_79 : decode cX9_compileValue 79 = .ok (.iload_n 1, 1) := by decide +kernel
theorem dX9_compileValue_80 : decode cX9_compileValue 80 = .ok (.isub, 1) := by decide +kernel
theorem dX9_compileValue_81 : decode cX9_compileValue 81 = .ok (.invokevirtual 441, 3) := by decide +kernel
theorem dX9_compileValue_84 : decode cX9_compileValue 84 = .ok (.aload_n 0, 1) := by decide +kernel
theorem dX9_compileValue_85 : decode cX9_compileValue 85 = .ok (.invokevirtual 368, 3) := by decide +kernel
theorem dX9_compileValue_88 : decode cX9_compileValue 88 = .ok (.return_, 1) := by decide +kernel
set_option maxRecDepth 20000 in
theorem ggX9_compileFactor_X9_isWord : GoodIn wsX9_compileFactor wsX9_isWord := goodIn_r _ [7, 1, 8, 9, 10, 11, 12, 13, 14, 15, 16, 17, 18, 19, 20, 21, 22, 23, 24, 25, 26, 27, 28, 29, 30, 31, 32, 33, 34, 35, 36, 37, 38, 39, 40, 41, 42, 43, 44, 45, 46, 47, 48, 49, 50, 51, 52, 53, 54, 55, 56, 57, 58, 59, 60, 147, 148, 149, 150, 151, 152, 153, 154, 155, 156, 157, 158, 159, 160, 161, 162, 163, 164, 165, 166, 167, 168, 169, 170, 171, 172, 173, 174, 175, 176, 177, 178, 179, 180, 181] (by decide +kernel) (by decide +kernel)
set_option maxRecDepth 20000 in
theorem gX9_compileFactor_X9_isWord : GoodIn wsX9_compileFactor (wsV RX9 360 RX9 yX9_isWord wsX9_isWord) := goodIn_app (goodIn_of _ (by decide +kernel)) ggX9_compileFactor_X9_isWord
set_option maxRecDepth 20000 in
theorem ggX9_compileFactor_X9_enter : GoodIn wsX9_compileFactor wsX9_enter := goodIn_r _ [64, 2, 65, 66, 67, 6, 68, 69, 70, 71, 72, 1, 10, 73, 74, 75, 76, 77, 78, 79, 80, 81, 9, 82, 8, 83, 84, 85, 86, 11, 87, 88, 89, 90, 91, 92, 93, 94, 147, 148, 149, 150, 151, 152, 153, 154, 155, 156, 157, 158, 159, 160, 161, 162, 163, 164, 165, 166, 167, 168, 169, 170, 171, 172, 173, 174, 175, 176, 177, 178, 179, 180, 181] (by decide +kernel) (by decide +kernel)
set_option maxRecDepth 20000 in
theorem gX9_compileFactor_X9_enter : GoodIn wsX9_compileFactor (wsV RX9 446 RX9 yX9_enter wsX9_enter) := goodIn_app (goodIn_of _ (by decide +kernel)) ggX9_compileFactor_X9_enter
set_option maxRecDepth 20000 in
theorem ggX9_compileFactor_X9_compileFactor : GoodIn wsX9_compileFactor wsX9_compileFactor := goodIn_r _ [0, 1, 2, 3, 4, 5, 6, 7, 8, 9, 10, 11, 12, 13, 14, 15, 16, 17, 18, 19, 20, 21, 22, 23, 24, 25, 26, 27, 28, 29, 30, 31, 32, 33, 34, 35, 36, 37, 38, 39, 40, 41, 42, 43, 44, 45, 46, 47, 48, 49, 50, 51, 52, 53, 54, 55, 56, 57, 58, 59, 60, 61, 62, 63, 64, 65, 66, 67, 68, 69, 70, 71, 72, 73, 74, 75, 76, 77, 78, 79, 80, 81, 82, 83, 84, 85, 86, 87, 88, 89, 90, 91, 92, 93, 94, 95, 96, 97, 98, 99, 100, 101, 102, 103, 104, 105, 106, 107, 108, 109, 110, 111, 112, 113, 114, 115, 116, 117, 118, 119, 120, 121, 122, 123, 124, 125, 126, 127, 128, 129, 130, 131, 132, 133, 134, 135, 136, 137, 138, 139, 140, 141, 142, 143, 144, 145, 146, 147, 148, 149, 150, 151, 152, 153, 154, 155, 156, 157, 158, 159, 160, 161, 162, 163, 164, 165, 166, 167, 168, 169, 170, 171, 172, 173, 174, 175, 176, 177, 178, 179, 180, 181] (by decide +kernel) (by decide +kernel)
set_option maxRecDepth 20000 in
theorem gX9_compileFactor_X9_compileFactor : GoodIn wsX9_compileFactor (wsV RX9 449 RX9 yX9_compileFactor wsX9_compileFactor) := goodIn_app (goodIn_of _ (by decide +kernel)) ggX9_compileFactor_X9_compileFactor
set_option maxRecDepth 20000 in
theorem ggX9_compileFactor_X9_emit : GoodIn wsX9_compileFactor wsX9_emit := goodIn_r _ [101, 1, 102, 103, 147, 148, 149, 150, 151, 152, 153, 154, 155, 156, 157, 158, 159, 160, 161, 162, 163, 164, 165, 166, 167, 168, 169, 170, 171, 172, 173, 174, 175, 176, 177, 178, 179, 180, 181] (by decide +kernel) (by decide +kernel)
set_option maxRecDepth 20000 in
theorem gX9_compileFactor_X9_emit : GoodIn wsX9_compileFactor (wsV RX9 441 RX9 yX9_emit wsX9_emit) := goodIn_app (goodIn_of _ (by decide +kernel)) ggX9_compileFactor_X9_emit
set_option maxRecDepth 20000 in
theorem ggX9_compileFactor_X9_isSymbol : GoodIn wsX9_compileFactor wsX9_isSymbol := goodIn_r _ [107, 1, 8, 11, 10, 147, 148, 149, 150, 151, 152, 153, 154, 155, 156, 157, 158, 159, 160, 161, 162, 163, 164, 165, 166, 167, 168, 169, 170, 171, 172, 173, 174, 175, 176, 177, 178, 179, 180, 181] (by decide +kernel) (by decide +kernel)
set_option maxRecDepth 20000 in
theorem gX9_compileFactor_X9_isSymbol : GoodIn wsX9_compileFactor (wsV RX9 371 RX9 yX9_isSymbol wsX9_isSymbol) := goodIn_app (goodIn_of _ (by decide +kernel)) ggX9_compileFactor_X9_isSymbol
set_option maxRecDepth 20000 in
theorem ggX9_compileFactor_X9_compileTest : GoodIn wsX9_compileFactor wsX9_compileTest := goodIn_r _ [143, 144, 145, 146, 6, 139, 140, 141, 142, 3, 4, 5, 7, 1, 8, 9, 10, 11, 12, 13, 14, 15, 16, 17, 18, 19, 20, 21, 22, 23, 24, 25, 26, 27, 28, 29, 30, 31, 32, 33, 34, 35, 36, 37, 38, 39, 40, 41, 42, 43, 44, 45, 46, 47, 48, 49, 50, 51, 52, 53, 54, 55, 56, 57, 58, 59, 60, 78, 79, 80, 81, 82, 83, 84, 85, 86, 87, 88, 89, 90, 91, 92, 93, 94, 98, 99, 100, 101, 102, 103, 138, 95, 96, 97, 0, 2, 61, 62, 63, 64, 65, 66, 67, 68, 69, 70, 71, 72, 73, 74, 75, 76, 77, 104, 105, 106, 107, 108, 109, 110, 111, 112, 113, 114, 115, 116, 117, 118, 119, 120, 121, 122, 123, 124, 125, 126, 127, 128, 129, 130, 131, 132, 133, 134, 135, 136, 137, 147, 148, 149, 150, 151, 152, 153, 154, 155, 156, 157, 158, 159, 160, 161, 162, 163, 164, 165, 166, 167, 168, 169, 170, 171, 172, 173, 174, 175, 176, 177, 178, 179, 180, 181] (by decide +kernel) (by decide +kernel)
set_option maxRecDepth 20000 in
theorem gX9_compileFactor_X9_compileTest : GoodIn wsX9_compileFactor (wsV RX9 452 RX9 yX9_compileTest wsX9_compileTest) := goodIn_app (goodIn_of _ (by decide +kernel)) ggX9_compileFactor_X9_compileTest
set_option maxRecDepth 20000 in
theorem ggX9_compileFactor_X9_expect : GoodIn wsX9_compileFactor wsX9_expect := goodIn_r _ [114, 104, 105, 106, 6, 107, 1, 8, 11, 10, 65, 66, 67, 68, 69, 70, 71, 72, 73, 74, 75, 76, 77, 78, 79, 80, 81, 9, 82, 83, 84, 85, 86, 87, 88, 89, 90, 91, 92, 93, 94, 147, 148, 149, 150, 151, 152, 153, 154, 155, 156, 157, 158, 159, 160, 161, 162, 163, 164, 165, 166, 167, 168, 169, 170, 171, 172, 173, 174, 175, 176, 177, 178, 179, 180, 181] (by decide +kernel) (by decide +kernel)
set_option maxRecDepth 20000 in
theorem gX9_compileFactor_X9_expect : GoodIn wsX9_compileFactor (wsV RX9 411 RX9 yX9_expect wsX9_expect) := goodIn_app (goodIn_of _ (by decide +kernel)) ggX9_compileFactor_X9_expect
set_option maxRecDepth 20000 in
theorem ggX9_compileFactor_X9_compileValue : GoodIn wsX9_compileFactor wsX9_compileValue := goodIn_r _ [118, 1, 8, 119, 120, 121, 122, 6, 123, 65, 66, 67, 68, 69, 70, 71, 72, 10, 73, 124, 125, 126, 127, 9, 128, 129, 11, 130, 131, 132, 133, 134, 135, 136, 137, 74, 75, 76, 77, 78, 79, 80, 81, 82, 83, 84, 85, 86, 87, 88, 89, 90, 91, 92, 93, 94, 98, 99, 100, 101, 102, 103, 3, 4, 5, 7, 12, 13, 14, 15, 16, 17, 18, 19, 20, 21, 22, 23, 24, 25, 26, 27, 28, 29, 30, 31, 32, 33, 34, 35, 36, 37, 38, 39, 40, 41, 42, 43, 44, 45, 46, 47, 48, 49, 50, 51, 52, 53, 54, 55, 56, 57, 58, 59, 60, 147, 148, 149, 150, 151, 152, 153, 154, 155, 156, 157, 158, 159, 160, 161, 162, 163, 164, 165, 166, 167, 168, 169, 170, 171, 172, 173, 174, 175, 176, 177, 178, 179, 180, 181] (by decide +kernel) (by decide +kernel)
set_option maxRecDepth 20000 in
theorem gX9_compileFactor_X9_compileValue : GoodIn wsX9_compileFactor (wsV RX9 455 RX9 yX9_compileValue wsX9_compileValue) := goodIn_app (goodIn_of _ (by decide +kernel)) ggX9_compileFactor_X9_compileValue
set_option maxRecDepth 20000 in
theorem ggX9_compileFactor_X9_check : GoodIn wsX9_compileFactor wsX9_check := goodIn_r _ [68, 69, 70, 71, 6, 72, 1, 10, 73, 147, 148, 149, 150, 151, 152, 153, 154, 155, 156, 157, 158, 159, 160, 161, 162, 163, 164, 165, 166, 167, 168, 169, 170, 171, 172, 173, 174, 175, 176, 177, 178, 179, 180, 181] (by decide +kernel) (by decide +kernel)
set_option maxRecDepth 20000 in
theorem gX9_compileFactor_X9_check : GoodIn wsX9_compileFactor (wsV RX9 364 RX9 yX9_check wsX9_check) := goodIn_app (goodIn_of _ (by decide +kernel)) ggX9_compileFactor_X9_check
set_option maxRecDepth 20000 in
theorem ggX9_compileFactor_X9_advance : GoodIn wsX9_compileFactor wsX9_advance := goodIn_r _ [77, 1, 78, 79, 80, 6, 81, 9, 10, 82, 8, 83, 84, 85, 86, 11, 87, 88, 89, 90, 91, 92, 93, 94, 147, 148, 149, 150, 151, 152, 153, 154, 155, 156, 157, 158, 159, 160, 161, 162, 163, 164, 165, 166, 167, 168, 169, 170, 171, 172, 173, 174, 175, 176, 177, 178, 179, 180, 181] (by decide +kernel) (by decide +kernel)
set_option maxRecDepth 20000 in
theorem gX9_compileFactor_X9_advance : GoodIn wsX9_compileFactor (wsV RX9 368 RX9 yX9_advance wsX9_advance) := goodIn_app (goodIn_of _ (by decide +kernel)) ggX9_compileFactor_X9_advance
theorem dX9_compileFactor_0 : decode cX9_compileFactor 0 = .ok (.aload_n 0, 1) := by decide +kernel
theorem dX9_compileFactor_1 : decode cX9_compileFactor 1 = .ok (.ldc_w 444, 3) := by decide +kernel
theorem dX9_compileFactor_4 : decode cX9_compileFactor 4 = .ok (.invokevirtual 360, 3) := by decide +kernel
theorem dX9_compileFactor_7 : decode cX9_compileFactor 7 = .ok (.ifCond .eq 37, 3) := by decide +kernel
theorem dX9_compileFactor_10 : decode cX9_compileFactor 10 = .ok (.aload_n 0, 1) := by decide +kernel
theorem dX9_compileFactor_11 : decode cX9_compileFactor 11 = .ok (.invokevirtual 446, 3) := by decide +kernel
theorem dX9_compileFactor_14 : decode cX9_compileFactor 14 = .ok (.aload_n 0, 1) := by decide +kernel
theorem dX9_compileFactor_15 : decode cX9_compileFactor 15 = .ok (.getfield 338, 3) := by decide +kernel
theorem dX9_compileFactor_18 : decode cX9_compileFactor 18 = .ok (.ifCond .ne 7, 3) := by decide +kernel
theorem dX9_compileFactor_21 : decode cX9_compileFactor 21 = .ok (.aload_n 0, 1) := by decide +kernel
theorem dX9_compileFactor_22 : decode cX9_compileFactor 22 = .ok (.invokevirtual 449, 3) := by decide +kernel
theorem dX9_compileFactor_25 : decode cX9_compileFactor 25 = .ok (.aload_n 0, 1) := by decide +kernel
theorem dX9_compileFactor_26 : decode cX9_compileFactor 26 = .ok (.bipush (-23), 2) := by decide +kernel
theorem dX9_compileFactor_28 : decode cX9_compileFactor 28 = .ok (.invokevirtual 441, 3) := by decide +kernel
theorem dX9_compileFactor_31 : decode cX9_compileFactor 31 = .ok (.aload_n 0, 1) := by decide +kernel
theorem dX9_compileFactor_32 : decode cX9_compileFactor 32 = .ok (.dup, 1) := by decide +kernel
theorem dX9_compileFactor_33 : decode cX9_compileFactor 33 = .ok (.getfield 341, 3) := by decide +kernel
theorem dX9_compileFactor_36 : decode cX9_compileFactor 36 = .ok (.iconst 1, 1) := by decide +kernel
theorem dX9_compileFactor_37 : decode cX9_compileFactor 37 = .ok (.isub, 1) := by decide +kernel
theorem dX9_compileFactor_38 : decode cX9_compileFactor 38 = .ok (.putfield 341, 3) := by decide +kernel
theorem dX9_compileFactor_41 : decode cX9_compileFactor 41 = .ok (.goto 119, 3) := by decide +kernel
theorem dX9_compileFactor_44 : decode cX9_compileFactor 44 = .ok (.aload_n 0, 1) := by decide +kernel
theorem dX9_compileFactor_45 : decode cX9_compileFactor 45 = .ok (.bipush 40, 2) := by decide +kernel
theorem dX9_compileFactor_47 : decode cX9_compileFactor 47 = .ok (.invokevirtual 371, 3) := by decide +kernel
theorem dX9_compileFactor_50 : decode cX9_compileFactor 50 = .ok (.ifCond .eq 37, 3) := by decide +kernel
theorem dX9_compileFactor_53 : decode cX9_compileFactor 53 = .ok (.aload_n 0, 1) := by decide +kernel
theorem dX9_compileFactor_54 : decode cX9_compileFactor 54 = .ok (.invokevirtual 446, 3) := by decide +kernel
theorem dX9_compileFactor_57 : decode cX9_compileFactor 57 = .ok (.aload_n 0, 1) := by decide +kernel
theorem dX9_compileFactor_58 : decode cX9_compileFactor 58 = .ok (.getfield 338, 3) := by decide +kernel
theorem dX9_compileFactor_61 : decode cX9_compileFactor 61 = .ok (.ifCond .ne 7, 3) := by decide +kernel
theorem dX9_compileFactor_64 : decode cX9_compileFactor 64 = .ok (.aload_n 0, 1) := by decide +kernel
theorem dX9_compileFactor_65 : decode cX9_compileFactor 65 = .ok (.invokevirtual 452, 3) := by decide +kernel
theorem dX9_compileFactor_68 : decode cX9_compileFactor 68 = .ok (.aload_n 0, 1) := by decide +kernel
theorem dX9_compileFactor_69 : decode cX9_compileFactor 69 = .ok (.bipush 41, 2) := by decide +kernel
theorem dX9_compileFactor_71 : decode cX9_compileFactor 71 = .ok (.invokevirtual 411, 3) := by decide +kernel
theorem dX9_compileFactor_74 : decode cX9_compileFactor 74 = .ok (.aload_n 0, 1) := by decide +kernel
theorem dX9_compileFactor_75 : decode cX9_compileFactor 75 = .ok (.dup, 1) := by decide +kernel
theorem dX9_compileFactor_76 : decode cX9_compileFactor 76 = .ok (.getfield 341, 3) := by decide +kernel
theorem dX9_compileFactor_79 : decode cX9_compileFactor 79 = .ok (.iconst 1, 1) := by decide +kernel
theorem dX9_compileFactor_80 : decode cX9_compileFactor 80 = .ok (.isub, 1) := by decide +kernel
theorem dX9_compileFactor_81 : decode cX9_compileFactor 81 = .ok (.putfield 341, 3) := by decide +kernel
theorem dX9_compileFactor_84 : decode cX9_compileFactor 84 = .ok (.goto 76, 3) := by decide +kernel
theorem dX9_compileFactor_87 : decode cX9_compileFactor 87 = .ok (.aload_n 0, 1) := by decide +kernel
theorem dX9_compileFactor_88 : decode cX9_compileFactor 88 = .ok (.invokevirtual 455, 3) := by decide +kernel
theorem dX9_compileFactor_91 : decode cX9_compileFactor 91 = .ok (.aload_n 0, 1) := by decide +kernel
theorem dX9_compileFactor_92 : decode cX9_compileFactor 92 = .ok (.bipush 60, 2) := by decide +kernel
theorem dX9_compileFactor_94 : decode cX9_compileFactor 94 = .ok (.invokevirtual 371, 3) := by decide +kernel
theorem dX9_compileFactor_97 : decode cX9_compileFactor 97 = .ok (.ifCond .eq 8, 3) := by decide +kernel
theorem dX9_compileFactor_100 : decode cX9_compileFactor 100 = .ok (.bipush (-20), 2) := by decide +kernel
theorem dX9_compileFactor_102 : decode cX9_compileFactor 102 = .ok (.goto 19, 3) := by decide +kernel
theorem dX9_compileFactor_105 : decode cX9_compileFactor 105 = .ok (.aload_n 0, 1) := by decide +kernel
theorem dX9_compileFactor_106 : decode cX9_compileFactor 106 = .ok (.bipush 61, 2) := by decide +kernel
theorem dX9_compileFactor_108 : decode cX9_compileFactor 108 = .ok (.invokevirtual 371, 3) := by decide +kernel
theorem dX9_compileFactor_111 : decode cX9_compileFactor 111 = .ok (.ifCond .eq 8, 3) := by decide +kernel
theorem dX9_compileFactor_114 : decode cX9_compileFactor 114 = .ok (.bipush (-21), 2) := by decide +kernel
theorem dX9_compileFactor_116 : decode cX9_compileFactor 116 = .ok (.goto 5, 3) := by decide +kernel
theorem dX9_compileFactor_119 : decode cX9_compileFactor 119 = .ok (.bipush (-22), 2) := by decide +kernel
theorem dX9_compileFactor_121 : decode cX9_compileFactor 121 = .ok (.istore_n 1, 1) := by decide +kernel
theorem dX9_compileFactor_122 : decode cX9_compileFactor 122 = .ok (.aload_n 0, 1) := by decide +kernel
theorem dX9_compileFactor_123 : decode cX9_compileFactor 123 = .ok (.iload_n 1, 1) := by decide +kernel
theorem dX9_compileFactor_124 : decode cX9_compileFactor 124 = .ok (.bipush (-22), 2) := by decide +kernel
theorem dX9_compileFactor_126 : decode cX9_compileFactor 126 = .ok (.if_icmp .ne 12, 3) := by decide +kernel
theorem dX9_compileFactor_129 : decode cX9_compileFactor 129 = .ok (.aload_n 0, 1) := by decide +kernel
theorem dX9_compileFactor_130 : decode cX9_compileFactor 130 = .ok (.bipush 62, 2) := by decide +kernel
theorem dX9_compileFactor_132 : decode cX9_compileFactor 132 = .ok (.invokevirtual 371, 3) := by decide +kernel
theorem dX9_compileFactor_135 : decode cX9_compileFactor 135 = .ok (.ifCond .eq 7, 3) := by decide +kernel
theorem dX9_compileFactor_138 : decode cX9_compileFactor 138 = .ok (.iconst 1, 1) := by decide +kernel
theorem dX9_compileFactor_139 : decode cX9_compileFactor 139 = .ok (.goto 4, 3) := by decide +kernel
theorem dX9_compileFactor_142 : decode cX9_compileFactor 142 = .ok (.iconst 0, 1) := by decide +kernel
theorem dX9_compileFactor_143 : decode cX9_compileFactor 143 = .ok (.iconst 1, 1) := by decide +kernel
theorem dX9_compileFactor_144 : decode cX9_compileFactor 144 = .ok (.invokevirtual 364, 3) := by decide +kernel
theorem dX9_compileFactor_147 : decode cX9_compileFactor 147 = .ok (.aload_n 0, 1) := by decide +kernel
theorem dX9_compileFactor_148 : decode cX9_compileFactor 148 = .ok (.invokevirtual 368, 3) := by decide +kernel
theorem dX9_compileFactor_151 : decode cX9_compileFactor 151 = .ok (.aload_n 0, 1) := by decide +kernel
theorem dX9_compileFactor_152 : decode cX9_compileFactor 152 = .ok (.invokevirtual 455, 3) := by decide +kernel
theorem dX9_compileFactor_155 : decode cX9_compileFactor 155 = .ok (.aload_n 0, 1) := by decide +kernel
theorem dX9_compileFactor_156 : decode cX9_compileFactor 156 = .ok (.iload_n 1, 1) := by decide +kernel
theorem dX9_compileFactor_157 : decode cX9_compileFactor 157 = .ok (.invokevirtual 441, 3) := by decide +kernel
theorem dX9_compileFactor_160 : decode cX9_compileFactor 160 = .ok (.return_, 1) := by decide +kernel
set_option maxRecDepth 20000 in
theorem ggX9_compileConjunction_X9_compileFactor : GoodIn wsX9_compileConjunction wsX9_compileFactor := goodIn_r _ [90, 13, 91, 9, 10, 11, 4, 12, 14, 15, 16, 17, 18, 19, 20, 21, 22, 23, 24, 25, 26, 27, 28, 29, 30, 31, 32, 33, 34, 35, 36, 37, 38, 39, 40, 41, 42, 43, 44, 45, 46, 47, 48, 49, 50, 51, 52, 53, 54, 55, 56, 57, 58, 59, 60, 61, 62, 63, 64, 65, 66, 92, 93, 94, 95, 96, 97, 98, 99, 100, 101, 102, 103, 104, 105, 106, 107, 108, 67, 68, 69, 70, 71, 72, 73, 74, 75, 76, 77, 78, 79, 80, 81, 82, 83, 1, 2, 3, 84, 85, 86, 87, 88, 89, 109, 110, 111, 112, 113, 114, 115, 116, 117, 118, 119, 120, 121, 122, 123, 124, 125, 126, 127, 128, 129, 130, 131, 132, 133, 134, 135, 136, 137, 138, 139, 140, 141, 142, 0, 5, 6, 7, 8, 143, 144, 145, 146, 147, 148, 149, 150, 151, 152, 153, 154, 155, 156, 157, 158, 159, 160, 161, 162, 163, 164, 165, 166, 167, 168, 169, 170, 171, 172, 173, 174, 175, 176, 177, 178, 179, 180, 181] (by decide +kernel) (by decide +kernel)
set_option maxRecDepth 20000 in
theorem gX9_compileConjunction_X9_compileFactor : GoodIn wsX9_compileConjunction (wsV RX9 449 RX9 yX9_compileFactor wsX9_compileFactor) := goodIn_app (goodIn_of _ (by decide +kernel)) ggX9_compileConjunction_X9_compileFactor
set_option maxRecDepth 20000 in
theorem ggX9_compileConjunction_X9_accept : GoodIn wsX9_compileConjunction wsX9_accept := goodIn_r _ [8, 9, 10, 11, 4, 12, 13, 14, 15, 16, 17, 18, 19, 20, 21, 22, 23, 24, 25, 26, 27, 28, 29, 30, 31, 32, 33, 34, 35, 36, 37, 38, 39, 40, 41, 42, 43, 44, 45, 46, 47, 48, 49, 50, 51, 52, 53, 54, 55, 56, 57, 58, 59, 60, 61, 62, 63, 64, 65, 66, 67, 68, 69, 70, 71, 72, 73, 74, 75, 76, 77, 78, 79, 80, 81, 82, 83, 147, 148, 149, 150, 151, 152, 153, 154, 155, 156, 157, 158, 159, 160, 161, 162, 163, 164, 165, 166, 167, 168, 169, 170, 171, 172, 173, 174, 175, 176, 177, 178, 179, 180, 181] (by decide +kernel) (by decide +kernel)
set_option maxRecDepth 20000 in
theorem gX9_compileConjunction_X9_accept : GoodIn wsX9_compileConjunction (wsV RX9 392 RX9 yX9_accept wsX9_accept) := goodIn_app (goodIn_of _ (by decide +kernel)) ggX9_compileConjunction_X9_accept
set_option maxRecDepth 20000 in
theorem ggX9_compileConjunction_X9_emit : GoodIn wsX9_compileConjunction wsX9_emit := goodIn_r _ [87, 13, 88, 89, 147, 148, 149, 150, 151, 152, 153, 154, 155, 156, 157, 158, 159, 160, 161, 162, 163, 164, 165, 166, 167, 168, 169, 170, 171, 172, 173, 174, 175, 176, 177, 178, 179, 180, 181] (by decide +kernel) (by decide +kernel)
set_option maxRecDepth 20000 in
theorem gX9_compileConjunction_X9_emit : GoodIn wsX9_compileConjunction (wsV RX9 441 RX9 yX9_emit wsX9_emit) := goodIn_app (goodIn_of _ (by decide +kernel)) ggX9_compileConjunction_X9_emit
theorem dX9_compileConjunction_0 : decode cX9_compileConjunction 0 = .ok (.aload_n 0, 1) := by decide +kernel
theorem dX9_compileConjunction_1 : decode cX9_compileConjunction 1 = .ok (.invokevirtual 449, 3) := by decide +kernel
theorem dX9_compileConjunction_4 : decode cX9_compileConjunction 4 = .ok (.aload_n 0, 1) := by decide +kernel
theorem dX9_compileConjunction_5 : decode cX9_compileConjunction 5 = .ok (.ldc_w 458, 3) := by decide +kernel
theorem dX9_compileConjunction_8 : decode cX9_compileConjunction 8 = .ok (.invokevirtual 392, 3) := by decide +kernel
theorem dX9_compileConjunction_11 : decode cX9_compileConjunction 11 = .ok (.ifCond .eq 16, 3) := by decide +kernel
theorem dX9_compileConjunction_14 : decode cX9_compileConjunction 14 = .ok (.aload_n 0, 1) := by decide +kernel
theorem dX9_compileConjunction_15 : decode cX9_compileConjunction 15 = .ok (.invokevirtual 449, 3) := by decide +kernel
theorem dX9_compileConjunction_18 : decode cX9_compileConjunction 18 = .ok (.aload_n 0, 1) := by decide +kernel
theorem dX9_compileConjunction_19 : decode cX9_compileConjunction 19 = .ok (.bipush (-24), 2) := by decide +kernel
theorem dX9_compileConjunction_21 : decode cX9_compileConjunction 21 = .ok (.invokevirtual 441, 3) := by decide +kernel
theorem dX9_compileConjunction_24 : decode cX9_compileConjunction 24 = .ok (.goto (-20), 3) := by decide +kernel
theorem dX9_compileConjunction_27 : decode cX9_compileConjunction 27 = .ok (.return_, 1) := by decide +kernel
set_option maxRecDepth 20000 in
theorem ggX9_compileTest_X9_compileConjunction : GoodIn wsX9_compileTest wsX9_compileConjunction := goodIn_r _ [90, 91, 92, 93, 4, 5, 6, 7, 8, 9, 10, 11, 12, 13, 14, 15, 16, 17, 18, 19, 20, 21, 22, 23, 24, 25, 26, 27, 28, 29, 30, 31, 32, 33, 34, 35, 36, 37, 38, 39, 40, 41, 42, 43, 44, 45, 46, 47, 48, 49, 50, 51, 52, 53, 54, 55, 56, 57, 58, 59, 60, 61, 62, 63, 64, 65, 66, 67, 68, 69, 70, 71, 72, 73, 74, 75, 76, 77, 78, 79, 80, 81, 82, 83, 84, 85, 86, 87, 88, 89, 94, 95, 96, 97, 98, 99, 100, 101, 102, 103, 104, 105, 106, 107, 108, 109, 110, 111, 112, 113, 114, 115, 116, 117, 118, 119, 120, 121, 122, 123, 124, 125, 126, 127, 128, 129, 130, 131, 132, 133, 134, 135, 136, 137, 138, 139, 140, 141, 142, 143, 144, 145, 146, 0, 1, 2, 3, 147, 148, 149, 150, 151, 152, 153, 154, 155, 156, 157, 158, 159, 160, 161, 162, 163, 164, 165, 166, 167, 168, 169, 170, 171, 172, 173, 174, 175, 176, 177, 178, 179, 180, 181] (by decide +kernel) (by decide +kernel)
set_option maxRecDepth 20000 in
theorem gX9_compileTest_X9_compileConjunction : GoodIn wsX9_compileTest (wsV RX9 460 RX9 yX9_compileConjunction wsX9_compileConjunction) := goodIn_app (goodIn_of _ (by decide +kernel)) ggX9_compileTest_X9_compileConjunction
set_option maxRecDepth 20000 in
theorem ggX9_compileTest_X9_accept : GoodIn wsX9_compileTest wsX9_accept := goodIn_r _ [8, 9, 10, 11, 4, 12, 13, 14, 15, 16, 17, 18, 19, 20, 21, 22, 23, 24, 25, 26, 27, 28, 29, 30, 31, 32, 33, 34, 35, 36, 37, 38, 39, 40, 41, 42, 43, 44, 45, 46, 47, 48, 49, 50, 51, 52, 53, 54, 55, 56, 57, 58, 59, 60, 61, 62, 63, 64, 65, 66, 67, 68, 69, 70, 71, 72, 73, 74, 75, 76, 77, 78, 79, 80, 81, 82, 83, 147, 148, 149, 150, 151, 152, 153, 154, 155, 156, 157, 158, 159, 160, 161, 162, 163, 164, 165, 166, 167, 168, 169, 170, 171, 172, 173, 174, 175, 176, 177, 178, 179, 180, 181] (by decide +kernel) (by decide +kernel)
set_option maxRecDepth 20000 in
theorem gX9_compileTest_X9_accept : GoodIn wsX9_compileTest (wsV RX9 392 RX9 yX9_accept wsX9_accept) := goodIn_app (goodIn_of _ (by decide +kernel)) ggX9_compileTest_X9_accept
set_option maxRecDepth 20000 in
theorem ggX9_compileTest_X9_emit : GoodIn wsX9_compileTest wsX9_emit := goodIn_r _ [87, 13, 88, 89, 147, 148, 149, 150, 151, 152, 153, 154, 155, 156, 157, 158, 159, 160, 161, 162, 163, 164, 165, 166, 167, 168, 169, 170, 171, 172, 173, 174, 175, 176, 177, 178, 179, 180, 181] (by decide +kernel) (by decide +kernel)
set_option maxRecDepth 20000 in
theorem gX9_compileTest_X9_emit : GoodIn wsX9_compileTest (wsV RX9 441 RX9 yX9_emit wsX9_emit) := goodIn_app (goodIn_of _ (by decide +kernel)) ggX9_compileTest_X9_emit
theorem dX9_compileTest_0 : decode cX9_compileTest 0 = .ok (.aload_n 0, 1) := by decide +kernel
theorem dX9_compileTest_1 : decode cX9_compileTest 1 = .ok (.invokevirtual 460, 3) := by decide +kernel
theorem dX9_compileTest_4 : decode cX9_compileTest 4 = .ok (.aload_n 0, 1) := by decide +kernel
theorem dX9_compileTest_5 : decode cX9_compileTest 5 = .ok (.ldc_w 463, 3) := by decide +kernel
theorem dX9_compileTest_8 : decode cX9_compileTest 8 = .ok (.invokevirtual 392, 3) := by decide +kernel
theorem dX9_compileTest_11 : decode cX9_compileTest 11 = .ok (.ifCond .eq 16, 3) := by decide +kernel
theorem dX9_compileTest_14 : decode cX9_compileTest 14 = .ok (.aload_n 0, 1) := by decide +kernel
theorem dX9_compileTest_15 : decode cX9_compileTest 15 = .ok (.invokevirtual 460, 3) := by decide +kernel
theorem dX9_compileTest_18 : decode cX9_compileTest 18 = .ok (.aload_n 0, 1) := by decide +kernel
theorem dX9_compileTest_19 : decode cX9_compileTest 19 = .ok (.bipush (-25), 2) := by decide +kernel
theorem dX9_compileTest_21 : decode cX9_compileTest 21 = .ok (.invokevirtual 441, 3) := by decide +kernel
theorem dX9_compileTest_24 : decode cX9_compileTest 24 = .ok (.goto (-20), 3) := by decide +kernel
theorem dX9_compileTest_27 : decode cX9_compileTest 27 = .ok (.return_, 1) := by decide +kernel
theorem dX9_operate_0 : decode cX9_operate 0 = .ok (.iload_n 0, 1) := by decide +kernel
theorem dX9_operate_1 : decode cX9_operate 1 = .ok (.tableswitch 75 (-24) (-20) #[71, 75, 59, 47, 35], 35) := by decide +kernel
theorem dX9_operate_36 : decode cX9_operate 36 = .ok (.lload_n 1, 1) := by decide +kernel
theorem dX9_operate_37 : decode cX9_operate 37 = .ok (.lload_n 3, 1) := by decide +kernel
theorem dX9_operate_38 : decode cX9_operate 38 = .ok (.lcmp, 1) := by decide +kernel
theorem dX9_operate_39 : decode cX9_operate 39 = .ok (.ifCond .ge 7, 3) := by decide +kernel
theorem dX9_operate_42 : decode cX9_operate 42 = .ok (.lconst 1, 1) := by decide +kernel
theorem dX9_operate_43 : decode cX9_operate 43 = .ok (.goto 4, 3) := by decide +kernel
theorem dX9_operate_46 : decode cX9_operate 46 = .ok (.lconst 0, 1) := by decide +kernel
theorem dX9_operate_47 : decode cX9_operate 47 = .ok (.lreturn, 1) := by decide +kernel
theorem dX9_operate_48 : decode cX9_operate 48 = .ok (.lload_n 1, 1) := by decide +kernel
theorem dX9_operate_49 : decode cX9_operate 49 = .ok (.lload_n 3, 1) := by decide +kernel
theorem dX9_operate_50 : decode cX9_operate 50 = .ok (.lcmp, 1) := by decide +kernel
theorem dX9_operate_51 : decode cX9_operate 51 = .ok (.ifCond .ne 7, 3) := by decide +kernel
theorem dX9_operate_54 : decode cX9_operate 54 = .ok (.lconst 1, 1) := by decide +kernel
theorem dX9_operate_55 : decode cX9_operate 55 = .ok (.goto 4, 3) := by decide +kernel
theorem dX9_operate_58 : decode cX9_operate 58 = .ok (.lconst 0, 1) := by decide +kernel
theorem dX9_operate_59 : decode cX9_operate 59 = .ok (.lreturn, 1) := by decide +kernel
theorem dX9_operate_60 : decode cX9_operate 60 = .ok (.lload_n 1, 1) := by decide +kernel
theorem dX9_operate_61 : decode cX9_operate 61 = .ok (.lload_n 3, 1) := by decide +kernel
theorem dX9_operate_62 : decode cX9_operate 62 = .ok (.lcmp, 1) := by decide +kernel
theorem dX9_operate_63 : decode cX9_operate 63 = .ok (.ifCond .le 7, 3) := by decide +kernel
theorem dX9_operate_66 : decode cX9_operate 66 = .ok (.lconst 1, 1) := by decide +kernel
theorem dX9_operate_67 : decode cX9_operate 67 = .ok (.goto 4, 3) := by decide +kernel
theorem dX9_operate_70 : decode cX9_operate 70 = .ok (.lconst 0, 1) := by decide +kernel
theorem dX9_operate_71 : decode cX9_operate 71 = .ok (.lreturn, 1) := by decide +kernel
theorem dX9_operate_72 : decode cX9_operate 72 = .ok (.lload_n 1, 1) := by decide +kernel
theorem dX9_operate_73 : decode cX9_operate 73 = .ok (.lload_n 3, 1) := by decide +kernel
theorem dX9_operate_74 : decode cX9_operate 74 = .ok (.land, 1) := by decide +kernel
theorem dX9_operate_75 : decode cX9_operate 75 = .ok (.lreturn, 1) := by decide +kernel
theorem dX9_operate_76 : decode cX9_operate 76 = .ok (.lload_n 1, 1) := by decide +kernel
theorem dX9_operate_77 : decode cX9_operate 77 = .ok (.lload_n 3, 1) := by decide +kernel
theorem dX9_operate_78 : decode cX9_operate 78 = .ok (.lor, 1) := by decide +kernel
theorem dX9_operate_79 : decode cX9_operate 79 = .ok (.lreturn, 1) := by decide +kernel
set_option maxRecDepth 20000 in
theorem ggX9_walksIn_X9_guards : GoodIn wsX9_walksIn wsX9_guards := goodIn_r _ [5, 6, 18, 19, 20, 21, 22, 23, 24, 25, 26, 27, 28, 29, 30, 31, 32, 33, 34, 35, 36, 37, 38, 39, 40, 41, 42, 43, 44, 45, 46, 47, 48, 49, 50, 51, 52] (by decide +kernel) (by decide +kernel)
set_option maxRecDepth 20000 in
theorem gX9_walksIn_X9_guards : GoodIn wsX9_walksIn (wsV RX9 118 RX9 yX9_guards wsX9_guards) := goodIn_app (goodIn_of _ (by decide +kernel)) ggX9_walksIn_X9_guards
set_option maxRecDepth 20000 in
theorem ggX9_walksIn_X9_period : GoodIn wsX9_walksIn wsX9_period := goodIn_r _ [10, 6, 11, 12, 4, 13, 18, 19, 20, 21, 22, 23, 24, 25, 26, 27, 28, 29, 30, 31, 32, 33, 34, 35, 36, 37, 38, 39, 40, 41, 42, 43, 44, 45, 46, 47, 48, 49, 50, 51, 52] (by decide +kernel) (by decide +kernel)
set_option maxRecDepth 20000 in
theorem gX9_walksIn_X9_period : GoodIn wsX9_walksIn (wsV RX9 126 RX9 yX9_period wsX9_period) := goodIn_app (goodIn_of _ (by decide +kernel)) ggX9_walksIn_X9_period
set_option maxRecDepth 20000 in
theorem ggX9_walksIn_X9_step : GoodIn wsX9_walksIn wsX9_step := goodIn_r _ [17, 6, 11, 12, 4, 13, 18, 19, 20, 21, 22, 23, 24, 25, 26, 27, 28, 29, 30, 31, 32, 33, 34, 35, 36, 37, 38, 39, 40, 41, 42, 43, 44, 45, 46, 47, 48, 49, 50, 51, 52] (by decide +kernel) (by decide +kernel)
set_option maxRecDepth 20000 in
theorem gX9_walksIn_X9_step : GoodIn wsX9_walksIn (wsV RX9 130 RX9 yX9_step wsX9_step) := goodIn_app (goodIn_of _ (by decide +kernel)) ggX9_walksIn_X9_step
theorem dX9_walksIn_0 : decode cX9_walksIn 0 = .ok (.iconst 0, 1) := by decide +kernel
theorem dX9_walksIn_1 : decode cX9_walksIn 1 = .ok (.istore_n 2, 1) := by decide +kernel
theorem dX9_walksIn_2 : decode cX9_walksIn 2 = .ok (.iconst 0, 1) := by decide +kernel
theorem dX9_walksIn_3 : decode cX9_walksIn 3 = .ok (.istore_n 3, 1) := by decide +kernel
theorem dX9_walksIn_4 : decode cX9_walksIn 4 = .ok (.iload_n 3, 1) := by decide +kernel
theorem dX9_walksIn_5 : decode cX9_walksIn 5 = .ok (.aload_n 0, 1) := by decide +kernel
theorem dX9_walksIn_6 : decode cX9_walksIn 6 = .ok (.invokevirtual 118, 3) := by decide +kernel
theorem dX9_walksIn_9 : decode cX9_walksIn 9 = .ok (.if_icmp .ge 65, 3) := by decide +kernel
theorem dX9_walksIn_12 : decode cX9_walksIn 12 = .ok (.iconst 0, 1) := by decide +kernel
theorem dX9_walksIn_13 : decode cX9_walksIn 13 = .ok (.istore 4, 2) := by decide +kernel
theorem dX9_walksIn_15 : decode cX9_walksIn 15 = .ok (.iconst 0, 1) := by decide +kernel
theorem dX9_walksIn_16 : decode cX9_walksIn 16 = .ok (.istore 5, 2) := by decide +kernel
theorem dX9_walksIn_18 : decode cX9_walksIn 18 = .ok (.iload 5, 2) := by decide +kernel
theorem dX9_walksIn_20 : decode cX9_walksIn 20 = .ok (.aload_n 0, 1) := by decide +kernel
theorem dX9_walksIn_21 : decode cX9_walksIn 21 = .ok (.iload_n 3, 1) := by decide +kernel
theorem dX9_walksIn_22 : decode cX9_walksIn 22 = .ok (.invokevirtual 126, 3) := by decide +kernel
theorem dX9_walksIn_25 : decode cX9_walksIn 25 = .ok (.if_icmp .ge 30, 3) := by decide +kernel
theorem dX9_walksIn_28 : decode cX9_walksIn 28 = .ok (.iload 4, 2) := by decide +kernel
theorem dX9_walksIn_30 : decode cX9_walksIn 30 = .ok (.aload_n 0, 1) := by decide +kernel
theorem dX9_walksIn_31 : decode cX9_walksIn 31 = .ok (.iload_n 3, 1) := by decide +kernel
theorem dX9_walksIn_32 : decode cX9_walksIn 32 = .ok (.iload 5, 2) := by decide +kernel
theorem dX9_walksIn_34 : decode cX9_walksIn 34 = .ok (.invokevirtual 130, 3) := by decide +kernel
theorem dX9_walksIn_37 : decode cX9_walksIn 37 = .ok (.iload_n 1, 1) := by decide +kernel
theorem dX9_walksIn_38 : decode cX9_walksIn 38 = .ok (.if_icmp .ne 7, 3) := by decide +kernel
theorem dX9_walksIn_41 : decode cX9_walksIn 41 = .ok (.iconst 1, 1) := by decide +kernel
theorem dX9_walksIn_42 : decode cX9_walksIn 42 = .ok (.goto 4, 3) := by decide +kernel
theorem dX9_walksIn_45 : decode cX9_walksIn 45 = .ok (.iconst 0, 1) := by decide +kernel
theorem dX9_walksIn_46 : decode cX9_walksIn 46 = .ok (.ior, 1) := by decide +kernel
theorem dX9_walksIn_47 : decode cX9_walksIn 47 = .ok (.istore 4, 2) := by decide +kernel
theorem dX9_walksIn_49 : decode cX9_walksIn 49 = .ok (.iinc 5 1, 3) := by decide +kernel
theorem dX9_walksIn_52 : decode cX9_walksIn 52 = .ok (.goto (-34), 3) := by decide +kernel
theorem dX9_walksIn_55 : decode cX9_walksIn 55 = .ok (.iload_n 2, 1) := by decide +kernel
theorem dX9_walksIn_56 : decode cX9_walksIn 56 = .ok (.iload 4, 2) := by decide +kernel
theorem dX9_walksIn_58 : decode cX9_walksIn 58 = .ok (.ifCond .eq 7, 3) := by decide +kernel
theorem dX9_walksIn_61 : decode cX9_walksIn 61 = .ok (.iconst 1, 1) := by decide +kernel
theorem dX9_walksIn_62 : decode cX9_walksIn 62 = .ok (.goto 4, 3) := by decide +kernel
theorem dX9_walksIn_65 : decode cX9_walksIn 65 = .ok (.iconst 0, 1) := by decide +kernel
theorem dX9_walksIn_66 : decode cX9_walksIn 66 = .ok (.iadd, 1) := by decide +kernel
theorem dX9_walksIn_67 : decode cX9_walksIn 67 = .ok (.istore_n 2, 1) := by decide +kernel
theorem dX9_walksIn_68 : decode cX9_walksIn 68 = .ok (.iinc 3 1, 3) := by decide +kernel
theorem dX9_walksIn_71 : decode cX9_walksIn 71 = .ok (.goto (-67), 3) := by decide +kernel
theorem dX9_walksIn_74 : decode cX9_walksIn 74 = .ok (.iload_n 2, 1) := by decide +kernel
theorem dX9_walksIn_75 : decode cX9_walksIn 75 = .ok (.ireturn, 1) := by decide +kernel
set_option maxRecDepth 20000 in
theorem ggX9_property_X9_openAt : GoodIn wsX9_property wsX9_openAt := goodIn_r _ [11, 12, 13, 14, 15, 10, 16, 17, 18, 19, 50, 51, 52, 53, 54, 55, 56, 57, 58, 59, 60, 61, 62, 63, 64, 65, 66, 67, 68, 69, 70, 71, 72, 73, 74, 75, 76, 77, 78, 79, 80, 81, 82, 83, 84] (by decide +kernel) (by decide +kernel)
set_option maxRecDepth 20000 in
theorem gX9_property_X9_openAt : GoodIn wsX9_property (wsV RX9 232 RX9 yX9_openAt wsX9_openAt) := goodIn_app (goodIn_of _ (by decide +kernel)) ggX9_property_X9_openAt
set_option maxRecDepth 20000 in
theorem ggX9_property_X9_ofRoom : GoodIn wsX9_property wsX9_ofRoom := goodIn_r _ [23, 12, 24, 25, 10, 26, 50, 51, 52, 53, 54, 55, 56, 57, 58, 59, 60, 61, 62, 63, 64, 65, 66, 67, 68, 69, 70, 71, 72, 73, 74, 75, 76, 77, 78, 79, 80, 81, 82, 83, 84] (by decide +kernel) (by decide +kernel)
set_option maxRecDepth 20000 in
theorem gX9_property_X9_ofRoom : GoodIn wsX9_property (wsV RX9 178 RX9 yX9_ofRoom wsX9_ofRoom) := goodIn_app (goodIn_of _ (by decide +kernel)) ggX9_property_X9_ofRoom
set_option maxRecDepth 20000 in
theorem ggX9_property_X9_isLate : GoodIn wsX9_property wsX9_isLate := goodIn_r _ [30, 1, 20, 21, 22, 10, 23, 12, 24, 25, 26, 50, 51, 52, 53, 54, 55, 56, 57, 58, 59, 60, 61, 62, 63, 64, 65, 66, 67, 68, 69, 70, 71, 72, 73, 74, 75, 76, 77, 78, 79, 80, 81, 82, 83, 84] (by decide +kernel) (by decide +kernel)
set_option maxRecDepth 20000 in
theorem gX9_property_X9_isLate : GoodIn wsX9_property (wsV RX9 181 RX9 yX9_isLate wsX9_isLate) := goodIn_app (goodIn_of _ (by decide +kernel)) ggX9_property_X9_isLate
set_option maxRecDepth 20000 in
theorem ggX9_property_X9_walksIn : GoodIn wsX9_property wsX9_walksIn := goodIn_r _ [34, 35, 36, 37, 10, 38, 12, 39, 40, 41, 42, 43, 44, 45, 46, 47, 48, 49, 50, 51, 52, 53, 54, 55, 56, 57, 58, 59, 60, 61, 62, 63, 64, 65, 66, 67, 68, 69, 70, 71, 72, 73, 74, 75, 76, 77, 78, 79, 80, 81, 82, 83, 84] (by decide +kernel) (by decide +kernel)
set_option maxRecDepth 20000 in
theorem gX9_property_X9_walksIn : GoodIn wsX9_property (wsV RX9 465 RX9 yX9_walksIn wsX9_walksIn) := goodIn_app (goodIn_of _ (by decide +kernel)) ggX9_property_X9_walksIn
theorem dX9_property_0 : decode cX9_property 0 = .ok (.iload_n 2, 1) := by decide +kernel
theorem dX9_property_1 : decode cX9_property 1 = .ok (.tableswitch 138 0 9 #[55, 57, 63, 70, 81, 97, 111, 118, 124, 131], 55) := by decide +kernel
theorem dX9_property_56 : decode cX9_property 56 = .ok (.iload_n 1, 1) := by decide +kernel
theorem dX9_property_57 : decode cX9_property 57 = .ok (.ireturn, 1) := by decide +kernel
theorem dX9_property_58 : decode cX9_property 58 = .ok (.aload_n 0, 1) := by decide +kernel
theorem dX9_property_59 : decode cX9_property 59 = .ok (.iload_n 1, 1) := by decide +kernel
theorem dX9_property_60 : decode cX9_property 60 = .ok (.invokevirtual 232, 3) := by decide +kernel
theorem dX9_property_63 : decode cX9_property 63 = .ok (.ireturn, 1) := by decide +kernel
theorem dX9_property_64 : decode cX9_property 64 = .ok (.aload_n 0, 1) := by decide +kernel
theorem dX9_property_65 : decode cX9_property 65 = .ok (.iload_n 1, 1) := by decide +kernel
theorem dX9_property_66 : decode cX9_property 66 = .ok (.iconst 0, 1) := by decide +kernel
theorem dX9_property_67 : decode cX9_property 67 = .ok (.invokevirtual 178, 3) := by decide +kernel
theorem dX9_property_70 : decode cX9_property 70 = .ok (.ireturn, 1) := by decide +kernel
theorem dX9_property_71 : decode cX9_property 71 = .ok (.iconst 0, 1) := by decide +kernel
theorem dX9_property_72 : decode cX9_property 72 = .ok (.aload_n 0, 1) := by decide +kernel
theorem dX9_property_73 : decode cX9_property 73 = .ok (.getfield 40, 3) := by decide +kernel
theorem dX9_property_76 : decode cX9_property 76 = .ok (.iload_n 1, 1) := by decide +kernel
theorem dX9_property_77 : decode cX9_property 77 = .ok (.iaload, 1) := by decide +kernel
theorem dX9_property_78 : decode cX9_property 78 = .ok (.invokestatic 145, 3) := by decide +kernel
theorem dX9_property_81 : decode cX9_property 81 = .ok (.ireturn, 1) := by decide +kernel
theorem dX9_property_82 : decode cX9_property 82 = .ok (.aload_n 0, 1) := by decide +kernel
theorem dX9_property_83 : decode cX9_property 83 = .ok (.getfield 40, 3) := by decide +kernel
theorem dX9_property_86 : decode cX9_property 86 = .ok (.iload_n 1, 1) := by decide +kernel
theorem dX9_property_87 : decode cX9_property 87 = .ok (.iaload, 1) := by decide +kernel
theorem dX9_property_88 : decode cX9_property 88 = .ok (.iconst (-1), 1) := by decide +kernel
theorem dX9_property_89 : decode cX9_property 89 = .ok (.if_icmp .ne 7, 3) := by decide +kernel
theorem dX9_property_92 : decode cX9_property 92 = .ok (.iconst 1, 1) := by decide +kernel
theorem dX9_property_93 : decode cX9_property 93 = .ok (.goto 4, 3) := by decide +kernel
theorem dX9_property_96 : decode cX9_property 96 = .ok (.iconst 0, 1) := by decide +kernel
theorem dX9_property_97 : decode cX9_property 97 = .ok (.ireturn, 1) := by decide +kernel
theorem dX9_property_98 : decode cX9_property 98 = .ok (.aload_n 0, 1) := by decide +kernel
theorem dX9_property_99 : decode cX9_property 99 = .ok (.iload_n 1, 1) := by decide +kernel
theorem dX9_property_100 : decode cX9_property 100 = .ok (.invokevirtual 181, 3) := by decide +kernel
theorem dX9_property_103 : decode cX9_property 103 = .ok (.ifCond .eq 7, 3) := by decide +kernel
theorem dX9_property_106 : decode cX9_property 106 = .ok (.iconst 1, 1) := by decide +kernel
theorem dX9_property_107 : decode cX9_property 107 = .ok (.goto 4, 3) := by decide +kernel
theorem dX9_property_110 : decode cX9_property 110 = .ok (.iconst 0, 1) := by decide +kernel
theorem dX9_property_111 : decode cX9_property 111 = .ok (.ireturn, 1) := by decide +kernel
theorem dX9_property_112 : decode cX9_property 112 = .ok (.aload_n 0, 1) := by decide +kernel
theorem dX9_property_113 : decode cX9_property 113 = .ok (.getfield 37, 3) := by decide +kernel
theorem dX9_property_116 : decode cX9_property 116 = .ok (.iload_n 1, 1) := by decide +kernel
theorem dX9_property_117 : decode cX9_property 117 = .ok (.iaload, 1) := by decide +kernel
theorem dX9_property_118 : decode cX9_property 118 = .ok (.ireturn, 1) := by decide +kernel
theorem dX9_property_119 : decode cX9_property 119 = .ok (.aload_n 0, 1) := by decide +kernel
theorem dX9_property_120 : decode cX9_property 120 = .ok (.iload_n 1, 1) := by decide +kernel
theorem dX9_property_121 : decode cX9_property 121 = .ok (.invokevirtual 465, 3) := by decide +kernel
theorem dX9_property_124 : decode cX9_property 124 = .ok (.ireturn, 1) := by decide +kernel
theorem dX9_property_125 : decode cX9_property 125 = .ok (.aload_n 0, 1) := by decide +kernel
theorem dX9_property_126 : decode cX9_property 126 = .ok (.iload_n 1, 1) := by decide +kernel
theorem dX9_property_127 : decode cX9_property 127 = .ok (.iconst 1, 1) := by decide +kernel
theorem dX9_property_128 : decode cX9_property 128 = .ok (.invokevirtual 178, 3) := by decide +kernel
theorem dX9_property_131 : decode cX9_property 131 = .ok (.ireturn, 1) := by decide +kernel
theorem dX9_property_132 : decode cX9_property 132 = .ok (.aload_n 0, 1) := by decide +kernel
theorem dX9_property_133 : decode cX9_property 133 = .ok (.iload_n 1, 1) := by decide +kernel
theorem dX9_property_134 : decode cX9_property 134 = .ok (.iconst 3, 1) := by decide +kernel
theorem dX9_property_135 : decode cX9_property 135 = .ok (.invokevirtual 178, 3) := by decide +kernel
theorem dX9_property_138 : decode cX9_property 138 = .ok (.ireturn, 1) := by decide +kernel
theorem dX9_property_139 : decode cX9_property 139 = .ok (.aload_n 0, 1) := by decide +kernel
theorem dX9_property_140 : decode cX9_property 140 = .ok (.iload_n 1, 1) := by decide +kernel
theorem dX9_property_141 : decode cX9_property 141 = .ok (.iconst 4, 1) := by decide +kernel
theorem dX9_property_142 : decode cX9_property 142 = .ok (.invokevirtual 178, 3) := by decide +kernel
theorem dX9_property_145 : decode cX9_property 145 = .ok (.ireturn, 1) := by decide +kernel
set_option maxRecDepth 20000 in
theorem ggX9_holdsFor_X9_property : GoodIn wsX9_holdsFor wsX9_property := goodIn_r _ [8, 9, 10, 11, 12, 13, 14, 15, 16, 17, 7, 18, 19, 20, 21, 22, 23, 24, 25, 26, 27, 28, 29, 30, 31, 32, 33, 34, 35, 36, 37, 38, 39, 40, 41, 42, 43, 44, 45, 46, 47, 48, 49, 50, 51, 52, 53, 54, 55, 56, 60, 61, 62, 63, 64, 65, 66, 67, 68, 69, 70, 71, 72, 73, 74, 75, 76, 77, 78, 79, 80, 81, 82, 83, 84, 85, 86, 87, 88, 89, 90, 91, 92, 93, 94] (by decide +kernel) (by decide +kernel)
set_option maxRecDepth 20000 in
theorem gX9_holdsFor_X9_property : GoodIn wsX9_holdsFor (wsV RX9 468 RX9 yX9_property wsX9_property) := goodIn_app (goodIn_of _ (by decide +kernel)) ggX9_holdsFor_X9_property
set_option maxRecDepth 20000 in
theorem ggX9_holdsFor_X9_operate : GoodIn wsX9_holdsFor wsX9_operate := goodIn_r _ [59] (by decide +kernel) (by decide +kernel)
set_option maxRecDepth 20000 in
theorem gX9_holdsFor_X9_operate : GoodIn wsX9_holdsFor (va_wsS RX9 471 yX9_operate wsX9_operate) := goodIn_app (goodIn_of _ (by decide +kernel)) ggX9_holdsFor_X9_operate
theorem dX9_holdsFor_0 : decode cX9_holdsFor 0 = .ok (.iconst 0, 1) := by decide +kernel
theorem dX9_holdsFor_1 : decode cX9_holdsFor 1 = .ok (.istore_n 2, 1) := by decide +kernel
theorem dX9_holdsFor_2 : decode cX9_holdsFor 2 = .ok (.iconst 0, 1) := by decide +kernel
theorem dX9_holdsFor_3 : decode cX9_holdsFor 3 = .ok (.istore_n 3, 1) := by decide +kernel
theorem dX9_holdsFor_4 : decode cX9_holdsFor 4 = .ok (.iload_n 3, 1) := by decide +kernel
theorem dX9_holdsFor_5 : decode cX9_holdsFor 5 = .ok (.aload_n 0, 1) := by decide +kernel
theorem dX9_holdsFor_6 : decode cX9_holdsFor 6 = .ok (.getfield 438, 3) := by decide +kernel
theorem dX9_holdsFor_9 : decode cX9_holdsFor 9 = .ok (.if_icmp .ge 115, 3) := by decide +kernel
theorem dX9_holdsFor_12 : decode cX9_holdsFor 12 = .ok (.aload_n 0, 1) := by decide +kernel
theorem dX9_holdsFor_13 : decode cX9_holdsFor 13 = .ok (.getfield 86, 3) := by decide +kernel
theorem dX9_holdsFor_16 : decode cX9_holdsFor 16 = .ok (.iload_n 3, 1) := by decide +kernel
theorem dX9_holdsFor_17 : decode cX9_holdsFor 17 = .ok (.iaload, 1) := by decide +kernel
theorem dX9_holdsFor_18 : decode cX9_holdsFor 18 = .ok (.istore 4, 2) := by decide +kernel
theorem dX9_holdsFor_20 : decode cX9_holdsFor 20 = .ok (.iload 4, 2) := by decide +kernel
theorem dX9_holdsFor_22 : decode cX9_holdsFor 22 = .ok (.bipush (-23), 2) := by decide +kernel
theorem dX9_holdsFor_24 : decode cX9_holdsFor 24 = .ok (.if_icmp .ne 24, 3) := by decide +kernel
theorem dX9_holdsFor_27 : decode cX9_holdsFor 27 = .ok (.aload_n 0, 1) := by decide +kernel
theorem dX9_holdsFor_28 : decode cX9_holdsFor 28 = .ok (.getfield 89, 3) := by decide +kernel
theorem dX9_holdsFor_31 : decode cX9_holdsFor 31 = .ok (.iload_n 2, 1) := by decide +kernel
theorem dX9_holdsFor_32 : decode cX9_holdsFor 32 = .ok (.iconst 1, 1) := by decide +kernel
theorem dX9_holdsFor_33 : decode cX9_holdsFor 33 = .ok (.isub, 1) := by decide +kernel
theorem dX9_holdsFor_34 : decode cX9_holdsFor 34 = .ok (.lconst 1, 1) := by decide +kernel
theorem dX9_holdsFor_35 : decode cX9_holdsFor 35 = .ok (.aload_n 0, 1) := by decide +kernel
theorem dX9_holdsFor_36 : decode cX9_holdsFor 36 = .ok (.getfield 89, 3) := by decide +kernel
theorem dX9_holdsFor_39 : decode cX9_holdsFor 39 = .ok (.iload_n 2, 1) := by decide +kernel
theorem dX9_holdsFor_40 : decode cX9_holdsFor 40 = .ok (.iconst 1, 1) := by decide +kernel
theorem dX9_holdsFor_41 : decode cX9_holdsFor 41 = .ok (.isub, 1) := by decide +kernel
theorem dX9_holdsFor_42 : decode cX9_holdsFor 42 = .ok (.laload, 1) := by decide +kernel
theorem dX9_holdsFor_43 : decode cX9_holdsFor 43 = .ok (.lsub, 1) := by decide +kernel
theorem dX9_holdsFor_44 : decode cX9_holdsFor 44 = .ok (.lastore, 1) := by decide +kernel
theorem dX9_holdsFor_45 : decode cX9_holdsFor 45 = .ok (.goto 73, 3) := by decide +kernel
theorem dX9_holdsFor_48 : decode cX9_holdsFor 48 = .ok (.iload 4, 2) := by decide +kernel
theorem dX9_holdsFor_50 : decode cX9_holdsFor 50 = .ok (.bipush (-20), 2) := by decide +kernel
theorem dX9_holdsFor_52 : decode cX9_holdsFor 52 = .ok (.if_icmp .le 36, 3) := by decide +kernel
theorem dX9_holdsFor_55 : decode cX9_holdsFor 55 = .ok (.aload_n 0, 1) := by decide +kernel
theorem dX9_holdsFor_56 : decode cX9_holdsFor 56 = .ok (.getfield 89, 3) := by decide +kernel
theorem dX9_holdsFor_59 : decode cX9_holdsFor 59 = .ok (.iload_n 2, 1) := by decide +kernel
theorem dX9_holdsFor_60 : decode cX9_holdsFor 60 = .ok (.iload 4, 2) := by decide +kernel
theorem dX9_holdsFor_62 : decode cX9_holdsFor 62 = .ok (.ifCond .lt 9, 3) := by decide +kernel
theorem dX9_holdsFor_65 : decode cX9_holdsFor 65 = .ok (.iload 4, 2) := by decide +kernel
theorem dX9_holdsFor_67 : decode cX9_holdsFor 67 = .ok (.i2l, 1) := by decide +kernel
theorem dX9_holdsFor_68 : decode cX9_holdsFor 68 = .ok (.goto 13, 3) := by decide +kernel
theorem dX9_holdsFor_71 : decode cX9_holdsFor 71 = .ok (.aload_n 0, 1) := by decide +kernel
theorem dX9_holdsFor_72 : decode cX9_holdsFor 72 = .ok (.iload_n 1, 1) := by decide +kernel
theorem dX9_holdsFor_73 : decode cX9_holdsFor 73 = .ok (.iconst (-1), 1) := by decide +kernel
theorem dX9_holdsFor_74 : decode cX9_holdsFor 74 = .ok (.iload 4, 2) := by decide +kernel
theorem dX9_holdsFor_76 : decode cX9_holdsFor 76 = .ok (.isub, 1) := by decide +kernel
theorem dX9_holdsFor_77 : decode cX9_holdsFor 77 = .ok (.invokevirtual 468, 3) := by decide +kernel
theorem dX9_holdsFor_80 : decode cX9_holdsFor 80 = .ok (.i2l, 1) := by decide +kernel
theorem dX9_holdsFor_81 : decode cX9_holdsFor 81 = .ok (.lastore, 1) := by decide +kernel
theorem dX9_holdsFor_82 : decode cX9_holdsFor 82 = .ok (.iinc 2 1, 3) := by decide +kernel
theorem dX9_holdsFor_85 : decode cX9_holdsFor 85 = .ok (.goto 33, 3) := by decide +kernel
theorem dX9_holdsFor_88 : decode cX9_holdsFor 88 = .ok (.iinc 2 (-1), 3) := by decide +kernel
theorem dX9_holdsFor_91 : decode cX9_holdsFor 91 = .ok (.aload_n 0, 1) := by decide +kernel
theorem dX9_holdsFor_92 : decode cX9_holdsFor 92 = .ok (.getfield 89, 3) := by decide +kernel
theorem dX9_holdsFor_95 : decode cX9_holdsFor 95 = .ok (.iload_n 2, 1) := by decide +kernel
theorem dX9_holdsFor_96 : decode cX9_holdsFor 96 = .ok (.iconst 1, 1) := by decide +kernel
theorem dX9_holdsFor_97 : decode cX9_holdsFor 97 = .ok (.isub, 1) := by decide +kernel
theorem dX9_holdsFor_98 : decode cX9_holdsFor 98 = .ok (.iload 4, 2) := by decide +kernel
theorem dX9_holdsFor_100 : decode cX9_holdsFor 100 = .ok (.aload_n 0, 1) := by decide +kernel
theorem dX9_holdsFor_101 : decode cX9_holdsFor 101 = .ok (.getfield 89, 3) := by decide +kernel
theorem dX9_holdsFor_104 : decode cX9_holdsFor 104 = .ok (.iload_n 2, 1) := by decide +kernel
theorem dX9_holdsFor_105 : decode cX9_holdsFor 105 = .ok (.iconst 1, 1) := by decide +kernel
theorem dX9_holdsFor_106 : decode cX9_holdsFor 106 = .ok (.isub, 1) := by decide +kernel
theorem dX9_holdsFor_107 : decode cX9_holdsFor 107 = .ok (.laload, 1) := by decide +kernel
theorem dX9_holdsFor_108 : decode cX9_holdsFor 108 = .ok (.aload_n 0, 1) := by decide +kernel
theorem dX9_holdsFor_109 : decode cX9_holdsFor 109 = .ok (.getfield 89, 3) := by decide +kernel
theorem dX9_holdsFor_112 : decode cX9_holdsFor 112 = .ok (.iload_n 2, 1) := by decide +kernel
theorem dX9_holdsFor_113 : decode cX9_holdsFor 113 = .ok (.laload, 1) := by decide +kernel
theorem dX9_holdsFor_114 : decode cX9_holdsFor 114 = .ok (.invokestatic 471, 3) := by decide +kernel
theorem dX9_holdsFor_117 : decode cX9_holdsFor 117 = .ok (.lastore, 1) := by decide +kernel
theorem dX9_holdsFor_118 : decode cX9_holdsFor 118 = .ok (.iinc 3 1, 3) := by decide +kernel
theorem dX9_holdsFor_121 : decode cX9_holdsFor 121 = .ok (.goto (-117), 3) := by decide +kernel
theorem dX9_holdsFor_124 : decode cX9_holdsFor 124 = .ok (.aload_n 0, 1) := by decide +kernel
theorem dX9_holdsFor_125 : decode cX9_holdsFor 125 = .ok (.getfield 89, 3) := by decide +kernel
theorem dX9_holdsFor_128 : decode cX9_holdsFor 128 = .ok (.iconst 0, 1) := by decide +kernel
theorem dX9_holdsFor_129 : decode cX9_holdsFor 129 = .ok (.laload, 1) := by decide +kernel
theorem dX9_holdsFor_130 : decode cX9_holdsFor 130 = .ok (.lconst 1, 1) := by decide +kernel
theorem dX9_holdsFor_131 : decode cX9_holdsFor 131 = .ok (.lcmp, 1) := by decide +kernel
theorem dX9_holdsFor_132 : decode cX9_holdsFor 132 = .ok (.ifCond .ne 7, 3) := by decide +kernel
theorem dX9_holdsFor_135 : decode cX9_holdsFor 135 = .ok (.iconst 1, 1) := by decide +kernel
theorem dX9_holdsFor_136 : decode cX9_holdsFor 136 = .ok (.goto 4, 3) := by decide +kernel
theorem dX9_holdsFor_139 : decode cX9_holdsFor 139 = .ok (.iconst 0, 1) := by decide +kernel
theorem dX9_holdsFor_140 : decode cX9_holdsFor 140 = .ok (.ireturn, 1) := by decide +kernel
set_option maxRecDepth 20000 in
theorem ggX9_query_X9_inRange : GoodIn wsX9_query wsX9_inRange := goodIn_r _ [14] (by decide +kernel) (by decide +kernel)
set_option maxRecDepth 20000 in
theorem gX9_query_X9_inRange : GoodIn wsX9_query (va_wsS RX9 114 yX9_inRange wsX9_inRange) := goodIn_app (goodIn_of _ (by decide +kernel)) ggX9_query_X9_inRange
set_option maxRecDepth 20000 in
theorem ggX9_query_X9_raise : GoodIn wsX9_query wsX9_raise := goodIn_r _ [18, 1, 279, 280, 281, 282, 283, 284, 285, 286, 287, 288, 289, 290, 291, 292, 293, 294, 295, 296, 297, 298, 299, 300, 301, 302, 303, 304, 305, 306, 307, 308, 309, 310, 311, 312, 313] (by decide +kernel) (by decide +kernel)
set_option maxRecDepth 20000 in
theorem gX9_query_X9_raise : GoodIn wsX9_query (wsV RX9 237 RX9 yX9_raise wsX9_raise) := goodIn_app (goodIn_of _ (by decide +kernel)) ggX9_query_X9_raise
set_option maxRecDepth 20000 in
theorem ggX9_query_X9_startText : GoodIn wsX9_query wsX9_startText := goodIn_r _ [22, 23, 24, 8, 25, 26, 27, 28, 13, 29, 30, 9, 31, 32, 33, 34, 35, 36, 37, 38, 39, 40, 41, 42, 43, 279, 280, 281, 282, 283, 284, 285, 286, 287, 288, 289, 290, 291, 292, 293, 294, 295, 296, 297, 298, 299, 300, 301, 302, 303, 304, 305, 306, 307, 308, 309, 310, 311, 312, 313] (by decide +kernel) (by decide +kernel)
set_option maxRecDepth 20000 in
theorem gX9_query_X9_startText : GoodIn wsX9_query (wsV RX9 427 RX9 yX9_startText wsX9_startText) := goodIn_app (goodIn_of _ (by decide +kernel)) ggX9_query_X9_startText
set_option maxRecDepth 20000 in
theorem ggX9_query_X9_isWord : GoodIn wsX9_query wsX9_isWord := goodIn_r _ [47, 8, 9, 24, 30, 35, 48, 49, 50, 51, 52, 53, 54, 55, 56, 57, 58, 59, 60, 61, 62, 63, 64, 65, 66, 67, 68, 69, 70, 71, 72, 73, 74, 75, 76, 77, 78, 79, 80, 81, 82, 83, 84, 85, 86, 87, 88, 89, 90, 91, 92, 93, 94, 95, 96, 279, 280, 281, 282, 283, 284, 285, 286, 287, 288, 289, 290, 291, 292, 293, 294, 295, 296, 297, 298, 299, 300, 301, 302, 303, 304, 305, 306, 307, 308, 309, 310, 311, 312, 313] (by decide +kernel) (by decide +kernel)
set_option maxRecDepth 20000 in
theorem gX9_query_X9_isWord : GoodIn wsX9_query (wsV RX9 360 RX9 yX9_isWord wsX9_isWord) := goodIn_app (goodIn_of _ (by decide +kernel)) ggX9_query_X9_isWord
set_option maxRecDepth 20000 in
theorem ggX9_query_X9_check : GoodIn wsX9_query wsX9_check := goodIn_r _ [100, 101, 102, 103, 13, 104, 8, 30, 105, 279, 280, 281, 282, 283, 284, 285, 286, 287, 288, 289, 290, 291, 292, 293, 294, 295, 296, 297, 298, 299, 300, 301, 302, 303, 304, 305, 306, 307, 308, 309, 310, 311, 312, 313] (by decide +kernel) (by decide +kernel)
set_option maxRecDepth 20000 in
theorem gX9_query_X9_check : GoodIn wsX9_query (wsV RX9 364 RX9 yX9_check wsX9_check) := goodIn_app (goodIn_of _ (by decide +kernel)) ggX9_query_X9_check
set_option maxRecDepth 20000 in
theorem ggX9_query_X9_advance : GoodIn wsX9_query wsX9_advance := goodIn_r _ [109, 8, 26, 27, 28, 13, 29, 24, 30, 23, 9, 31, 32, 33, 34, 35, 36, 37, 38, 39, 40, 41, 42, 43, 279, 280, 281, 282, 283, 284, 285, 286, 287, 288, 289, 290, 291, 292, 293, 294, 295, 296, 297, 298, 299, 300, 301, 302, 303, 304, 305, 306, 307, 308, 309, 310, 311, 312, 313] (by decide +kernel) (by decide +kernel)
set_option maxRecDepth 20000 in
theorem gX9_query_X9_advance : GoodIn wsX9_query (wsV RX9 368 RX9 yX9_advance wsX9_advance) := goodIn_app (goodIn_of _ (by decide +kernel)) ggX9_query_X9_advance
set_option maxRecDepth 20000 in
theorem ggX9_query_X9_compileTest : GoodIn wsX9_query wsX9_compileTest := goodIn_r _ [113, 114, 115, 116, 13, 117, 118, 119, 120, 44, 45, 46, 47, 8, 9, 24, 30, 35, 48, 49, 50, 51, 52, 53, 54, 55, 56, 57, 58, 59, 60, 61, 62, 63, 64, 65, 66, 67, 68, 69, 70, 71, 72, 73, 74, 75, 76, 77, 78, 79, 80, 81, 82, 83, 84, 85, 86, 87, 88, 89, 90, 91, 92, 93, 94, 95, 96, 26, 27, 28, 29, 23, 31, 32, 33, 34, 36, 37, 38, 39, 40, 41, 42, 43, 121, 122, 123, 124, 125, 7, 126, 127, 128, 129, 130, 25, 131, 132, 133, 134, 97, 98, 99, 100, 101, 102, 103, 104, 105, 106, 107, 108, 109, 135, 136, 137, 138, 110, 111, 112, 139, 140, 141, 142, 143, 144, 145, 146, 147, 148, 149, 150, 151, 152, 153, 154, 155, 156, 157, 158, 159, 160, 5, 161, 11, 12, 14, 279, 280, 281, 282, 283, 284, 285, 286, 287, 288, 289, 290, 291, 292, 293, 294, 295, 296, 297, 298, 299, 300, 301, 302, 303, 304, 305, 306, 307, 308, 309, 310, 311, 312, 313] (by decide +kernel) (by decide +kernel)
set_option maxRecDepth 20000 in
theorem gX9_query_X9_compileTest : GoodIn wsX9_query (wsV RX9 452 RX9 yX9_compileTest wsX9_compileTest) := goodIn_app (goodIn_of _ (by decide +kernel)) ggX9_query_X9_compileTest
set_option maxRecDepth 20000 in
theorem ggX9_query_X9_finish : GoodIn wsX9_query wsX9_finish := goodIn_r _ [165, 2, 8, 105, 166, 279, 280, 281, 282, 283, 284, 285, 286, 287, 288, 289, 290, 291, 292, 293, 294, 295, 296, 297, 298, 299, 300, 301, 302, 303, 304, 305, 306, 307, 308, 309, 310, 311, 312, 313] (by decide +kernel) (by decide +kernel)
set_option maxRecDepth 20000 in
theorem gX9_query_X9_finish : GoodIn wsX9_query (wsV RX9 433 RX9 yX9_finish wsX9_finish) := goodIn_app (goodIn_of _ (by decide +kernel)) ggX9_query_X9_finish
set_option maxRecDepth 20000 in
theorem ggX9_query_X9_layNow : GoodIn wsX9_query wsX9_layNow := goodIn_r _ [170, 171, 172, 173, 13, 174, 175, 176, 177, 178, 179, 180, 181, 182, 183, 184, 185, 186, 187, 188, 189, 190, 191, 192, 193, 194, 195, 196, 197, 198, 199, 200, 201, 202, 203, 204, 205, 206, 207, 208, 209, 210, 211, 212, 213, 214, 215, 216, 217, 218, 219, 220, 221, 222, 223, 224, 225, 226, 227, 228, 229, 230, 231, 232, 233, 234, 235, 236, 237, 238, 239, 5, 240, 279, 280, 281, 282, 283, 284, 285, 286, 287, 288, 289, 290, 291, 292, 293, 294, 295, 296, 297, 298, 299, 300, 301, 302, 303, 304, 305, 306, 307, 308, 309, 310, 311, 312, 313] (by decide +kernel) (by decide +kernel)
set_option maxRecDepth 20000 in
theorem gX9_query_X9_layNow : GoodIn wsX9_query (wsV RX9 226 RX9 yX9_layNow wsX9_layNow) := goodIn_app (goodIn_of _ (by decide +kernel)) ggX9_query_X9_layNow
set_option maxRecDepth 20000 in
theorem ggX9_query_X9_rooms : GoodIn wsX9_query wsX9_rooms := goodIn_r _ [212, 180, 279, 280, 281, 282, 283, 284, 285, 286, 287, 288, 289, 290, 291, 292, 293, 294, 295, 296, 297, 298, 299, 300, 301, 302, 303, 304, 305, 306, 307, 308, 309, 310, 311, 312, 313] (by decide +kernel) (by decide +kernel)
set_option maxRecDepth 20000 in
theorem gX9_query_X9_rooms : GoodIn wsX9_query (wsV RX9 110 RX9 yX9_rooms wsX9_rooms) := goodIn_app (goodIn_of _ (by decide +kernel)) ggX9_query_X9_rooms
set_option maxRecDepth 20000 in
theorem ggX9_query_X9_holdsFor : GoodIn wsX9_query wsX9_holdsFor := goodIn_r _ [244, 7, 125, 245, 246, 247, 248, 13, 249, 195, 238, 239, 5, 240, 194, 250, 251, 252, 253, 180, 254, 255, 256, 257, 258, 259, 260, 261, 262, 263, 264, 265, 266, 267, 268, 269, 270, 271, 272, 273, 274, 275, 176, 177, 178, 179, 202, 203, 204, 205, 185, 186, 187, 221, 222, 223, 224, 276, 277, 278, 279, 280, 281, 282, 283, 284, 285, 286, 287, 288, 289, 290, 291, 292, 293, 294, 295, 296, 297, 298, 299, 300, 301, 302, 303, 304, 305, 306, 307, 308, 309, 310, 311, 312, 313] (by decide +kernel) (by decide +kernel)
set_option maxRecDepth 20000 in
theorem gX9_query_X9_holdsFor : GoodIn wsX9_query (wsV RX9 482 RX9 yX9_holdsFor wsX9_holdsFor) := goodIn_app (goodIn_of _ (by decide +kernel)) ggX9_query_X9_holdsFor
theorem dX9_query_0 : decode cX9_query 0 = .ok (.aload_n 0, 1) := by decide +kernel
theorem dX9_query_1 : decode cX9_query 1 = .ok (.iconst 0, 1) := by decide +kernel
theorem dX9_query_2 : decode cX9_query 2 = .ok (.putfield 97, 3) := by decide +kernel
theorem dX9_query_5 : decode cX9_query 5 = .ok (.iload_n 1, 1) := by decide +kernel
theorem dX9_query_6 : decode cX9_query 6 = .ok (.iconst 0, 1) := by decide +kernel
theorem dX9_query_7 : decode cX9_query 7 = .ok (.aload_n 0, 1) := by decide +kernel
theorem dX9_query_8 : decode cX9_query 8 = .ok (.getfield 315, 3) := by decide +kernel
theorem dX9_query_11 : decode cX9_query 11 = .ok (.sipush 200, 3) := by decide +kernel
theorem dX9_query_14 : decode cX9_query 14 = .ok (.invokestatic 475, 3) := by decide +kernel
theorem dX9_query_17 : decode cX9_query 17 = .ok (.invokestatic 114, 3) := by decide +kernel
theorem dX9_query_20 : decode cX9_query 20 = .ok (.ifCond .ne 9, 3) := by decide +kernel
theorem dX9_query_23 : decode cX9_query 23 = .ok (.aload_n 0, 1) := by decide +kernel
theorem dX9_query_24 : decode cX9_query 24 = .ok (.iconst 1, 1) := by decide +kernel
theorem dX9_query_25 : decode cX9_query 25 = .ok (.invokevirtual 237, 3) := by decide +kernel
theorem dX9_query_28 : decode cX9_query 28 = .ok (.ireturn, 1) := by decide +kernel
theorem dX9_query_29 : decode cX9_query 29 = .ok (.aload_n 0, 1) := by decide +kernel
theorem dX9_query_30 : decode cX9_query 30 = .ok (.iconst 0, 1) := by decide +kernel
theorem dX9_query_31 : decode cX9_query 31 = .ok (.putfield 438, 3) := by decide +kernel
theorem dX9_query_34 : decode cX9_query 34 = .ok (.aload_n 0, 1) := by decide +kernel
theorem dX9_query_35 : decode cX9_query 35 = .ok (.iload_n 1, 1) := by decide +kernel
theorem dX9_query_36 : decode cX9_query 36 = .ok (.invokevirtual 427, 3) := by decide +kernel
theorem dX9_query_39 : decode cX9_query 39 = .ok (.aload_n 0, 1) := by decide +kernel
theorem dX9_query_40 : decode cX9_query 40 = .ok (.ldc_w 477, 3) := by decide +kernel
theorem dX9_query_43 : decode cX9_query 43 = .ok (.invokevirtual 360, 3) := by decide +kernel
theorem dX9_query_46 : decode cX9_query 46 = .ok (.istore_n 2, 1) := by decide +kernel
theorem dX9_query_47 : decode cX9_query 47 = .ok (.aload_n 0, 1) := by decide +kernel
theorem dX9_query_48 : decode cX9_query 48 = .ok (.iload_n 2, 1) := by decide +kernel
theorem dX9_query_49 : decode cX9_query 49 = .ok (.ifCond .ne 13, 3) := by decide +kernel
theorem dX9_query_52 : decode cX9_query 52 = .ok (.aload_n 0, 1) := by decide +kernel
theorem dX9_query_53 : decode cX9_query 53 = .ok (.ldc_w 479, 3) := by decide +kernel
theorem dX9_query_56 : decode cX9_query 56 = .ok (.invokevirtual 360, 3) := by decide +kernel
theorem dX9_query_59 : decode cX9_query 59 = .ok (.ifCond .eq 7, 3) := by decide +kernel
theorem dX9_query_62 : decode cX9_query 62 = .ok (.iconst 1, 1) := by decide +kernel
theorem dX9_query_63 : decode cX9_query 63 = .ok (.goto 4, 3) := by decide +kernel
theorem dX9_query_66 : decode cX9_query 66 = .ok (.iconst 0, 1) := by decide +kernel
theorem dX9_query_67 : decode cX9_query 67 = .ok (.iconst 1, 1) := by decide +kernel
theorem dX9_query_68 : decode cX9_query 68 = .ok (.invokevirtual 364, 3) := by decide +kernel
theorem dX9_query_71 : decode cX9_query 71 = .ok (.aload_n 0, 1) := by decide +kernel
theorem dX9_query_72 : decode cX9_query 72 = .ok (.invokevirtual 368, 3) := by decide +kernel
theorem dX9_query_75 : decode cX9_query 75 = .ok (.aload_n 0, 1) := by decide +kernel
theorem dX9_query_76 : decode cX9_query 76 = .ok (.invokevirtual 452, 3) := by decide +kernel
theorem dX9_query_79 : decode cX9_query 79 = .ok (.aload_n 0, 1) := by decide +kernel
theorem dX9_query_80 : decode cX9_query 80 = .ok (.aload_n 0, 1) := by decide +kernel
theorem dX9_query_81 : decode cX9_query 81 = .ok (.getfield 338, 3) := by decide +kernel
theorem dX9_query_84 : decode cX9_query 84 = .ok (.ifCond .ne 10, 3) := by decide +kernel
theorem dX9_query_87 : decode cX9_query 87 = .ok (.aload_n 0, 1) := by decide +kernel
theorem dX9_query_88 : decode cX9_query 88 = .ok (.getfield 329, 3) := by decide +kernel
theorem dX9_query_91 : decode cX9_query 91 = .ok (.ifCond .ne 7, 3) := by decide +kernel
theorem dX9_query_94 : decode cX9_query 94 = .ok (.iconst 1, 1) := by decide +kernel
theorem dX9_query_95 : decode cX9_query 95 = .ok (.goto 4, 3) := by decide +kernel
theorem dX9_query_98 : decode cX9_query 98 = .ok (.iconst 0, 1) := by decide +kernel
theorem dX9_query_99 : decode cX9_query 99 = .ok (.iconst 1, 1) := by decide +kernel
theorem dX9_query_100 : decode cX9_query 100 = .ok (.invokevirtual 364, 3) := by decide +kernel
theorem dX9_query_103 : decode cX9_query 103 = .ok (.aload_n 0, 1) := by decide +kernel
theorem dX9_query_104 : decode cX9_query 104 = .ok (.invokevirtual 433, 3) := by decide +kernel
theorem dX9_query_107 : decode cX9_query 107 = .ok (.ifCond .eq 12, 3) := by decide +kernel
theorem dX9_query_110 : decode cX9_query 110 = .ok (.ldc_w 481, 3) := by decide +kernel
theorem dX9_query_113 : decode cX9_query 113 = .ok (.aload_n 0, 1) := by decide +kernel
theorem dX9_query_114 : decode cX9_query 114 = .ok (.getfield 338, 3) := by decide +kernel
theorem dX9_query_117 : decode cX9_query 117 = .ok (.isub, 1) := by decide +kernel
theorem dX9_query_118 : decode cX9_query 118 = .ok (.ireturn, 1) := by decide +kernel
theorem dX9_query_119 : decode cX9_query 119 = .ok (.iconst 0, 1) := by decide +kernel
theorem dX9_query_120 : decode cX9_query 120 = .ok (.istore_n 3, 1) := by decide +kernel
theorem dX9_query_121 : decode cX9_query 121 = .ok (.aload_n 0, 1) := by decide +kernel
theorem dX9_query_122 : decode cX9_query 122 = .ok (.invokevirtual 226, 3) := by decide +kernel
theorem dX9_query_125 : decode cX9_query 125 = .ok (.iconst 0, 1) := by decide +kernel
theorem dX9_query_126 : decode cX9_query 126 = .ok (.istore 4, 2) := by decide +kernel
theorem dX9_query_128 : decode cX9_query 128 = .ok (.iload 4, 2) := by decide +kernel
theorem dX9_query_130 : decode cX9_query 130 = .ok (.aload_n 0, 1) := by decide +kernel
theorem dX9_query_131 : decode cX9_query 131 = .ok (.invokevirtual 110, 3) := by decide +kernel
theorem dX9_query_134 : decode cX9_query 134 = .ok (.if_icmp .ge 31, 3) := by decide +kernel
theorem dX9_query_137 : decode cX9_query 137 = .ok (.aload_n 0, 1) := by decide +kernel
theorem dX9_query_138 : decode cX9_query 138 = .ok (.iload 4, 2) := by decide +kernel
theorem dX9_query_140 : decode cX9_query 140 = .ok (.invokevirtual 482, 3) := by decide +kernel
theorem dX9_query_143 : decode cX9_query 143 = .ok (.ifCond .ne 6, 3) := by decide +kernel
theorem dX9_query_146 : decode cX9_query 146 = .ok (.goto 13, 3) := by decide +kernel
theorem dX9_query_149 : decode cX9_query 149 = .ok (.iload_n 2, 1) := by decide +kernel
theorem dX9_query_150 : decode cX9_query 150 = .ok (.ifCond .eq 6, 3) := by decide +kernel
theorem dX9_query_153 : decode cX9_query 153 = .ok (.iload 4, 2) := by decide +kernel
theorem dX9_query_155 : decode cX9_query 155 = .ok (.ireturn, 1) := by decide +kernel
theorem dX9_query_156 : decode cX9_query 156 = .ok (.iinc 3 1, 3) := by decide +kernel
theorem dX9_query_159 : decode cX9_query 159 = .ok (.iinc 4 1, 3) := by decide +kernel
theorem dX9_query_162 : decode cX9_query 162 = .ok (.goto (-34), 3) := by decide +kernel
theorem dX9_query_165 : decode cX9_query 165 = .ok (.iload_n 2, 1) := by decide +kernel
theorem dX9_query_166 : decode cX9_query 166 = .ok (.ifCond .eq 7, 3) := by decide +kernel
theorem dX9_query_169 : decode cX9_query 169 = .ok (.iconst (-1), 1) := by decide +kernel
theorem dX9_query_170 : decode cX9_query 170 = .ok (.goto 4, 3) := by decide +kernel
theorem dX9_query_173 : decode cX9_query 173 = .ok (.iload_n 3, 1) := by decide +kernel
theorem dX9_query_174 : decode cX9_query 174 = .ok (.ireturn, 1) := by decide +kernel
theorem dJ6_numberOfTrailingZeros_0f7a4_0 : decode cJ6_numberOfTrailingZeros_0f7a4 0 = .ok (.iload_n 0, 1) := by decide +kernel
theorem dJ6_numberOfTrailingZeros_0f7a4_1 : decode cJ6_numberOfTrailingZeros_0f7a4 1 = .ok (.iconst (-1), 1) := by decide +kernel
theorem dJ6_numberOfTrailingZeros_0f7a4_2 : decode cJ6_numberOfTrailingZeros_0f7a4 2 = .ok (.ixor, 1) := by decide +kernel
theorem dJ6_numberOfTrailingZeros_0f7a4_3 : decode cJ6_numberOfTrailingZeros_0f7a4 3 = .ok (.iload_n 0, 1) := by decide +kernel
theorem dJ6_numberOfTrailingZeros_0f7a4_4 : decode cJ6_numberOfTrailingZeros_0f7a4 4 = .ok (.iconst 1, 1) := by decide +kernel
theorem dJ6_numberOfTrailingZeros_0f7a4_5 : decode cJ6_numberOfTrailingZeros_0f7a4 5 = .ok (.isub, 1) := by decide +kernel
theorem dJ6_numberOfTrailingZeros_0f7a4_6 : decode cJ6_numberOfTrailingZeros_0f7a4 6 = .ok (.iand, 1) := by decide +kernel
theorem dJ6_numberOfTrailingZeros_0f7a4_7 : decode cJ6_numberOfTrailingZeros_0f7a4 7 = .ok (.istore_n 0, 1) := by decide +kernel
theorem dJ6_numberOfTrailingZeros_0f7a4_8 : decode cJ6_numberOfTrailingZeros_0f7a4 8 = .ok (.iload_n 0, 1) := by decide +kernel
theorem dJ6_numberOfTrailingZeros_0f7a4_9 : decode cJ6_numberOfTrailingZeros_0f7a4 9 = .ok (.ifCond .gt 8, 3) := by decide +kernel
theorem dJ6_numberOfTrailingZeros_0f7a4_12 : decode cJ6_numberOfTrailingZeros_0f7a4 12 = .ok (.iload_n 0, 1) := by decide +kernel
theorem dJ6_numberOfTrailingZeros_0f7a4_13 : decode cJ6_numberOfTrailingZeros_0f7a4 13 = .ok (.bipush 32, 2) := by decide +kernel
theorem dJ6_numberOfTrailingZeros_0f7a4_15 : decode cJ6_numberOfTrailingZeros_0f7a4 15 = .ok (.iand, 1) := by decide +kernel
theorem dJ6_numberOfTrailingZeros_0f7a4_16 : decode cJ6_numberOfTrailingZeros_0f7a4 16 = .ok (.ireturn, 1) := by decide +kernel
theorem dJ6_numberOfTrailingZeros_0f7a4_17 : decode cJ6_numberOfTrailingZeros_0f7a4 17 = .ok (.iconst 1, 1) := by decide +kernel
theorem dJ6_numberOfTrailingZeros_0f7a4_18 : decode cJ6_numberOfTrailingZeros_0f7a4 18 = .ok (.istore_n 1, 1) := by decide +kernel
theorem dJ6_numberOfTrailingZeros_0f7a4_19 : decode cJ6_numberOfTrailingZeros_0f7a4 19 = .ok (.iload_n 0, 1) := by decide +kernel
theorem dJ6_numberOfTrailingZeros_0f7a4_20 : decode cJ6_numberOfTrailingZeros_0f7a4 20 = .ok (.ldc_w 264, 3) := by decide +kernel
theorem dJ6_numberOfTrailingZeros_0f7a4_23 : decode cJ6_numberOfTrailingZeros_0f7a4 23 = .ok (.if_icmp .le 11, 3) := by decide +kernel
theorem dJ6_numberOfTrailingZeros_0f7a4_26 : decode cJ6_numberOfTrailingZeros_0f7a4 26 = .ok (.iinc 1 16, 3) := by decide +kernel
theorem dJ6_numberOfTrailingZeros_0f7a4_29 : decode cJ6_numberOfTrailingZeros_0f7a4 29 = .ok (.iload_n 0, 1) := by decide +kernel
theorem dJ6_numberOfTrailingZeros_0f7a4_30 : decode cJ6_numberOfTrailingZeros_0f7a4 30 = .ok (.bipush 16, 2) := by decide +kernel
theorem dJ6_numberOfTrailingZeros_0f7a4_32 : decode cJ6_numberOfTrailingZeros_0f7a4 32 = .ok (.iushr, 1) := by decide +kernel
theorem dJ6_numberOfTrailingZeros_0f7a4_33 : decode cJ6_numberOfTrailingZeros_0f7a4 33 = .ok (.istore_n 0, 1) := by decide +kernel
theorem dJ6_numberOfTrailingZeros_0f7a4_34 : decode cJ6_numberOfTrailingZeros_0f7a4 34 = .ok (.iload_n 0, 1) := by decide +kernel
theorem dJ6_numberOfTrailingZeros_0f7a4_35 : decode cJ6_numberOfTrailingZeros_0f7a4 35 = .ok (.sipush 256, 3) := by decide +kernel
theorem dJ6_numberOfTrailingZeros_0f7a4_38 : decode cJ6_numberOfTrailingZeros_0f7a4 38 = .ok (.if_icmp .le 11, 3) := by decide +kernel
theorem dJ6_numberOfTrailingZeros_0f7a4_41 : decode cJ6_numberOfTrailingZeros_0f7a4 41 = .ok (.iinc 1 8, 3) := by decide +kernel
theorem dJ6_numberOfTrailingZeros_0f7a4_44 : decode cJ6_numberOfTrailingZeros_0f7a4 44 = .ok (.iload_n 0, 1) := by decide +kernel
theorem dJ6_numberOfTrailingZeros_0f7a4_45 : decode cJ6_numberOfTrailingZeros_0f7a4 45 = .ok (.bipush 8, 2) := by decide +kernel
theorem dJ6_numberOfTrailingZeros_0f7a4_47 : decode cJ6_numberOfTrailingZeros_0f7a4 47 = .ok (.iushr, 1) := by decide +kernel
theorem dJ6_numberOfTrailingZeros_0f7a4_48 : decode cJ6_numberOfTrailingZeros_0f7a4 48 = .ok (.istore_n 0, 1) := by decide +kernel
theorem dJ6_numberOfTrailingZeros_0f7a4_49 : decode cJ6_numberOfTrailingZeros_0f7a4 49 = .ok (.iload_n 0, 1) := by decide +kernel
theorem dJ6_numberOfTrailingZeros_0f7a4_50 : decode cJ6_numberOfTrailingZeros_0f7a4 50 = .ok (.bipush 16, 2) := by decide +kernel
theorem dJ6_numberOfTrailingZeros_0f7a4_52 : decode cJ6_numberOfTrailingZeros_0f7a4 52 = .ok (.if_icmp .le 10, 3) := by decide +kernel
theorem dJ6_numberOfTrailingZeros_0f7a4_55 : decode cJ6_numberOfTrailingZeros_0f7a4 55 = .ok (.iinc 1 4, 3) := by decide +kernel
theorem dJ6_numberOfTrailingZeros_0f7a4_58 : decode cJ6_numberOfTrailingZeros_0f7a4 58 = .ok (.iload_n 0, 1) := by decide +kernel
theorem dJ6_numberOfTrailingZeros_0f7a4_59 : decode cJ6_numberOfTrailingZeros_0f7a4 59 = .ok (.iconst 4, 1) := by decide +kernel
theorem dJ6_numberOfTrailingZeros_0f7a4_60 : decode cJ6_numberOfTrailingZeros_0f7a4 60 = .ok (.iushr, 1) := by decide +kernel
theorem dJ6_numberOfTrailingZeros_0f7a4_61 : decode cJ6_numberOfTrailingZeros_0f7a4 61 = .ok (.istore_n 0, 1) := by decide +kernel
theorem dJ6_numberOfTrailingZeros_0f7a4_62 : decode cJ6_numberOfTrailingZeros_0f7a4 62 = .ok (.iload_n 0, 1) := by decide +kernel
theorem dJ6_numberOfTrailingZeros_0f7a4_63 : decode cJ6_numberOfTrailingZeros_0f7a4 63 = .ok (.iconst 4, 1) := by decide +kernel
theorem dJ6_numberOfTrailingZeros_0f7a4_64 : decode cJ6_numberOfTrailingZeros_0f7a4 64 = .ok (.if_icmp .le 10, 3) := by decide +kernel
theorem dJ6_numberOfTrailingZeros_0f7a4_67 : decode cJ6_numberOfTrailingZeros_0f7a4 67 = .ok (.iinc 1 2, 3) := by decide +kernel
theorem dJ6_numberOfTrailingZeros_0f7a4_70 : decode cJ6_numberOfTrailingZeros_0f7a4 70 = .ok (.iload_n 0, 1) := by decide +kernel
theorem dJ6_numberOfTrailingZeros_0f7a4_71 : decode cJ6_numberOfTrailingZeros_0f7a4 71 = .ok (.iconst 2, 1) := by decide +kernel
theorem dJ6_numberOfTrailingZeros_0f7a4_72 : decode cJ6_numberOfTrailingZeros_0f7a4 72 = .ok (.iushr, 1) := by decide +kernel
theorem dJ6_numberOfTrailingZeros_0f7a4_73 : decode cJ6_numberOfTrailingZeros_0f7a4 73 = .ok (.istore_n 0, 1) := by decide +kernel
theorem dJ6_numberOfTrailingZeros_0f7a4_74 : decode cJ6_numberOfTrailingZeros_0f7a4 74 = .ok (.iload_n 1, 1) := by decide +kernel
theorem dJ6_numberOfTrailingZeros_0f7a4_75 : decode cJ6_numberOfTrailingZeros_0f7a4 75 = .ok (.iload_n 0, 1) := by decide +kernel
theorem dJ6_numberOfTrailingZeros_0f7a4_76 : decode cJ6_numberOfTrailingZeros_0f7a4 76 = .ok (.iconst 1, 1) := by decide +kernel
theorem dJ6_numberOfTrailingZeros_0f7a4_77 : decode cJ6_numberOfTrailingZeros_0f7a4 77 = .ok (.iushr, 1) := by decide +kernel
theorem dJ6_numberOfTrailingZeros_0f7a4_78 : decode cJ6_numberOfTrailingZeros_0f7a4 78 = .ok (.iadd, 1) := by decide +kernel
theorem dJ6_numberOfTrailingZeros_0f7a4_79 : decode cJ6_numberOfTrailingZeros_0f7a4 79 = .ok (.ireturn, 1) := by decide +kernel
theorem dJ6_bitCount_0f7a4_0 : decode cJ6_bitCount_0f7a4 0 = .ok (.iload_n 0, 1) := by decide +kernel
theorem dJ6_bitCount_0f7a4_1 : decode cJ6_bitCount_0f7a4 1 = .ok (.iload_n 0, 1) := by decide +kernel
theorem dJ6_bitCount_0f7a4_2 : decode cJ6_bitCount_0f7a4 2 = .ok (.iconst 1, 1) := by decide +kernel
theorem dJ6_bitCount_0f7a4_3 : decode cJ6_bitCount_0f7a4 3 = .ok (.iushr, 1) := by decide +kernel
theorem dJ6_bitCount_0f7a4_4 : decode cJ6_bitCount_0f7a4 4 = .ok (.ldc_w 265, 3) := by decide +kernel
theorem dJ6_bitCount_0f7a4_7 : decode cJ6_bitCount_0f7a4 7 = .ok (.iand, 1) := by decide +kernel
theorem dJ6_bitCount_0f7a4_8 : decode cJ6_bitCount_0f7a4 8 = .ok (.isub, 1) := by decide +kernel
theorem dJ6_bitCount_0f7a4_9 : decode cJ6_bitCount_0f7a4 9 = .ok (.istore_n 0, 1) := by decide +kernel
theorem dJ6_bitCount_0f7a4_10 : decode cJ6_bitCount_0f7a4 10 = .ok (.iload_n 0, 1) := by decide +kernel
theorem dJ6_bitCount_0f7a4_11 : decode cJ6_bitCount_0f7a4 11 = .ok (.ldc_w 266, 3) := by decide +kernel
theorem dJ6_bitCount_0f7a4_14 : decode cJ6_bitCount_0f7a4 14 = .ok (.iand, 1) := by decide +kernel
theorem dJ6_bitCount_0f7a4_15 : decode cJ6_bitCount_0f7a4 15 = .ok (.iload_n 0, 1) := by decide +kernel
theorem dJ6_bitCount_0f7a4_16 : decode cJ6_bitCount_0f7a4 16 = .ok (.iconst 2, 1) := by decide +kernel
theorem dJ6_bitCount_0f7a4_17 : decode cJ6_bitCount_0f7a4 17 = .ok (.iushr, 1) := by decide +kernel
theorem dJ6_bitCount_0f7a4_18 : decode cJ6_bitCount_0f7a4 18 = .ok (.ldc_w 266, 3) := by decide +kernel
theorem dJ6_bitCount_0f7a4_21 : decode cJ6_bitCount_0f7a4 21 = .ok (.iand, 1) := by decide +kernel
theorem dJ6_bitCount_0f7a4_22 : decode cJ6_bitCount_0f7a4 22 = .ok (.iadd, 1) := by decide +kernel
theorem dJ6_bitCount_0f7a4_23 : decode cJ6_bitCount_0f7a4 23 = .ok (.istore_n 0, 1) := by decide +kernel
theorem dJ6_bitCount_0f7a4_24 : decode cJ6_bitCount_0f7a4 24 = .ok (.iload_n 0, 1) := by decide +kernel
theorem dJ6_bitCount_0f7a4_25 : decode cJ6_bitCount_0f7a4 25 = .ok (.iload_n 0, 1) := by decide +kernel
theorem dJ6_bitCount_0f7a4_26 : decode cJ6_bitCount_0f7a4 26 = .ok (.iconst 4, 1) := by decide +kernel
theorem dJ6_bitCount_0f7a4_27 : decode cJ6_bitCount_0f7a4 27 = .ok (.iushr, 1) := by decide +kernel
theorem dJ6_bitCount_0f7a4_28 : decode cJ6_bitCount_0f7a4 28 = .ok (.iadd, 1) := by decide +kernel
theorem dJ6_bitCount_0f7a4_29 : decode cJ6_bitCount_0f7a4 29 = .ok (.ldc_w 267, 3) := by decide +kernel
theorem dJ6_bitCount_0f7a4_32 : decode cJ6_bitCount_0f7a4 32 = .ok (.iand, 1) := by decide +kernel
theorem dJ6_bitCount_0f7a4_33 : decode cJ6_bitCount_0f7a4 33 = .ok (.istore_n 0, 1) := by decide +kernel
theorem dJ6_bitCount_0f7a4_34 : decode cJ6_bitCount_0f7a4 34 = .ok (.iload_n 0, 1) := by decide +kernel
theorem dJ6_bitCount_0f7a4_35 : decode cJ6_bitCount_0f7a4 35 = .ok (.iload_n 0, 1) := by decide +kernel
theorem dJ6_bitCount_0f7a4_36 : decode cJ6_bitCount_0f7a4 36 = .ok (.bipush 8, 2) := by decide +kernel
theorem dJ6_bitCount_0f7a4_38 : decode cJ6_bitCount_0f7a4 38 = .ok (.iushr, 1) := by decide +kernel
theorem dJ6_bitCount_0f7a4_39 : decode cJ6_bitCount_0f7a4 39 = .ok (.iadd, 1) := by decide +kernel
theorem dJ6_bitCount_0f7a4_40 : decode cJ6_bitCount_0f7a4 40 = .ok (.istore_n 0, 1) := by decide +kernel
theorem dJ6_bitCount_0f7a4_41 : decode cJ6_bitCount_0f7a4 41 = .ok (.iload_n 0, 1) := by decide +kernel
theorem dJ6_bitCount_0f7a4_42 : decode cJ6_bitCount_0f7a4 42 = .ok (.iload_n 0, 1) := by decide +kernel
theorem dJ6_bitCount_0f7a4_43 : decode cJ6_bitCount_0f7a4 43 = .ok (.bipush 16, 2) := by decide +kernel
theorem dJ6_bitCount_0f7a4_45 : decode cJ6_bitCount_0f7a4 45 = .ok (.iushr, 1) := by decide +kernel
theorem dJ6_bitCount_0f7a4_46 : decode cJ6_bitCount_0f7a4 46 = .ok (.iadd, 1) := by decide +kernel
theorem dJ6_bitCount_0f7a4_47 : decode cJ6_bitCount_0f7a4 47 = .ok (.istore_n 0, 1) := by decide +kernel
theorem dJ6_bitCount_0f7a4_48 : decode cJ6_bitCount_0f7a4 48 = .ok (.iload_n 0, 1) := by decide +kernel
theorem dJ6_bitCount_0f7a4_49 : decode cJ6_bitCount_0f7a4 49 = .ok (.bipush 63, 2) := by decide +kernel
theorem dJ6_bitCount_0f7a4_51 : decode cJ6_bitCount_0f7a4 51 = .ok (.iand, 1) := by decide +kernel
theorem dJ6_bitCount_0f7a4_52 : decode cJ6_bitCount_0f7a4 52 = .ok (.ireturn, 1) := by decide +kernel
theorem dJ9_max_7cf53_0 : decode cJ9_max_7cf53 0 = .ok (.iload_n 0, 1) := by decide +kernel
theorem dJ9_max_7cf53_1 : decode cJ9_max_7cf53 1 = .ok (.iload_n 1, 1) := by decide +kernel
theorem dJ9_max_7cf53_2 : decode cJ9_max_7cf53 2 = .ok (.if_icmp .lt 7, 3) := by decide +kernel
theorem dJ9_max_7cf53_5 : decode cJ9_max_7cf53 5 = .ok (.iload_n 0, 1) := by decide +kernel
theorem dJ9_max_7cf53_6 : decode cJ9_max_7cf53 6 = .ok (.goto 4, 3) := by decide +kernel
theorem dJ9_max_7cf53_9 : decode cJ9_max_7cf53 9 = .ok (.iload_n 1, 1) := by decide +kernel
theorem dJ9_max_7cf53_10 : decode cJ9_max_7cf53 10 = .ok (.ireturn, 1) := by decide +kernel
theorem dJ9_min_7cf53_0 : decode cJ9_min_7cf53 0 = .ok (.iload_n 0, 1) := by decide +kernel
theorem dJ9_min_7cf53_1 : decode cJ9_min_7cf53 1 = .ok (.iload_n 1, 1) := by decide +kernel
theorem dJ9_min_7cf53_2 : decode cJ9_min_7cf53 2 = .ok (.if_icmp .gt 7, 3) := by decide +kernel
theorem dJ9_min_7cf53_5 : decode cJ9_min_7cf53 5 = .ok (.iload_n 0, 1) := by decide +kernel
theorem dJ9_min_7cf53_6 : decode cJ9_min_7cf53 6 = .ok (.goto 4, 3) := by decide +kernel
theorem dJ9_min_7cf53_9 : decode cJ9_min_7cf53 9 = .ok (.iload_n 1, 1) := by decide +kernel
theorem dJ9_min_7cf53_10 : decode cJ9_min_7cf53 10 = .ok (.ireturn, 1) := by decide +kernel
theorem dJ9_min_f86c9_0 : decode cJ9_min_f86c9 0 = .ok (.lload_n 0, 1) := by decide +kernel
theorem dJ9_min_f86c9_1 : decode cJ9_min_f86c9 1 = .ok (.lload_n 2, 1) := by decide +kernel
theorem dJ9_min_f86c9_2 : decode cJ9_min_f86c9 2 = .ok (.lcmp, 1) := by decide +kernel
theorem dJ9_min_f86c9_3 : decode cJ9_min_f86c9 3 = .ok (.ifCond .gt 7, 3) := by decide +kernel
theorem dJ9_min_f86c9_6 : decode cJ9_min_f86c9 6 = .ok (.lload_n 0, 1) := by decide +kernel
theorem dJ9_min_f86c9_7 : decode cJ9_min_f86c9 7 = .ok (.goto 4, 3) := by decide +kernel
theorem dJ9_min_f86c9_10 : decode cJ9_min_f86c9 10 = .ok (.lload_n 2, 1) := by decide +kernel
theorem dJ9_min_f86c9_11 : decode cJ9_min_f86c9 11 = .ok (.lreturn, 1) := by decide +kernel
set_option maxRecDepth 20000 in
theorem ggJ0_length_8abf5_J0_coder_7d493 : GoodIn wsJ0_length_8abf5 wsJ0_coder_7d493 := goodIn_r _ [6, 7, 8] (by decide +kernel) (by decide +kernel)
set_option maxRecDepth 20000 in
theorem gJ0_length_8abf5_J0_coder_7d493 : GoodIn wsJ0_length_8abf5 (wsV RJ0 335 RJ0 yJ0_coder_7d493 wsJ0_coder_7d493) := goodIn_app (goodIn_of _ (by decide +kernel)) ggJ0_length_8abf5_J0_coder_7d493
theorem dJ0_length_8abf5_0 : decode cJ0_length_8abf5 0 = .ok (.aload_n 0, 1) := by decide +kernel
theorem dJ0_length_8abf5_1 : decode cJ0_length_8abf5 1 = .ok (.getfield 9, 3) := by decide +kernel
theorem dJ0_length_8abf5_4 : decode cJ0_length_8abf5 4 = .ok (.arraylength, 1) := by decide +kernel
theorem dJ0_length_8abf5_5 : decode cJ0_length_8abf5 5 = .ok (.aload_n 0, 1) := by decide +kernel
theorem dJ0_length_8abf5_6 : decode cJ0_length_8abf5 6 = .ok (.invokevirtual 335, 3) := by decide +kernel
theorem dJ0_length_8abf5_9 : decode cJ0_length_8abf5 9 = .ok (.ishr, 1) := by decide +kernel
theorem dJ0_length_8abf5_10 : decode cJ0_length_8abf5 10 = .ok (.ireturn, 1) := by decide +kernel
set_option maxRecDepth 20000 in
theorem ggJ0_charAt_5068e_J0_isLatin1_aae02 : GoodIn wsJ0_charAt_5068e wsJ0_isLatin1_aae02 := goodIn_r _ [6, 7, 8] (by decide +kernel) (by decide +kernel)
set_option maxRecDepth 20000 in
theorem gJ0_charAt_5068e_J0_isLatin1_aae02 : GoodIn wsJ0_charAt_5068e (wsV RJ0 492 RJ0 yJ0_isLatin1_aae02 wsJ0_isLatin1_aae02) := goodIn_app (goodIn_of _ (by decide +kernel)) ggJ0_charAt_5068e_J0_isLatin1_aae02
set_option maxRecDepth 20000 in
theorem ggJ0_charAt_5068e_J1_charAt_3b067 : GoodIn wsJ0_charAt_5068e wsJ1_charAt_3b067 := goodIn_r _ [12, 13, 14, 5, 15, 16, 17, 18, 19, 20] (by decide +kernel) (by decide +kernel)
set_option maxRecDepth 20000 in
theorem gJ0_charAt_5068e_J1_charAt_3b067 : GoodIn wsJ0_charAt_5068e (va_wsS RJ0 495 yJ1_charAt_3b067 wsJ1_charAt_3b067) := goodIn_app (goodIn_of _ (by decide +kernel)) ggJ0_charAt_5068e_J1_charAt_3b067
set_option maxRecDepth 20000 in
theorem ggJ0_charAt_5068e_J2_charAt_3b067 : GoodIn wsJ0_charAt_5068e wsJ2_charAt_3b067 := goodIn_r _ [24, 25, 26, 23, 27, 28, 29, 30, 31, 14, 5, 15, 16, 17, 18, 19, 20, 32, 33, 34, 35, 36, 37] (by decide +kernel) (by decide +kernel)
set_option maxRecDepth 20000 in
theorem gJ0_charAt_5068e_J2_charAt_3b067 : GoodIn wsJ0_charAt_5068e (va_wsS RJ0 498 yJ2_charAt_3b067 wsJ2_charAt_3b067) := goodIn_app (goodIn_of _ (by decide +kernel)) ggJ0_charAt_5068e_J2_charAt_3b067
theorem dJ0_charAt_5068e_0 : decode cJ0_charAt_5068e 0 = .ok (.aload_n 0, 1) := by decide +kernel
theorem dJ0_charAt_5068e_1 : decode cJ0_charAt_5068e 1 = .ok (.invokevirtual 492, 3) := by decide +kernel
theorem dJ0_charAt_5068e_4 : decode cJ0_charAt_5068e 4 = .ok (.ifCond .eq 12, 3) := by decide +kernel
theorem dJ0_charAt_5068e_7 : decode cJ0_charAt_5068e 7 = .ok (.aload_n 0, 1) := by decide +kernel
theorem dJ0_charAt_5068e_8 : decode cJ0_charAt_5068e 8 = .ok (.getfield 9, 3) := by decide +kernel
theorem dJ0_charAt_5068e_11 : decode cJ0_charAt_5068e 11 = .ok (.iload_n 1, 1) := by decide +kernel
theorem dJ0_charAt_5068e_12 : decode cJ0_charAt_5068e 12 = .ok (.invokestatic 495, 3) := by decide +kernel
theorem dJ0_charAt_5068e_15 : decode cJ0_charAt_5068e 15 = .ok (.ireturn, 1) := by decide +kernel
theorem dJ0_charAt_5068e_16 : decode cJ0_charAt_5068e 16 = .ok (.aload_n 0, 1) := by decide +kernel
theorem dJ0_charAt_5068e_17 : decode cJ0_charAt_5068e 17 = .ok (.getfield 9, 3) := by decide +kernel
theorem dJ0_charAt_5068e_20 : decode cJ0_charAt_5068e 20 = .ok (.iload_n 1, 1) := by decide +kernel
theorem dJ0_charAt_5068e_21 : decode cJ0_charAt_5068e 21 = .ok (.invokestatic 498, 3) := by decide +kernel
theorem dJ0_charAt_5068e_24 : decode cJ0_charAt_5068e 24 = .ok (.ireturn, 1) := by decide +kernel
theorem dJ0_coder_7d493_0 : decode cJ0_coder_7d493 0 = .ok (.getstatic 38, 3) := by decide +kernel
theorem dJ0_coder_7d493_3 : decode cJ0_coder_7d493 3 = .ok (.ifCond .eq 10, 3) := by decide +kernel
theorem dJ0_coder_7d493_6 : decode cJ0_coder_7d493 6 = .ok (.aload_n 0, 1) := by decide +kernel
theorem dJ0_coder_7d493_7 : decode cJ0_coder_7d493 7 = .ok (.getfield 15, 3) := by decide +kernel
theorem dJ0_coder_7d493_10 : decode cJ0_coder_7d493 10 = .ok (.goto 4, 3) := by decide +kernel
theorem dJ0_coder_7d493_13 : decode cJ0_coder_7d493 13 = .ok (.iconst 1, 1) := by decide +kernel
theorem dJ0_coder_7d493_14 : decode cJ0_coder_7d493 14 = .ok (.ireturn, 1) := by decide +kernel
theorem dJ0_isLatin1_aae02_0 : decode cJ0_isLatin1_aae02 0 = .ok (.getstatic 38, 3) := by decide +kernel
theorem dJ0_isLatin1_aae02_3 : decode cJ0_isLatin1_aae02 3 = .ok (.ifCond .eq 14, 3) := by decide +kernel
theorem dJ0_isLatin1_aae02_6 : decode cJ0_isLatin1_aae02 6 = .ok (.aload_n 0, 1) := by decide +kernel
theorem dJ0_isLatin1_aae02_7 : decode cJ0_isLatin1_aae02 7 = .ok (.getfield 15, 3) := by decide +kernel
theorem dJ0_isLatin1_aae02_10 : decode cJ0_isLatin1_aae02 10 = .ok (.ifCond .ne 7, 3) := by decide +kernel
theorem dJ0_isLatin1_aae02_13 : decode cJ0_isLatin1_aae02 13 = .ok (.iconst 1, 1) := by decide +kernel
theorem dJ0_isLatin1_aae02_14 : decode cJ0_isLatin1_aae02 14 = .ok (.goto 4, 3) := by decide +kernel
theorem dJ0_isLatin1_aae02_17 : decode cJ0_isLatin1_aae02 17 = .ok (.iconst 0, 1) := by decide +kernel
theorem dJ0_isLatin1_aae02_18 : decode cJ0_isLatin1_aae02 18 = .ok (.ireturn, 1) := by decide +kernel
set_option maxRecDepth 20000 in
theorem ggJ0_checkIndex_df160_J3_checkIndex_8e157 : GoodIn wsJ0_checkIndex_df160 wsJ3_checkIndex_8e157 := goodIn_r _ [5] (by decide +kernel) (by decide +kernel)
set_option maxRecDepth 20000 in
theorem gJ0_checkIndex_df160_J3_checkIndex_8e157 : GoodIn wsJ0_checkIndex_df160 (va_wsS RJ0 1059 yJ3_checkIndex_8e157 wsJ3_checkIndex_8e157) := goodIn_app (goodIn_of _ (by decide +kernel)) ggJ0_checkIndex_df160_J3_checkIndex_8e157
theorem dJ0_checkIndex_df160_0 : decode cJ0_checkIndex_df160 0 = .ok (.iload_n 0, 1) := by decide +kernel
theorem dJ0_checkIndex_df160_1 : decode cJ0_checkIndex_df160 1 = .ok (.iload_n 1, 1) := by decide +kernel
theorem dJ0_checkIndex_df160_2 : decode cJ0_checkIndex_df160 2 = .ok (.getstatic 1053, 3) := by decide +kernel
theorem dJ0_checkIndex_df160_5 : decode cJ0_checkIndex_df160 5 = .ok (.invokestatic 1059, 3) := by decide +kernel
theorem dJ0_checkIndex_df160_8 : decode cJ0_checkIndex_df160 8 = .ok (.pop, 1) := by decide +kernel
theorem dJ0_checkIndex_df160_9 : decode cJ0_checkIndex_df160 9 = .ok (.return_, 1) := by decide +kernel
set_option maxRecDepth 20000 in
theorem ggJ1_charAt_3b067_J0_checkIndex_df160 : GoodIn wsJ1_charAt_3b067 wsJ0_checkIndex_df160 := goodIn_r _ [4, 5, 6, 7, 8, 9] (by decide +kernel) (by decide +kernel)
set_option maxRecDepth 20000 in
theorem gJ1_charAt_3b067_J0_checkIndex_df160 : GoodIn wsJ1_charAt_3b067 (va_wsS RJ1 9 yJ0_checkIndex_df160 wsJ0_checkIndex_df160) := goodIn_app (goodIn_of _ (by decide +kernel)) ggJ1_charAt_3b067_J0_checkIndex_df160
theorem dJ1_charAt_3b067_0 : decode cJ1_charAt_3b067 0 = .ok (.iload_n 1, 1) := by decide +kernel
theorem dJ1_charAt_3b067_1 : decode cJ1_charAt_3b067 1 = .ok (.aload_n 0, 1) := by decide +kernel
theorem dJ1_charAt_3b067_2 : decode cJ1_charAt_3b067 2 = .ok (.arraylength, 1) := by decide +kernel
theorem dJ1_charAt_3b067_3 : decode cJ1_charAt_3b067 3 = .ok (.invokestatic 9, 3) := by decide +kernel
theorem dJ1_charAt_3b067_6 : decode cJ1_charAt_3b067 6 = .ok (.aload_n 0, 1) := by decide +kernel
theorem dJ1_charAt_3b067_7 : decode cJ1_charAt_3b067 7 = .ok (.iload_n 1, 1) := by decide +kernel
theorem dJ1_charAt_3b067_8 : decode cJ1_charAt_3b067 8 = .ok (.baload, 1) := by decide +kernel
theorem dJ1_charAt_3b067_9 : decode cJ1_charAt_3b067 9 = .ok (.sipush 255, 3) := by decide +kernel
theorem dJ1_charAt_3b067_12 : decode cJ1_charAt_3b067 12 = .ok (.iand, 1) := by decide +kernel
theorem dJ1_charAt_3b067_13 : decode cJ1_charAt_3b067 13 = .ok (.i2c, 1) := by decide +kernel
theorem dJ1_charAt_3b067_14 : decode cJ1_charAt_3b067 14 = .ok (.ireturn, 1) := by decide +kernel
set_option maxRecDepth 20000 in
theorem ggJ2_getChar_3b067_J2_length_9d52b : GoodIn wsJ2_getChar_3b067 wsJ2_length_9d52b := goodIn_r _ [7] (by decide +kernel) (by decide +kernel)
set_option maxRecDepth 20000 in
theorem gJ2_getChar_3b067_J2_length_9d52b : GoodIn wsJ2_getChar_3b067 (va_wsS RJ2 48 yJ2_length_9d52b wsJ2_length_9d52b) := goodIn_app (goodIn_of _ (by decide +kernel)) ggJ2_getChar_3b067_J2_length_9d52b
theorem dJ2_getChar_3b067_0 : decode cJ2_getChar_3b067 0 = .ok (.getstatic 44, 3) := by decide +kernel
theorem dJ2_getChar_3b067_3 : decode cJ2_getChar_3b067 3 = .ok (.ifCond .ne 25, 3) := by decide +kernel
theorem dJ2_getChar_3b067_6 : decode cJ2_getChar_3b067 6 = .ok (.iload_n 1, 1) := by decide +kernel
theorem dJ2_getChar_3b067_7 : decode cJ2_getChar_3b067 7 = .ok (.ifCond .lt 11, 3) := by decide +kernel
theorem dJ2_getChar_3b067_10 : decode cJ2_getChar_3b067 10 = .ok (.iload_n 1, 1) := by decide +kernel
theorem dJ2_getChar_3b067_11 : decode cJ2_getChar_3b067 11 = .ok (.aload_n 0, 1) := by decide +kernel
theorem dJ2_getChar_3b067_12 : decode cJ2_getChar_3b067 12 = .ok (.invokestatic 48, 3) := by decide +kernel
theorem dJ2_getChar_3b067_15 : decode cJ2_getChar_3b067 15 = .ok (.if_icmp .lt 13, 3) := by decide +kernel
theorem dJ2_getChar_3b067_18 : decode cJ2_getChar_3b067 18 = .ok (.new 52, 3) := by decide +kernel
theorem dJ2_getChar_3b067_21 : decode cJ2_getChar_3b067 21 = .ok (.dup, 1) := by decide +kernel
theorem dJ2_getChar_3b067_22 : decode cJ2_getChar_3b067 22 = .ok (.ldc 54, 2) := by decide +kernel
theorem dJ2_getChar_3b067_24 : decode cJ2_getChar_3b067 24 = .ok (.invokespecial 56, 3) := by decide +kernel
theorem dJ2_getChar_3b067_27 : decode cJ2_getChar_3b067 27 = .ok (.athrow, 1) := by decide +kernel
theorem dJ2_getChar_3b067_28 : decode cJ2_getChar_3b067 28 = .ok (.iload_n 1, 1) := by decide +kernel
theorem dJ2_getChar_3b067_29 : decode cJ2_getChar_3b067 29 = .ok (.iconst 1, 1) := by decide +kernel
theorem dJ2_getChar_3b067_30 : decode cJ2_getChar_3b067 30 = .ok (.ishl, 1) := by decide +kernel
theorem dJ2_getChar_3b067_31 : decode cJ2_getChar_3b067 31 = .ok (.istore_n 1, 1) := by decide +kernel
theorem dJ2_getChar_3b067_32 : decode cJ2_getChar_3b067 32 = .ok (.aload_n 0, 1) := by decide +kernel
theorem dJ2_getChar_3b067_33 : decode cJ2_getChar_3b067 33 = .ok (.iload_n 1, 1) := by decide +kernel
theorem dJ2_getChar_3b067_34 : decode cJ2_getChar_3b067 34 = .ok (.iinc 1 1, 3) := by decide +kernel
theorem dJ2_getChar_3b067_37 : decode cJ2_getChar_3b067 37 = .ok (.baload, 1) := by decide +kernel
theorem dJ2_getChar_3b067_38 : decode cJ2_getChar_3b067 38 = .ok (.sipush 255, 3) := by decide +kernel
theorem dJ2_getChar_3b067_41 : decode cJ2_getChar_3b067 41 = .ok (.iand, 1) := by decide +kernel
theorem dJ2_getChar_3b067_42 : decode cJ2_getChar_3b067 42 = .ok (.getstatic 59, 3) := by decide +kernel
theorem dJ2_getChar_3b067_45 : decode cJ2_getChar_3b067 45 = .ok (.ishl, 1) := by decide +kernel
theorem dJ2_getChar_3b067_46 : decode cJ2_getChar_3b067 46 = .ok (.aload_n 0, 1) := by decide +kernel
theorem dJ2_getChar_3b067_47 : decode cJ2_getChar_3b067 47 = .ok (.iload_n 1, 1) := by decide +kernel
theorem dJ2_getChar_3b067_48 : decode cJ2_getChar_3b067 48 = .ok (.baload, 1) := by decide +kernel
theorem dJ2_getChar_3b067_49 : decode cJ2_getChar_3b067 49 = .ok (.sipush 255, 3) := by decide +kernel
theorem dJ2_getChar_3b067_52 : decode cJ2_getChar_3b067 52 = .ok (.iand, 1) := by decide +kernel
theorem dJ2_getChar_3b067_53 : decode cJ2_getChar_3b067 53 = .ok (.getstatic 63, 3) := by decide +kernel
theorem dJ2_getChar_3b067_56 : decode cJ2_getChar_3b067 56 = .ok (.ishl, 1) := by decide +kernel
theorem dJ2_getChar_3b067_57 : decode cJ2_getChar_3b067 57 = .ok (.ior, 1) := by decide +kernel
theorem dJ2_getChar_3b067_58 : decode cJ2_getChar_3b067 58 = .ok (.i2c, 1) := by decide +kernel
theorem dJ2_getChar_3b067_59 : decode cJ2_getChar_3b067 59 = .ok (.ireturn, 1) := by decide +kernel
theorem dJ2_length_9d52b_0 : decode cJ2_length_9d52b 0 = .ok (.aload_n 0, 1) := by decide +kernel
theorem dJ2_length_9d52b_1 : decode cJ2_length_9d52b 1 = .ok (.arraylength, 1) := by decide +kernel
theorem dJ2_length_9d52b_2 : decode cJ2_length_9d52b 2 = .ok (.iconst 1, 1) := by decide +kernel
theorem dJ2_length_9d52b_3 : decode cJ2_length_9d52b 3 = .ok (.ishr, 1) := by decide +kernel
theorem dJ2_length_9d52b_4 : decode cJ2_length_9d52b 4 = .ok (.ireturn, 1) := by decide +kernel
set_option maxRecDepth 20000 in
theorem ggJ2_charAt_3b067_J2_checkIndex_2214a : GoodIn wsJ2_charAt_3b067 wsJ2_checkIndex_2214a := goodIn_r _ [4, 5, 6, 3, 7, 8, 9, 10, 11, 12, 13, 14, 15, 16] (by decide +kernel) (by decide +kernel)
set_option maxRecDepth 20000 in
theorem gJ2_charAt_3b067_J2_checkIndex_2214a : GoodIn wsJ2_charAt_3b067 (va_wsS RJ2 67 yJ2_checkIndex_2214a wsJ2_checkIndex_2214a) := goodIn_app (goodIn_of _ (by decide +kernel)) ggJ2_charAt_3b067_J2_checkIndex_2214a
set_option maxRecDepth 20000 in
theorem ggJ2_charAt_3b067_J2_getChar_3b067 : GoodIn wsJ2_charAt_3b067 wsJ2_getChar_3b067 := goodIn_r _ [19, 20, 21, 22, 5, 6, 3, 7] (by decide +kernel) (by decide +kernel)
set_option maxRecDepth 20000 in
theorem gJ2_charAt_3b067_J2_getChar_3b067 : GoodIn wsJ2_charAt_3b067 (va_wsS RJ2 71 yJ2_getChar_3b067 wsJ2_getChar_3b067) := goodIn_app (goodIn_of _ (by decide +kernel)) ggJ2_charAt_3b067_J2_getChar_3b067
theorem dJ2_charAt_3b067_0 : decode cJ2_charAt_3b067 0 = .ok (.iload_n 1, 1) := by decide +kernel
theorem dJ2_charAt_3b067_1 : decode cJ2_charAt_3b067 1 = .ok (.aload_n 0, 1) := by decide +kernel
theorem dJ2_charAt_3b067_2 : decode cJ2_charAt_3b067 2 = .ok (.invokestatic 67, 3) := by decide +kernel
theorem dJ2_charAt_3b067_5 : decode cJ2_charAt_3b067 5 = .ok (.aload_n 0, 1) := by decide +kernel
theorem dJ2_charAt_3b067_6 : decode cJ2_charAt_3b067 6 = .ok (.iload_n 1, 1) := by decide +kernel
theorem dJ2_charAt_3b067_7 : decode cJ2_charAt_3b067 7 = .ok (.invokestatic 71, 3) := by decide +kernel
theorem dJ2_charAt_3b067_10 : decode cJ2_charAt_3b067 10 = .ok (.ireturn, 1) := by decide +kernel
set_option maxRecDepth 20000 in
theorem ggJ2_checkIndex_2214a_J2_length_9d52b : GoodIn wsJ2_checkIndex_2214a wsJ2_length_9d52b := goodIn_r _ [4] (by decide +kernel) (by decide +kernel)
set_option maxRecDepth 20000 in
theorem gJ2_checkIndex_2214a_J2_length_9d52b : GoodIn wsJ2_checkIndex_2214a (va_wsS RJ2 48 yJ2_length_9d52b wsJ2_length_9d52b) := goodIn_app (goodIn_of _ (by decide +kernel)) ggJ2_checkIndex_2214a_J2_length_9d52b
set_option maxRecDepth 20000 in
theorem ggJ2_checkIndex_2214a_J0_checkIndex_df160 : GoodIn wsJ2_checkIndex_2214a wsJ0_checkIndex_df160 := goodIn_r _ [8, 9, 10, 11, 12, 13] (by decide +kernel) (by decide +kernel)
set_option maxRecDepth 20000 in
theorem gJ2_checkIndex_2214a_J0_checkIndex_df160 : GoodIn wsJ2_checkIndex_2214a (va_wsS RJ2 414 yJ0_checkIndex_df160 wsJ0_checkIndex_df160) := goodIn_app (goodIn_of _ (by decide +kernel)) ggJ2_checkIndex_2214a_J0_checkIndex_df160
theorem dJ2_checkIndex_2214a_0 : decode cJ2_checkIndex_2214a 0 = .ok (.iload_n 0, 1) := by decide +kernel
theorem dJ2_checkIndex_2214a_1 : decode cJ2_checkIndex_2214a 1 = .ok (.aload_n 1, 1) := by decide +kernel
theorem dJ2_checkIndex_2214a_2 : decode cJ2_checkIndex_2214a 2 = .ok (.invokestatic 48, 3) := by decide +kernel
theorem dJ2_checkIndex_2214a_5 : decode cJ2_checkIndex_2214a 5 = .ok (.invokestatic 414, 3) := by decide +kernel
theorem dJ2_checkIndex_2214a_8 : decode cJ2_checkIndex_2214a 8 = .ok (.return_, 1) := by decide +kernel
theorem dJ7_fill_53178_0 : decode cJ7_fill_53178 0 = .ok (.iconst 0, 1) := by decide +kernel
theorem dJ7_fill_53178_1 : decode cJ7_fill_53178 1 = .ok (.istore_n 2, 1) := by decide +kernel
theorem dJ7_fill_53178_2 : decode cJ7_fill_53178 2 = .ok (.aload_n 0, 1) := by decide +kernel
theorem dJ7_fill_53178_3 : decode cJ7_fill_53178 3 = .ok (.arraylength, 1) := by decide +kernel
theorem dJ7_fill_53178_4 : decode cJ7_fill_53178 4 = .ok (.istore_n 3, 1) := by decide +kernel
theorem dJ7_fill_53178_5 : decode cJ7_fill_53178 5 = .ok (.iload_n 2, 1) := by decide +kernel
theorem dJ7_fill_53178_6 : decode cJ7_fill_53178 6 = .ok (.iload_n 3, 1) := by decide +kernel
theorem dJ7_fill_53178_7 : decode cJ7_fill_53178 7 = .ok (.if_icmp .ge 13, 3) := by decide +kernel
theorem dJ7_fill_53178_10 : decode cJ7_fill_53178 10 = .ok (.aload_n 0, 1) := by decide +kernel
theorem dJ7_fill_53178_11 : decode cJ7_fill_53178 11 = .ok (.iload_n 2, 1) := by decide +kernel
theorem dJ7_fill_53178_12 : decode cJ7_fill_53178 12 = .ok (.iload_n 1, 1) := by decide +kernel
theorem dJ7_fill_53178_13 : decode cJ7_fill_53178 13 = .ok (.iastore, 1) := by decide +kernel
theorem dJ7_fill_53178_14 : decode cJ7_fill_53178 14 = .ok (.iinc 2 1, 3) := by decide +kernel
theorem dJ7_fill_53178_17 : decode cJ7_fill_53178 17 = .ok (.goto (-12), 3) := by decide +kernel
theorem dJ7_fill_53178_20 : decode cJ7_fill_53178 20 = .ok (.return_, 1) := by decide +kernel
theorem dJ3_checkIndex_8e157_0 : decode cJ3_checkIndex_8e157 0 = .ok (.iload_n 0, 1) := by decide +kernel
theorem dJ3_checkIndex_8e157_1 : decode cJ3_checkIndex_8e157 1 = .ok (.ifCond .lt 8, 3) := by decide +kernel
theorem dJ3_checkIndex_8e157_4 : decode cJ3_checkIndex_8e157 4 = .ok (.iload_n 0, 1) := by decide +kernel
theorem dJ3_checkIndex_8e157_5 : decode cJ3_checkIndex_8e157 5 = .ok (.iload_n 1, 1) := by decide +kernel
theorem dJ3_checkIndex_8e157_6 : decode cJ3_checkIndex_8e157 6 = .ok (.if_icmp .lt 10, 3) := by decide +kernel
theorem dJ3_checkIndex_8e157_9 : decode cJ3_checkIndex_8e157 9 = .ok (.aload_n 2, 1) := by decide +kernel
theorem dJ3_checkIndex_8e157_10 : decode cJ3_checkIndex_8e157 10 = .ok (.iload_n 0, 1) := by decide +kernel
theorem dJ3_checkIndex_8e157_11 : decode cJ3_checkIndex_8e157 11 = .ok (.iload_n 1, 1) := by decide +kernel
theorem dJ3_checkIndex_8e157_12 : decode cJ3_checkIndex_8e157 12 = .ok (.invokestatic 95, 3) := by decide +kernel
theorem dJ3_checkIndex_8e157_15 : decode cJ3_checkIndex_8e157 15 = .ok (.athrow, 1) := by decide +kernel
theorem dJ3_checkIndex_8e157_16 : decode cJ3_checkIndex_8e157 16 = .ok (.iload_n 0, 1) := by decide +kernel
theorem dJ3_checkIndex_8e157_17 : decode cJ3_checkIndex_8e157 17 = .ok (.ireturn, 1) := by decide +kernel

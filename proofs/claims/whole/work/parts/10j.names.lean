theorem dX9_room_15 : decode cX9_room 15 = .ok (.invokevirtual 237, 3) := by decide +kernel
theorem dX9_room_18 : decode cX9_room 18 = .ok (.ireturn, 1) := by decide +kernel
theorem dX9_room_19 : decode cX9_room 19 = .ok (.aload_n 0, 1) := by decide +kernel
theorem dX9_room_20 : decode cX9_room 20 = .ok (.invokevirtual 226, 3) := by decide +kernel
theorem dX9_room_23 : decode cX9_room 23 = .ok (.iload_n 2, 1) := by decide +kernel
theorem dX9_room_24 : decode cX9_room 24 = .ok (.tableswitch 92 0 7 #[48, 55, 62, 76, 83, 83, 83, 83], 48) := by decide +kernel
theorem dX9_room_72 : decode cX9_room 72 = .ok (.aload_n 0, 1) := by decide +kernel
theorem dX9_room_73 : decode cX9_room 73 = .ok (.iload_n 1, 1) := by decide +kernel
theorem dX9_room_74 : decode cX9_room 74 = .ok (.iconst 0, 1) := by decide +kernel
theorem dX9_room_75 : decode cX9_room 75 = .ok (.invokevirtual 178, 3) := by decide +kernel
theorem dX9_room_78 : decode cX9_room 78 = .ok (.ireturn, 1) := by decide +kernel
theorem dX9_room_79 : decode cX9_room 79 = .ok (.aload_n 0, 1) := by decide +kernel
theorem dX9_room_80 : decode cX9_room 80 = .ok (.getfield 40, 3) := by decide +kernel
theorem dX9_room_83 : decode cX9_room 83 = .ok (.iload_n 1, 1) := by decide +kernel
theorem dX9_room_84 : decode cX9_room 84 = .ok (.iaload, 1) := by decide +kernel
theorem dX9_room_85 : decode cX9_room 85 = .ok (.ireturn, 1) := by decide +kernel
theorem dX9_room_86 : decode cX9_room 86 = .ok (.aload_n 0, 1) := by decide +kernel
theorem dX9_room_87 : decode cX9_room 87 = .ok (.iload_n 1, 1) := by decide +kernel
theorem dX9_room_88 : decode cX9_room 88 = .ok (.invokevirtual 181, 3) := by decide +kernel
theorem dX9_room_91 : decode cX9_room 91 = .ok (.ifCond .eq 7, 3) := by decide +kernel
theorem dX9_room_94 : decode cX9_room 94 = .ok (.iconst 1, 1) := by decide +kernel
theorem dX9_room_95 : decode cX9_room 95 = .ok (.goto 4, 3) := by decide +kernel
theorem dX9_room_98 : decode cX9_room 98 = .ok (.iconst 0, 1) := by decide +kernel
theorem dX9_room_99 : decode cX9_room 99 = .ok (.ireturn, 1) := by decide +kernel
theorem dX9_room_100 : decode cX9_room 100 = .ok (.aload_n 0, 1) := by decide +kernel
theorem dX9_room_101 : decode cX9_room 101 = .ok (.getfield 37, 3) := by decide +kernel
theorem dX9_room_104 : decode cX9_room 104 = .ok (.iload_n 1, 1) := by decide +kernel
theorem dX9_room_105 : decode cX9_room 105 = .ok (.iaload, 1) := by decide +kernel
theorem dX9_room_106 : decode cX9_room 106 = .ok (.ireturn, 1) := by decide +kernel
theorem dX9_room_107 : decode cX9_room 107 = .ok (.aload_n 0, 1) := by decide +kernel
theorem dX9_room_108 : decode cX9_room 108 = .ok (.iload_n 1, 1) := by decide +kernel
theorem dX9_room_109 : decode cX9_room 109 = .ok (.iload_n 2, 1) := by decide +kernel
theorem dX9_room_110 : decode cX9_room 110 = .ok (.iconst 3, 1) := by decide +kernel
theorem dX9_room_111 : decode cX9_room 111 = .ok (.isub, 1) := by decide +kernel
theorem dX9_room_112 : decode cX9_room 112 = .ok (.invokevirtual 178, 3) := by decide +kernel
theorem dX9_room_115 : decode cX9_room 115 = .ok (.ireturn, 1) := by decide +kernel
theorem dX9_room_116 : decode cX9_room 116 = .ok (.aload_n 0, 1) := by decide +kernel
theorem dX9_room_117 : decode cX9_room 117 = .ok (.iconst 1, 1) := by decide +kernel
theorem dX9_room_118 : decode cX9_room 118 = .ok (.invokevirtual 237, 3) := by decide +kernel
theorem dX9_room_121 : decode cX9_room 121 = .ok (.ireturn, 1) := by decide +kernel
set_option maxRecDepth 20000 in
theorem ggX9_different_X9_period : GoodIn wsX9_different wsX9_period := goodIn_r _ [5, 6, 7, 8, 4, 9, 21, 22, 23, 24, 25, 26, 27, 28, 29, 30, 31, 32, 33, 34, 35, 36, 37, 38, 39, 40, 41, 42, 43, 44, 45, 46, 47, 48, 49, 50, 51, 52, 53, 54, 55] (by decide +kernel) (by decide +kernel)
set_option maxRecDepth 20000 in
theorem gX9_different_X9_period : GoodIn wsX9_different (wsV RX9 126 RX9 yX9_period wsX9_period) := goodIn_app (goodIn_of _ (by decide +kernel)) ggX9_different_X9_period
set_option maxRecDepth 20000 in
theorem ggX9_different_X9_step : GoodIn wsX9_different wsX9_step := goodIn_r _ [13, 6, 7, 8, 4, 9, 21, 22, 23, 24, 25, 26, 27, 28, 29, 30, 31, 32, 33, 34, 35, 36, 37, 38, 39, 40, 41, 42, 43, 44, 45, 46, 47, 48, 49, 50, 51, 52, 53, 54, 55] (by decide +kernel) (by decide +kernel)
set_option maxRecDepth 20000 in
theorem gX9_different_X9_step : GoodIn wsX9_different (wsV RX9 130 RX9 yX9_step wsX9_step) := goodIn_app (goodIn_of _ (by decide +kernel)) ggX9_different_X9_step
set_option maxRecDepth 20000 in
theorem ggX9_different_J6_bitCount_0f7a4 : GoodIn wsX9_different wsJ6_bitCount_0f7a4 := goodIn_r _ [17, 18, 19, 20] (by decide +kernel) (by decide +kernel)
set_option maxRecDepth 20000 in
theorem gX9_different_J6_bitCount_0f7a4 : GoodIn wsX9_different (va_wsS RX9 249 yJ6_bitCount_0f7a4 wsJ6_bitCount_0f7a4) := goodIn_app (goodIn_of _ (by decide +kernel)) ggX9_different_J6_bitCount_0f7a4
theorem dX9_different_0 : decode cX9_different 0 = .ok (.iconst 0, 1) := by decide +kernel
theorem dX9_different_1 : decode cX9_different 1 = .ok (.istore_n 2, 1) := by decide +kernel
theorem dX9_different_2 : decode cX9_different 2 = .ok (.iconst 0, 1) := by decide +kernel
theorem dX9_different_3 : decode cX9_different 3 = .ok (.istore_n 3, 1) := by decide +kernel
theorem dX9_different_4 : decode cX9_different 4 = .ok (.iload_n 3, 1) := by decide +kernel
theorem dX9_different_5 : decode cX9_different 5 = .ok (.aload_n 0, 1) := by decide +kernel
theorem dX9_different_6 : decode cX9_different 6 = .ok (.iload_n 1, 1) := by decide +kernel
theorem dX9_different_7 : decode cX9_different 7 = .ok (.invokevirtual 126, 3) := by decide +kernel
theorem dX9_different_10 : decode cX9_different 10 = .ok (.if_icmp .ge 20, 3) := by decide +kernel
theorem dX9_different_13 : decode cX9_different 13 = .ok (.iload_n 2, 1) := by decide +kernel
theorem dX9_different_14 : decode cX9_different 14 = .ok (.iconst 1, 1) := by decide +kernel
theorem dX9_different_15 : decode cX9_different 15 = .ok (.aload_n 0, 1) := by decide +kernel
theorem dX9_different_16 : decode cX9_different 16 = .ok (.iload_n 1, 1) := by decide +kernel
theorem dX9_different_17 : decode cX9_different 17 = .ok (.iload_n 3, 1) := by decide +kernel
theorem dX9_different_18 : decode cX9_different 18 = .ok (.invokevirtual 130, 3) := by decide +kernel
theorem dX9_different_21 : decode cX9_different 21 = .ok (.ishl, 1) := by decide +kernel
theorem dX9_different_22 : decode cX9_different 22 = .ok (.ior, 1) := by decide +kernel
theorem dX9_different_23 : decode cX9_different 23 = .ok (.istore_n 2, 1) := by decide +kernel
theorem dX9_different_24 : decode cX9_different 24 = .ok (.iinc 3 1, 3) := by decide +kernel
theorem dX9_different_27 : decode cX9_different 27 = .ok (.goto (-23), 3) := by decide +kernel
theorem dX9_different_30 : decode cX9_different 30 = .ok (.iload_n 2, 1) := by decide +kernel
theorem dX9_different_31 : decode cX9_different 31 = .ok (.invokestatic 249, 3) := by decide +kernel
theorem dX9_different_34 : decode cX9_different 34 = .ok (.ireturn, 1) := by decide +kernel
set_option maxRecDepth 20000 in
theorem ggX9_guard_X9_isGuard : GoodIn wsX9_guard wsX9_isGuard := goodIn_r _ [7, 8, 9, 10, 6, 11, 12, 13, 14, 15, 55, 56, 57, 58, 59, 60, 61, 62, 63, 64, 65, 66, 67, 68, 69, 70, 71, 72, 73, 74, 75, 76, 77, 78, 79, 80, 81, 82, 83, 84, 85, 86, 87, 88, 89] (by decide +kernel) (by decide +kernel)
set_option maxRecDepth 20000 in
theorem gX9_guard_X9_isGuard : GoodIn wsX9_guard (wsV RX9 252 RX9 yX9_isGuard wsX9_isGuard) := goodIn_app (goodIn_of _ (by decide +kernel)) ggX9_guard_X9_isGuard
set_option maxRecDepth 20000 in
theorem ggX9_guard_X9_raise : GoodIn wsX9_guard wsX9_raise := goodIn_r _ [19, 1, 55, 56, 57, 58, 59, 60, 61, 62, 63, 64, 65, 66, 67, 68, 69, 70, 71, 72, 73, 74, 75, 76, 77, 78, 79, 80, 81, 82, 83, 84, 85, 86, 87, 88, 89] (by decide +kernel) (by decide +kernel)
set_option maxRecDepth 20000 in
theorem gX9_guard_X9_raise : GoodIn wsX9_guard (wsV RX9 237 RX9 yX9_raise wsX9_raise) := goodIn_app (goodIn_of _ (by decide +kernel)) ggX9_guard_X9_raise
set_option maxRecDepth 20000 in
theorem ggX9_guard_X9_takePhases : GoodIn wsX9_guard wsX9_takePhases := goodIn_r _ [23, 24, 8, 9, 10, 6, 11, 12, 25, 26, 27, 28, 29, 30, 31, 55, 56, 57, 58, 59, 60, 61, 62, 63, 64, 65, 66, 67, 68, 69, 70, 71, 72, 73, 74, 75, 76, 77, 78, 79, 80, 81, 82, 83, 84, 85, 86, 87, 88, 89] (by decide +kernel) (by decide +kernel)
set_option maxRecDepth 20000 in
theorem gX9_guard_X9_takePhases : GoodIn wsX9_guard (wsV RX9 172 RX9 yX9_takePhases wsX9_takePhases) := goodIn_app (goodIn_of _ (by decide +kernel)) ggX9_guard_X9_takePhases
set_option maxRecDepth 20000 in
theorem ggX9_guard_X9_period : GoodIn wsX9_guard wsX9_period := goodIn_r _ [35, 12, 29, 30, 6, 31, 55, 56, 57, 58, 59, 60, 61, 62, 63, 64, 65, 66, 67, 68, 69, 70, 71, 72, 73, 74, 75, 76, 77, 78, 79, 80, 81, 82, 83, 84, 85, 86, 87, 88, 89] (by decide +kernel) (by decide +kernel)
set_option maxRecDepth 20000 in
theorem gX9_guard_X9_period : GoodIn wsX9_guard (wsV RX9 126 RX9 yX9_period wsX9_period) := goodIn_app (goodIn_of _ (by decide +kernel)) ggX9_guard_X9_period
set_option maxRecDepth 20000 in
theorem ggX9_guard_X9_phaseOf : GoodIn wsX9_guard wsX9_phaseOf := goodIn_r _ [28, 12, 29, 30, 6, 31, 55, 56, 57, 58, 59, 60, 61, 62, 63, 64, 65, 66, 67, 68, 69, 70, 71, 72, 73, 74, 75, 76, 77, 78, 79, 80, 81, 82, 83, 84, 85, 86, 87, 88, 89] (by decide +kernel) (by decide +kernel)
set_option maxRecDepth 20000 in
theorem gX9_guard_X9_phaseOf : GoodIn wsX9_guard (wsV RX9 136 RX9 yX9_phaseOf wsX9_phaseOf) := goodIn_app (goodIn_of _ (by decide +kernel)) ggX9_guard_X9_phaseOf
set_option maxRecDepth 20000 in
theorem ggX9_guard_X9_place : GoodIn wsX9_guard wsX9_place := goodIn_r _ [39, 24, 32, 33, 34, 6, 35, 12, 29, 30, 31, 40, 41, 42, 43, 55, 56, 57, 58, 59, 60, 61, 62, 63, 64, 65, 66, 67, 68, 69, 70, 71, 72, 73, 74, 75, 76, 77, 78, 79, 80, 81, 82, 83, 84, 85, 86, 87, 88, 89] (by decide +kernel) (by decide +kernel)
set_option maxRecDepth 20000 in
theorem gX9_guard_X9_place : GoodIn wsX9_guard (wsV RX9 139 RX9 yX9_place wsX9_place) := goodIn_app (goodIn_of _ (by decide +kernel)) ggX9_guard_X9_place
set_option maxRecDepth 20000 in
theorem ggX9_guard_X9_different : GoodIn wsX9_guard wsX9_different := goodIn_r _ [47, 32, 33, 34, 6, 35, 12, 29, 30, 31, 40, 41, 42, 43, 48, 49, 50, 51, 52, 53, 54, 55, 56, 57, 58, 59, 60, 61, 62, 63, 64, 65, 66, 67, 68, 69, 70, 71, 72, 73, 74, 75, 76, 77, 78, 79, 80, 81, 82, 83, 84, 85, 86, 87, 88, 89] (by decide +kernel) (by decide +kernel)
set_option maxRecDepth 20000 in
theorem gX9_guard_X9_different : GoodIn wsX9_guard (wsV RX9 255 RX9 yX9_different wsX9_different) := goodIn_app (goodIn_of _ (by decide +kernel)) ggX9_guard_X9_different
theorem dX9_guard_0 : decode cX9_guard 0 = .ok (.aload_n 0, 1) := by decide +kernel
theorem dX9_guard_1 : decode cX9_guard 1 = .ok (.iconst 0, 1) := by decide +kernel
theorem dX9_guard_2 : decode cX9_guard 2 = .ok (.putfield 97, 3) := by decide +kernel
theorem dX9_guard_5 : decode cX9_guard 5 = .ok (.aload_n 0, 1) := by decide +kernel
theorem dX9_guard_6 : decode cX9_guard 6 = .ok (.iload_n 1, 1) := by decide +kernel
theorem dX9_guard_7 : decode cX9_guard 7 = .ok (.invokevirtual 252, 3) := by decide +kernel
theorem dX9_guard_10 : decode cX9_guard 10 = .ok (.ifCond .ne 9, 3) := by decide +kernel
theorem dX9_guard_13 : decode cX9_guard 13 = .ok (.aload_n 0, 1) := by decide +kernel
theorem dX9_guard_14 : decode cX9_guard 14 = .ok (.iconst 1, 1) := by decide +kernel
theorem dX9_guard_15 : decode cX9_guard 15 = .ok (.invokevirtual 237, 3) := by decide +kernel
theorem dX9_guard_18 : decode cX9_guard 18 = .ok (.ireturn, 1) := by decide +kernel
theorem dX9_guard_19 : decode cX9_guard 19 = .ok (.aload_n 0, 1) := by decide +kernel
theorem dX9_guard_20 : decode cX9_guard 20 = .ok (.invokevirtual 172, 3) := by decide +kernel
theorem dX9_guard_23 : decode cX9_guard 23 = .ok (.iload_n 2, 1) := by decide +kernel
theorem dX9_guard_24 : decode cX9_guard 24 = .ok (.tableswitch 62 0 3 #[32, 38, 44, 56], 32) := by decide +kernel
theorem dX9_guard_56 : decode cX9_guard 56 = .ok (.aload_n 0, 1) := by decide +kernel
theorem dX9_guard_57 : decode cX9_guard 57 = .ok (.iload_n 1, 1) := by decide +kernel
theorem dX9_guard_58 : decode cX9_guard 58 = .ok (.invokevirtual 126, 3) := by decide +kernel
theorem dX9_guard_61 : decode cX9_guard 61 = .ok (.ireturn, 1) := by decide +kernel
theorem dX9_guard_62 : decode cX9_guard 62 = .ok (.aload_n 0, 1) := by decide +kernel
theorem dX9_guard_63 : decode cX9_guard 63 = .ok (.iload_n 1, 1) := by decide +kernel
theorem dX9_guard_64 : decode cX9_guard 64 = .ok (.invokevirtual 136, 3) := by decide +kernel
theorem dX9_guard_67 : decode cX9_guard 67 = .ok (.ireturn, 1) := by decide +kernel
theorem dX9_guard_68 : decode cX9_guard 68 = .ok (.aload_n 0, 1) := by decide +kernel
theorem dX9_guard_69 : decode cX9_guard 69 = .ok (.iload_n 1, 1) := by decide +kernel
theorem dX9_guard_70 : decode cX9_guard 70 = .ok (.aload_n 0, 1) := by decide +kernel
theorem dX9_guard_71 : decode cX9_guard 71 = .ok (.getfield 9, 3) := by decide +kernel
theorem dX9_guard_74 : decode cX9_guard 74 = .ok (.iconst 3, 1) := by decide +kernel
theorem dX9_guard_75 : decode cX9_guard 75 = .ok (.iaload, 1) := by decide +kernel
theorem dX9_guard_76 : decode cX9_guard 76 = .ok (.invokevirtual 139, 3) := by decide +kernel
theorem dX9_guard_79 : decode cX9_guard 79 = .ok (.ireturn, 1) := by decide +kernel
theorem dX9_guard_80 : decode cX9_guard 80 = .ok (.aload_n 0, 1) := by decide +kernel
theorem dX9_guard_81 : decode cX9_guard 81 = .ok (.iload_n 1, 1) := by decide +kernel
theorem dX9_guard_82 : decode cX9_guard 82 = .ok (.invokevirtual 255, 3) := by decide +kernel
theorem dX9_guard_85 : decode cX9_guard 85 = .ok (.ireturn, 1) := by decide +kernel
theorem dX9_guard_86 : decode cX9_guard 86 = .ok (.aload_n 0, 1) := by decide +kernel
theorem dX9_guard_87 : decode cX9_guard 87 = .ok (.iconst 1, 1) := by decide +kernel
theorem dX9_guard_88 : decode cX9_guard 88 = .ok (.invokevirtual 237, 3) := by decide +kernel
theorem dX9_guard_91 : decode cX9_guard 91 = .ok (.ireturn, 1) := by decide +kernel
set_option maxRecDepth 20000 in
theorem ggX9_walk_X9_isGuard : GoodIn wsX9_walk wsX9_isGuard := goodIn_r _ [6, 7, 8, 9, 5, 10, 11, 12, 13, 14, 30, 31, 32, 33, 34, 35, 36, 37, 38, 39, 40, 41, 42, 43, 44, 45, 46, 47, 48, 49, 50, 51, 52, 53, 54, 55, 56, 57, 58, 59, 60, 61, 62, 63, 64] (by decide +kernel) (by decide +kernel)
set_option maxRecDepth 20000 in
theorem gX9_walk_X9_isGuard : GoodIn wsX9_walk (wsV RX9 252 RX9 yX9_isGuard wsX9_isGuard) := goodIn_app (goodIn_of _ (by decide +kernel)) ggX9_walk_X9_isGuard
set_option maxRecDepth 20000 in
theorem ggX9_walk_X9_raise : GoodIn wsX9_walk wsX9_raise := goodIn_r _ [18, 1, 30, 31, 32, 33, 34, 35, 36, 37, 38, 39, 40, 41, 42, 43, 44, 45, 46, 47, 48, 49, 50, 51, 52, 53, 54, 55, 56, 57, 58, 59, 60, 61, 62, 63, 64] (by decide +kernel) (by decide +kernel)
set_option maxRecDepth 20000 in
theorem gX9_walk_X9_raise : GoodIn wsX9_walk (wsV RX9 237 RX9 yX9_raise wsX9_raise) := goodIn_app (goodIn_of _ (by decide +kernel)) ggX9_walk_X9_raise
set_option maxRecDepth 20000 in
theorem ggX9_walk_X9_period : GoodIn wsX9_walk wsX9_period := goodIn_r _ [22, 11, 23, 24, 5, 25, 30, 31, 32, 33, 34, 35, 36, 37, 38, 39, 40, 41, 42, 43, 44, 45, 46, 47, 48, 49, 50, 51, 52, 53, 54, 55, 56, 57, 58, 59, 60, 61, 62, 63, 64] (by decide +kernel) (by decide +kernel)
set_option maxRecDepth 20000 in
theorem gX9_walk_X9_period : GoodIn wsX9_walk (wsV RX9 126 RX9 yX9_period wsX9_period) := goodIn_app (goodIn_of _ (by decide +kernel)) ggX9_walk_X9_period
set_option maxRecDepth 20000 in
theorem ggX9_walk_X9_inRange : GoodIn wsX9_walk wsX9_inRange := goodIn_r _ [14] (by decide +kernel) (by decide +kernel)
set_option maxRecDepth 20000 in
theorem gX9_walk_X9_inRange : GoodIn wsX9_walk (va_wsS RX9 114 yX9_inRange wsX9_inRange) := goodIn_app (goodIn_of _ (by decide +kernel)) ggX9_walk_X9_inRange
set_option maxRecDepth 20000 in
theorem ggX9_walk_X9_step : GoodIn wsX9_walk wsX9_step := goodIn_r _ [29, 11, 23, 24, 5, 25, 30, 31, 32, 33, 34, 35, 36, 37, 38, 39, 40, 41, 42, 43, 44, 45, 46, 47, 48, 49, 50, 51, 52, 53, 54, 55, 56, 57, 58, 59, 60, 61, 62, 63, 64] (by decide +kernel) (by decide +kernel)
set_option maxRecDepth 20000 in
theorem gX9_walk_X9_step : GoodIn wsX9_walk (wsV RX9 130 RX9 yX9_step wsX9_step) := goodIn_app (goodIn_of _ (by decide +kernel)) ggX9_walk_X9_step
theorem dX9_walk_0 : decode cX9_walk 0 = .ok (.aload_n 0, 1) := by decide +kernel
theorem dX9_walk_1 : decode cX9_walk 1 = .ok (.iconst 0, 1) := by decide +kernel
theorem dX9_walk_2 : decode cX9_walk 2 = .ok (.putfield 97, 3) := by decide +kernel
theorem dX9_walk_5 : decode cX9_walk 5 = .ok (.aload_n 0, 1) := by decide +kernel
theorem dX9_walk_6 : decode cX9_walk 6 = .ok (.iload_n 1, 1) := by decide +kernel
theorem dX9_walk_7 : decode cX9_walk 7 = .ok (.invokevirtual 252, 3) := by decide +kernel
theorem dX9_walk_10 : decode cX9_walk 10 = .ok (.ifCond .ne 9, 3) := by decide +kernel
theorem dX9_walk_13 : decode cX9_walk 13 = .ok (.aload_n 0, 1) := by decide +kernel
theorem dX9_walk_14 : decode cX9_walk 14 = .ok (.iconst 1, 1) := by decide +kernel
theorem dX9_walk_15 : decode cX9_walk 15 = .ok (.invokevirtual 237, 3) := by decide +kernel
theorem dX9_walk_18 : decode cX9_walk 18 = .ok (.ireturn, 1) := by decide +kernel
theorem dX9_walk_19 : decode cX9_walk 19 = .ok (.iload_n 2, 1) := by decide +kernel
theorem dX9_walk_20 : decode cX9_walk 20 = .ok (.iconst 0, 1) := by decide +kernel
theorem dX9_walk_21 : decode cX9_walk 21 = .ok (.aload_n 0, 1) := by decide +kernel
theorem dX9_walk_22 : decode cX9_walk 22 = .ok (.iload_n 1, 1) := by decide +kernel
theorem dX9_walk_23 : decode cX9_walk 23 = .ok (.invokevirtual 126, 3) := by decide +kernel
theorem dX9_walk_26 : decode cX9_walk 26 = .ok (.iconst 1, 1) := by decide +kernel
theorem dX9_walk_27 : decode cX9_walk 27 = .ok (.isub, 1) := by decide +kernel
theorem dX9_walk_28 : decode cX9_walk 28 = .ok (.invokestatic 114, 3) := by decide +kernel
theorem dX9_walk_31 : decode cX9_walk 31 = .ok (.ifCond .eq 12, 3) := by decide +kernel
theorem dX9_walk_34 : decode cX9_walk 34 = .ok (.aload_n 0, 1) := by decide +kernel
theorem dX9_walk_35 : decode cX9_walk 35 = .ok (.iload_n 1, 1) := by decide +kernel
theorem dX9_walk_36 : decode cX9_walk 36 = .ok (.iload_n 2, 1) := by decide +kernel
theorem dX9_walk_37 : decode cX9_walk 37 = .ok (.invokevirtual 130, 3) := by decide +kernel
theorem dX9_walk_40 : decode cX9_walk 40 = .ok (.goto 4, 3) := by decide +kernel
theorem dX9_walk_43 : decode cX9_walk 43 = .ok (.iconst (-1), 1) := by decide +kernel
theorem dX9_walk_44 : decode cX9_walk 44 = .ok (.ireturn, 1) := by decide +kernel
set_option maxRecDepth 20000 in
theorem ggX9_roomOf_X9_isGuard : GoodIn wsX9_roomOf wsX9_isGuard := goodIn_r _ [6, 7, 8, 9, 5, 10, 11, 12, 13, 14, 39, 40, 41, 42, 43, 44, 45, 46, 47, 48, 49, 50, 51, 52, 53, 54, 55, 56, 57, 58, 59, 60, 61, 62, 63, 64, 65, 66, 67, 68, 69, 70, 71, 72, 73] (by decide +kernel) (by decide +kernel)
set_option maxRecDepth 20000 in
theorem gX9_roomOf_X9_isGuard : GoodIn wsX9_roomOf (wsV RX9 252 RX9 yX9_isGuard wsX9_isGuard) := goodIn_app (goodIn_of _ (by decide +kernel)) ggX9_roomOf_X9_isGuard
set_option maxRecDepth 20000 in
theorem ggX9_roomOf_X9_takePhases : GoodIn wsX9_roomOf wsX9_takePhases := goodIn_r _ [18, 19, 7, 8, 9, 5, 10, 11, 20, 21, 22, 23, 24, 25, 26, 39, 40, 41, 42, 43, 44, 45, 46, 47, 48, 49, 50, 51, 52, 53, 54, 55, 56, 57, 58, 59, 60, 61, 62, 63, 64, 65, 66, 67, 68, 69, 70, 71, 72, 73] (by decide +kernel) (by decide +kernel)
set_option maxRecDepth 20000 in
theorem gX9_roomOf_X9_takePhases : GoodIn wsX9_roomOf (wsV RX9 172 RX9 yX9_takePhases wsX9_takePhases) := goodIn_app (goodIn_of _ (by decide +kernel)) ggX9_roomOf_X9_takePhases
set_option maxRecDepth 20000 in
theorem ggX9_roomOf_X9_place : GoodIn wsX9_roomOf wsX9_place := goodIn_r _ [30, 19, 31, 32, 33, 5, 34, 11, 24, 25, 26, 35, 36, 37, 38, 39, 40, 41, 42, 43, 44, 45, 46, 47, 48, 49, 50, 51, 52, 53, 54, 55, 56, 57, 58, 59, 60, 61, 62, 63, 64, 65, 66, 67, 68, 69, 70, 71, 72, 73] (by decide +kernel) (by decide +kernel)
set_option maxRecDepth 20000 in
theorem gX9_roomOf_X9_place : GoodIn wsX9_roomOf (wsV RX9 139 RX9 yX9_place wsX9_place) := goodIn_app (goodIn_of _ (by decide +kernel)) ggX9_roomOf_X9_place
theorem dX9_roomOf_0 : decode cX9_roomOf 0 = .ok (.aload_n 0, 1) := by decide +kernel
theorem dX9_roomOf_1 : decode cX9_roomOf 1 = .ok (.aload_n 0, 1) := by decide +kernel
theorem dX9_roomOf_2 : decode cX9_roomOf 2 = .ok (.iload_n 1, 1) := by decide +kernel
theorem dX9_roomOf_3 : decode cX9_roomOf 3 = .ok (.invokevirtual 252, 3) := by decide +kernel
theorem dX9_roomOf_6 : decode cX9_roomOf 6 = .ok (.ifCond .ne 7, 3) := by decide +kernel
theorem dX9_roomOf_9 : decode cX9_roomOf 9 = .ok (.iconst 1, 1) := by decide +kernel
theorem dX9_roomOf_10 : decode cX9_roomOf 10 = .ok (.goto 12, 3) := by decide +kernel
theorem dX9_roomOf_13 : decode cX9_roomOf 13 = .ok (.iload_n 2, 1) := by decide +kernel
theorem dX9_roomOf_14 : decode cX9_roomOf 14 = .ok (.ifCond .lt 7, 3) := by decide +kernel
theorem dX9_roomOf_17 : decode cX9_roomOf 17 = .ok (.iconst 0, 1) := by decide +kernel
theorem dX9_roomOf_18 : decode cX9_roomOf 18 = .ok (.goto 4, 3) := by decide +kernel
theorem dX9_roomOf_21 : decode cX9_roomOf 21 = .ok (.iconst 2, 1) := by decide +kernel
theorem dX9_roomOf_22 : decode cX9_roomOf 22 = .ok (.putfield 97, 3) := by decide +kernel
theorem dX9_roomOf_25 : decode cX9_roomOf 25 = .ok (.aload_n 0, 1) := by decide +kernel
theorem dX9_roomOf_26 : decode cX9_roomOf 26 = .ok (.getfield 97, 3) := by decide +kernel
theorem dX9_roomOf_29 : decode cX9_roomOf 29 = .ok (.ifCond .eq 5, 3) := by decide +kernel
theorem dX9_roomOf_32 : decode cX9_roomOf 32 = .ok (.iconst 0, 1) := by decide +kernel
theorem dX9_roomOf_33 : decode cX9_roomOf 33 = .ok (.ireturn, 1) := by decide +kernel
theorem dX9_roomOf_34 : decode cX9_roomOf 34 = .ok (.aload_n 0, 1) := by decide +kernel
theorem dX9_roomOf_35 : decode cX9_roomOf 35 = .ok (.invokevirtual 172, 3) := by decide +kernel
theorem dX9_roomOf_38 : decode cX9_roomOf 38 = .ok (.aload_n 0, 1) := by decide +kernel
theorem dX9_roomOf_39 : decode cX9_roomOf 39 = .ok (.iload_n 1, 1) := by decide +kernel
theorem dX9_roomOf_40 : decode cX9_roomOf 40 = .ok (.iload_n 2, 1) := by decide +kernel
theorem dX9_roomOf_41 : decode cX9_roomOf 41 = .ok (.invokevirtual 139, 3) := by decide +kernel
theorem dX9_roomOf_44 : decode cX9_roomOf 44 = .ok (.ireturn, 1) := by decide +kernel
set_option maxRecDepth 20000 in
theorem ggX9_guardsIn_X9_isRoom : GoodIn wsX9_guardsIn wsX9_isRoom := goodIn_r _ [6, 7, 8, 9, 5, 10, 11, 12, 13, 14, 47, 48, 49, 50, 51, 52, 53, 54, 55, 56, 57, 58, 59, 60, 61, 62, 63, 64, 65, 66, 67, 68, 69, 70, 71, 72, 73, 74, 75, 76, 77, 78, 79, 80, 81] (by decide +kernel) (by decide +kernel)
set_option maxRecDepth 20000 in
theorem gX9_guardsIn_X9_isRoom : GoodIn wsX9_guardsIn (wsV RX9 246 RX9 yX9_isRoom wsX9_isRoom) := goodIn_app (goodIn_of _ (by decide +kernel)) ggX9_guardsIn_X9_isRoom
set_option maxRecDepth 20000 in
theorem ggX9_guardsIn_X9_takePhases : GoodIn wsX9_guardsIn wsX9_takePhases := goodIn_r _ [18, 19, 20, 21, 22, 5, 23, 11, 24, 25, 26, 27, 28, 29, 30, 47, 48, 49, 50, 51, 52, 53, 54, 55, 56, 57, 58, 59, 60, 61, 62, 63, 64, 65, 66, 67, 68, 69, 70, 71, 72, 73, 74, 75, 76, 77, 78, 79, 80, 81] (by decide +kernel) (by decide +kernel)
set_option maxRecDepth 20000 in
theorem gX9_guardsIn_X9_takePhases : GoodIn wsX9_guardsIn (wsV RX9 172 RX9 yX9_takePhases wsX9_takePhases) := goodIn_app (goodIn_of _ (by decide +kernel)) ggX9_guardsIn_X9_takePhases
set_option maxRecDepth 20000 in
theorem ggX9_guardsIn_X9_guardsAt : GoodIn wsX9_guardsIn wsX9_guardsAt := goodIn_r _ [34, 20, 21, 22, 5, 23, 11, 35, 36, 37, 38, 19, 39, 40, 41, 42, 28, 29, 30, 43, 44, 45, 46, 47, 48, 49, 50, 51, 52, 53, 54, 55, 56, 57, 58, 59, 60, 61, 62, 63, 64, 65, 66, 67, 68, 69, 70, 71, 72, 73, 74, 75, 76, 77, 78, 79, 80, 81] (by decide +kernel) (by decide +kernel)
set_option maxRecDepth 20000 in
theorem gX9_guardsIn_X9_guardsAt : GoodIn wsX9_guardsIn (wsV RX9 258 RX9 yX9_guardsAt wsX9_guardsAt) := goodIn_app (goodIn_of _ (by decide +kernel)) ggX9_guardsIn_X9_guardsAt
theorem dX9_guardsIn_0 : decode cX9_guardsIn 0 = .ok (.aload_n 0, 1) := by decide +kernel
theorem dX9_guardsIn_1 : decode cX9_guardsIn 1 = .ok (.aload_n 0, 1) := by decide +kernel
theorem dX9_guardsIn_2 : decode cX9_guardsIn 2 = .ok (.iload_n 1, 1) := by decide +kernel
theorem dX9_guardsIn_3 : decode cX9_guardsIn 3 = .ok (.invokevirtual 246, 3) := by decide +kernel
theorem dX9_guardsIn_6 : decode cX9_guardsIn 6 = .ok (.ifCond .ne 7, 3) := by decide +kernel
theorem dX9_guardsIn_9 : decode cX9_guardsIn 9 = .ok (.iconst 1, 1) := by decide +kernel
theorem dX9_guardsIn_10 : decode cX9_guardsIn 10 = .ok (.goto 12, 3) := by decide +kernel
theorem dX9_guardsIn_13 : decode cX9_guardsIn 13 = .ok (.iload_n 2, 1) := by decide +kernel
theorem dX9_guardsIn_14 : decode cX9_guardsIn 14 = .ok (.ifCond .lt 7, 3) := by decide +kernel
theorem dX9_guardsIn_17 : decode cX9_guardsIn 17 = .ok (.iconst 0, 1) := by decide +kernel
theorem dX9_guardsIn_18 : decode cX9_guardsIn 18 = .ok (.goto 4, 3) := by decide +kernel
theorem dX9_guardsIn_21 : decode cX9_guardsIn 21 = .ok (.iconst 2, 1) := by decide +kernel
theorem dX9_guardsIn_22 : decode cX9_guardsIn 22 = .ok (.putfield 97, 3) := by decide +kernel
theorem dX9_guardsIn_25 : decode cX9_guardsIn 25 = .ok (.aload_n 0, 1) := by decide +kernel
theorem dX9_guardsIn_26 : decode cX9_guardsIn 26 = .ok (.getfield 97, 3) := by decide +kernel
theorem dX9_guardsIn_29 : decode cX9_guardsIn 29 = .ok (.ifCond .eq 5, 3) := by decide +kernel
theorem dX9_guardsIn_32 : decode cX9_guardsIn 32 = .ok (.iconst 0, 1) := by decide +kernel
theorem dX9_guardsIn_33 : decode cX9_guardsIn 33 = .ok (.ireturn, 1) := by decide +kernel
theorem dX9_guardsIn_34 : decode cX9_guardsIn 34 = .ok (.aload_n 0, 1) := by decide +kernel
theorem dX9_guardsIn_35 : decode cX9_guardsIn 35 = .ok (.invokevirtual 172, 3) := by decide +kernel
theorem dX9_guardsIn_38 : decode cX9_guardsIn 38 = .ok (.aload_n 0, 1) := by decide +kernel
theorem dX9_guardsIn_39 : decode cX9_guardsIn 39 = .ok (.iload_n 1, 1) := by decide +kernel
theorem dX9_guardsIn_40 : decode cX9_guardsIn 40 = .ok (.iload_n 2, 1) := by decide +kernel
theorem dX9_guardsIn_41 : decode cX9_guardsIn 41 = .ok (.invokevirtual 258, 3) := by decide +kernel
theorem dX9_guardsIn_44 : decode cX9_guardsIn 44 = .ok (.ireturn, 1) := by decide +kernel
set_option maxRecDepth 20000 in
theorem ggX9_isMinute_X9_inRange : GoodIn wsX9_isMinute wsX9_inRange := goodIn_r _ [5] (by decide +kernel) (by decide +kernel)
set_option maxRecDepth 20000 in
theorem gX9_isMinute_X9_inRange : GoodIn wsX9_isMinute (va_wsS RX9 114 yX9_inRange wsX9_inRange) := goodIn_app (goodIn_of _ (by decide +kernel)) ggX9_isMinute_X9_inRange
theorem dX9_isMinute_0 : decode cX9_isMinute 0 = .ok (.iload_n 0, 1) := by decide +kernel
theorem dX9_isMinute_1 : decode cX9_isMinute 1 = .ok (.iconst 0, 1) := by decide +kernel
theorem dX9_isMinute_2 : decode cX9_isMinute 2 = .ok (.ldc_w 261, 3) := by decide +kernel
theorem dX9_isMinute_5 : decode cX9_isMinute 5 = .ok (.invokestatic 114, 3) := by decide +kernel
theorem dX9_isMinute_8 : decode cX9_isMinute 8 = .ok (.ireturn, 1) := by decide +kernel
set_option maxRecDepth 20000 in
theorem ggX9_nextSeen_X9_isRoom : GoodIn wsX9_nextSeen wsX9_isRoom := goodIn_r _ [6, 7, 8, 9, 5, 10, 11, 12, 13, 14, 58, 59, 60, 61, 62, 63, 64, 65, 66, 67, 68, 69, 70, 71, 72, 73, 74, 75, 76, 77, 78, 79, 80, 81, 82, 83, 84, 85, 86, 87, 88, 89, 90, 91, 92] (by decide +kernel) (by decide +kernel)
set_option maxRecDepth 20000 in
theorem gX9_nextSeen_X9_isRoom : GoodIn wsX9_nextSeen (wsV RX9 246 RX9 yX9_isRoom wsX9_isRoom) := goodIn_app (goodIn_of _ (by decide +kernel)) ggX9_nextSeen_X9_isRoom
set_option maxRecDepth 20000 in
theorem ggX9_nextSeen_X9_isMinute : GoodIn wsX9_nextSeen wsX9_isMinute := goodIn_r _ [17, 18, 12, 13, 5, 14] (by decide +kernel) (by decide +kernel)
set_option maxRecDepth 20000 in
theorem gX9_nextSeen_X9_isMinute : GoodIn wsX9_nextSeen (va_wsS RX9 262 yX9_isMinute wsX9_isMinute) := goodIn_app (goodIn_of _ (by decide +kernel)) ggX9_nextSeen_X9_isMinute
set_option maxRecDepth 20000 in
theorem ggX9_nextSeen_X9_takePhases : GoodIn wsX9_nextSeen wsX9_takePhases := goodIn_r _ [22, 23, 24, 25, 26, 5, 27, 11, 28, 29, 30, 31, 32, 33, 34, 58, 59, 60, 61, 62, 63, 64, 65, 66, 67, 68, 69, 70, 71, 72, 73, 74, 75, 76, 77, 78, 79, 80, 81, 82, 83, 84, 85, 86, 87, 88, 89, 90, 91, 92] (by decide +kernel) (by decide +kernel)
set_option maxRecDepth 20000 in
theorem gX9_nextSeen_X9_takePhases : GoodIn wsX9_nextSeen (wsV RX9 172 RX9 yX9_takePhases wsX9_takePhases) := goodIn_app (goodIn_of _ (by decide +kernel)) ggX9_nextSeen_X9_takePhases
set_option maxRecDepth 20000 in
theorem ggX9_nextSeen_X9_cycle : GoodIn wsX9_nextSeen wsX9_cycle := goodIn_r _ [38, 24, 25, 26, 5, 27, 11, 39, 40, 41, 42, 32, 33, 34, 43, 44, 45, 58, 59, 60, 61, 62, 63, 64, 65, 66, 67, 68, 69, 70, 71, 72, 73, 74, 75, 76, 77, 78, 79, 80, 81, 82, 83, 84, 85, 86, 87, 88, 89, 90, 91, 92] (by decide +kernel) (by decide +kernel)
set_option maxRecDepth 20000 in
theorem gX9_nextSeen_X9_cycle : GoodIn wsX9_nextSeen (wsV RX9 154 RX9 yX9_cycle wsX9_cycle) := goodIn_app (goodIn_of _ (by decide +kernel)) ggX9_nextSeen_X9_cycle
set_option maxRecDepth 20000 in
theorem ggX9_nextSeen_X9_guardsAt : GoodIn wsX9_nextSeen wsX9_guardsAt := goodIn_r _ [49, 24, 25, 26, 5, 27, 11, 50, 51, 52, 53, 23, 39, 40, 41, 42, 32, 33, 34, 54, 55, 56, 57, 58, 59, 60, 61, 62, 63, 64, 65, 66, 67, 68, 69, 70, 71, 72, 73, 74, 75, 76, 77, 78, 79, 80, 81, 82, 83, 84, 85, 86, 87, 88, 89, 90, 91, 92] (by decide +kernel) (by decide +kernel)
set_option maxRecDepth 20000 in
theorem gX9_nextSeen_X9_guardsAt : GoodIn wsX9_nextSeen (wsV RX9 258 RX9 yX9_guardsAt wsX9_guardsAt) := goodIn_app (goodIn_of _ (by decide +kernel)) ggX9_nextSeen_X9_guardsAt
theorem dX9_nextSeen_0 : decode cX9_nextSeen 0 = .ok (.aload_n 0, 1) := by decide +kernel
theorem dX9_nextSeen_1 : decode cX9_nextSeen 1 = .ok (.aload_n 0, 1) := by decide +kernel
theorem dX9_nextSeen_2 : decode cX9_nextSeen 2 = .ok (.iload_n 1, 1) := by decide +kernel
theorem dX9_nextSeen_3 : decode cX9_nextSeen 3 = .ok (.invokevirtual 246, 3) := by decide +kernel
theorem dX9_nextSeen_6 : decode cX9_nextSeen 6 = .ok (.ifCond .ne 7, 3) := by decide +kernel
theorem dX9_nextSeen_9 : decode cX9_nextSeen 9 = .ok (.iconst 1, 1) := by decide +kernel
theorem dX9_nextSeen_10 : decode cX9_nextSeen 10 = .ok (.goto 15, 3) := by decide +kernel
theorem dX9_nextSeen_13 : decode cX9_nextSeen 13 = .ok (.iload_n 2, 1) := by decide +kernel
theorem dX9_nextSeen_14 : decode cX9_nextSeen 14 = .ok (.invokestatic 262, 3) := by decide +kernel
theorem dX9_nextSeen_17 : decode cX9_nextSeen 17 = .ok (.ifCond .eq 7, 3) := by decide +kernel
theorem dX9_nextSeen_20 : decode cX9_nextSeen 20 = .ok (.iconst 0, 1) := by decide +kernel
theorem dX9_nextSeen_21 : decode cX9_nextSeen 21 = .ok (.goto 4, 3) := by decide +kernel
theorem dX9_nextSeen_24 : decode cX9_nextSeen 24 = .ok (.iconst 2, 1) := by decide +kernel
theorem dX9_nextSeen_25 : decode cX9_nextSeen 25 = .ok (.putfield 97, 3) := by decide +kernel
theorem dX9_nextSeen_28 : decode cX9_nextSeen 28 = .ok (.aload_n 0, 1) := by decide +kernel
theorem dX9_nextSeen_29 : decode cX9_nextSeen 29 = .ok (.getfield 97, 3) := by decide +kernel
theorem dX9_nextSeen_32 : decode cX9_nextSeen 32 = .ok (.ifCond .eq 5, 3) := by decide +kernel
theorem dX9_nextSeen_35 : decode cX9_nextSeen 35 = .ok (.iconst 0, 1) := by decide +kernel
theorem dX9_nextSeen_36 : decode cX9_nextSeen 36 = .ok (.ireturn, 1) := by decide +kernel
theorem dX9_nextSeen_37 : decode cX9_nextSeen 37 = .ok (.aload_n 0, 1) := by decide +kernel
theorem dX9_nextSeen_38 : decode cX9_nextSeen 38 = .ok (.invokevirtual 172, 3) := by decide +kernel
theorem dX9_nextSeen_41 : decode cX9_nextSeen 41 = .ok (.aload_n 0, 1) := by decide +kernel
theorem dX9_nextSeen_42 : decode cX9_nextSeen 42 = .ok (.invokevirtual 154, 3) := by decide +kernel
theorem dX9_nextSeen_45 : decode cX9_nextSeen 45 = .ok (.istore_n 3, 1) := by decide +kernel
theorem dX9_nextSeen_46 : decode cX9_nextSeen 46 = .ok (.iload_n 2, 1) := by decide +kernel
theorem dX9_nextSeen_47 : decode cX9_nextSeen 47 = .ok (.istore 4, 2) := by decide +kernel
theorem dX9_nextSeen_49 : decode cX9_nextSeen 49 = .ok (.iload 4, 2) := by decide +kernel
theorem dX9_nextSeen_51 : decode cX9_nextSeen 51 = .ok (.iload_n 2, 1) := by decide +kernel
theorem dX9_nextSeen_52 : decode cX9_nextSeen 52 = .ok (.iload_n 3, 1) := by decide +kernel
theorem dX9_nextSeen_53 : decode cX9_nextSeen 53 = .ok (.iadd, 1) := by decide +kernel
theorem dX9_nextSeen_54 : decode cX9_nextSeen 54 = .ok (.if_icmp .ge 22, 3) := by decide +kernel
theorem dX9_nextSeen_57 : decode cX9_nextSeen 57 = .ok (.aload_n 0, 1) := by decide +kernel
theorem dX9_nextSeen_58 : decode cX9_nextSeen 58 = .ok (.iload_n 1, 1) := by decide +kernel
theorem dX9_nextSeen_59 : decode cX9_nextSeen 59 = .ok (.iload 4, 2) := by decide +kernel
theorem dX9_nextSeen_61 : decode cX9_nextSeen 61 = .ok (.invokevirtual 258, 3) := by decide +kernel
theorem dX9_nextSeen_64 : decode cX9_nextSeen 64 = .ok (.ifCond .eq 6, 3) := by decide +kernel
theorem dX9_nextSeen_67 : decode cX9_nextSeen 67 = .ok (.iload 4, 2) := by decide +kernel
theorem dX9_nextSeen_69 : decode cX9_nextSeen 69 = .ok (.ireturn, 1) := by decide +kernel
theorem dX9_nextSeen_70 : decode cX9_nextSeen 70 = .ok (.iinc 4 1, 3) := by decide +kernel
theorem dX9_nextSeen_73 : decode cX9_nextSeen 73 = .ok (.goto (-24), 3) := by decide +kernel
theorem dX9_nextSeen_76 : decode cX9_nextSeen 76 = .ok (.iconst (-1), 1) := by decide +kernel
theorem dX9_nextSeen_77 : decode cX9_nextSeen 77 = .ok (.ireturn, 1) := by decide +kernel
set_option maxRecDepth 20000 in
theorem ggX9_gapFrom_X9_isRoom : GoodIn wsX9_gapFrom wsX9_isRoom := goodIn_r _ [8, 9, 10, 11, 7, 12, 13, 14, 15, 16, 89, 90, 91, 92, 93, 94, 95, 96, 97, 98, 99, 100, 101, 102, 103, 104, 105, 106, 107, 108, 109, 110, 111, 112, 113, 114, 115, 116, 117, 118, 119, 120, 121, 122, 123] (by decide +kernel) (by decide +kernel)
set_option maxRecDepth 20000 in
theorem gX9_gapFrom_X9_isRoom : GoodIn wsX9_gapFrom (wsV RX9 246 RX9 yX9_isRoom wsX9_isRoom) := goodIn_app (goodIn_of _ (by decide +kernel)) ggX9_gapFrom_X9_isRoom
set_option maxRecDepth 20000 in
theorem ggX9_gapFrom_X9_raise : GoodIn wsX9_gapFrom wsX9_raise := goodIn_r _ [20, 1, 89, 90, 91, 92, 93, 94, 95, 96, 97, 98, 99, 100, 101, 102, 103, 104, 105, 106, 107, 108, 109, 110, 111, 112, 113, 114, 115, 116, 117, 118, 119, 120, 121, 122, 123] (by decide +kernel) (by decide +kernel)
set_option maxRecDepth 20000 in
theorem gX9_gapFrom_X9_raise : GoodIn wsX9_gapFrom (wsV RX9 237 RX9 yX9_raise wsX9_raise) := goodIn_app (goodIn_of _ (by decide +kernel)) ggX9_gapFrom_X9_raise
set_option maxRecDepth 20000 in
theorem ggX9_gapFrom_X9_layNow : GoodIn wsX9_gapFrom wsX9_layNow := goodIn_r _ [24, 25, 26, 27, 7, 28, 29, 30, 31, 32, 33, 13, 34, 35, 36, 37, 38, 39, 40, 41, 42, 43, 44, 45, 46, 47, 2, 3, 48, 49, 50, 51, 52, 53, 54, 55, 56, 57, 58, 59, 9, 10, 11, 12, 60, 61, 62, 63, 64, 65, 66, 67, 68, 69, 70, 71, 72, 73, 74, 75, 76, 77, 78, 79, 80, 81, 82, 83, 84, 85, 86, 87, 88, 89, 90, 91, 92, 93, 94, 95, 96, 97, 98, 99, 100, 101, 102, 103, 104, 105, 106, 107, 108, 109, 110, 111, 112, 113, 114, 115, 116, 117, 118, 119, 120, 121, 122, 123] (by decide +kernel) (by decide +kernel)
set_option maxRecDepth 20000 in
theorem gX9_gapFrom_X9_layNow : GoodIn wsX9_gapFrom (wsV RX9 226 RX9 yX9_layNow wsX9_layNow) := goodIn_app (goodIn_of _ (by decide +kernel)) ggX9_gapFrom_X9_layNow
theorem dX9_gapFrom_0 : decode cX9_gapFrom 0 = .ok (.aload_n 0, 1) := by decide +kernel
theorem dX9_gapFrom_1 : decode cX9_gapFrom 1 = .ok (.iconst 0, 1) := by decide +kernel
theorem dX9_gapFrom_2 : decode cX9_gapFrom 2 = .ok (.putfield 97, 3) := by decide +kernel
theorem dX9_gapFrom_5 : decode cX9_gapFrom 5 = .ok (.aload_n 0, 1) := by decide +kernel
theorem dX9_gapFrom_6 : decode cX9_gapFrom 6 = .ok (.iload_n 1, 1) := by decide +kernel
theorem dX9_gapFrom_7 : decode cX9_gapFrom 7 = .ok (.invokevirtual 246, 3) := by decide +kernel
theorem dX9_gapFrom_10 : decode cX9_gapFrom 10 = .ok (.ifCond .ne 9, 3) := by decide +kernel
theorem dX9_gapFrom_13 : decode cX9_gapFrom 13 = .ok (.aload_n 0, 1) := by decide +kernel
theorem dX9_gapFrom_14 : decode cX9_gapFrom 14 = .ok (.iconst 1, 1) := by decide +kernel
theorem dX9_gapFrom_15 : decode cX9_gapFrom 15 = .ok (.invokevirtual 237, 3) := by decide +kernel
theorem dX9_gapFrom_18 : decode cX9_gapFrom 18 = .ok (.ireturn, 1) := by decide +kernel
theorem dX9_gapFrom_19 : decode cX9_gapFrom 19 = .ok (.aload_n 0, 1) := by decide +kernel
theorem dX9_gapFrom_20 : decode cX9_gapFrom 20 = .ok (.invokevirtual 226, 3) := by decide +kernel
theorem dX9_gapFrom_23 : decode cX9_gapFrom 23 = .ok (.aload_n 0, 1) := by decide +kernel
theorem dX9_gapFrom_24 : decode cX9_gapFrom 24 = .ok (.getfield 40, 3) := by decide +kernel
theorem dX9_gapFrom_27 : decode cX9_gapFrom 27 = .ok (.iload_n 1, 1) := by decide +kernel
theorem dX9_gapFrom_28 : decode cX9_gapFrom 28 = .ok (.iaload, 1) := by decide +kernel
theorem dX9_gapFrom_29 : decode cX9_gapFrom 29 = .ok (.ifCond .le 12, 3) := by decide +kernel
theorem dX9_gapFrom_32 : decode cX9_gapFrom 32 = .ok (.aload_n 0, 1) := by decide +kernel
theorem dX9_gapFrom_33 : decode cX9_gapFrom 33 = .ok (.getfield 43, 3) := by decide +kernel
theorem dX9_gapFrom_36 : decode cX9_gapFrom 36 = .ok (.iload_n 1, 1) := by decide +kernel
theorem dX9_gapFrom_37 : decode cX9_gapFrom 37 = .ok (.iaload, 1) := by decide +kernel
theorem dX9_gapFrom_38 : decode cX9_gapFrom 38 = .ok (.goto 4, 3) := by decide +kernel
theorem dX9_gapFrom_41 : decode cX9_gapFrom 41 = .ok (.iconst (-1), 1) := by decide +kernel
theorem dX9_gapFrom_42 : decode cX9_gapFrom 42 = .ok (.ireturn, 1) := by decide +kernel
set_option maxRecDepth 20000 in
theorem ggX9_isJoined_X9_isRoom : GoodIn wsX9_isJoined wsX9_isRoom := goodIn_r _ [6, 7, 8, 9, 5, 10, 11, 12, 13, 14, 30, 31, 32, 33, 34, 35, 36, 37, 38, 39, 40, 41, 42, 43, 44, 45, 46, 47, 48, 49, 50, 51, 52, 53, 54, 55, 56, 57, 58, 59, 60, 61, 62, 63, 64] (by decide +kernel) (by decide +kernel)
set_option maxRecDepth 20000 in
theorem gX9_isJoined_X9_isRoom : GoodIn wsX9_isJoined (wsV RX9 246 RX9 yX9_isRoom wsX9_isRoom) := goodIn_app (goodIn_of _ (by decide +kernel)) ggX9_isJoined_X9_isRoom
set_option maxRecDepth 20000 in
theorem ggX9_isJoined_X9_openBetween : GoodIn wsX9_isJoined wsX9_openBetween := goodIn_r _ [18, 11, 19, 20, 21, 5, 22, 23, 24, 25, 26, 27, 28, 29, 30, 31, 32, 33, 34, 35, 36, 37, 38, 39, 40, 41, 42, 43, 44, 45, 46, 47, 48, 49, 50, 51, 52, 53, 54, 55, 56, 57, 58, 59, 60, 61, 62, 63, 64] (by decide +kernel) (by decide +kernel)
set_option maxRecDepth 20000 in
theorem gX9_isJoined_X9_openBetween : GoodIn wsX9_isJoined (wsV RX9 265 RX9 yX9_openBetween wsX9_openBetween) := goodIn_app (goodIn_of _ (by decide +kernel)) ggX9_isJoined_X9_openBetween
theorem dX9_isJoined_0 : decode cX9_isJoined 0 = .ok (.aload_n 0, 1) := by decide +kernel
theorem dX9_isJoined_1 : decode cX9_isJoined 1 = .ok (.aload_n 0, 1) := by decide +kernel
theorem dX9_isJoined_2 : decode cX9_isJoined 2 = .ok (.iload_n 1, 1) := by decide +kernel
theorem dX9_isJoined_3 : decode cX9_isJoined 3 = .ok (.invokevirtual 246, 3) := by decide +kernel
theorem dX9_isJoined_6 : decode cX9_isJoined 6 = .ok (.ifCond .eq 15, 3) := by decide +kernel
theorem dX9_isJoined_9 : decode cX9_isJoined 9 = .ok (.aload_n 0, 1) := by decide +kernel
theorem dX9_isJoined_10 : decode cX9_isJoined 10 = .ok (.iload_n 2, 1) := by decide +kernel
theorem dX9_isJoined_11 : decode cX9_isJoined 11 = .ok (.invokevirtual 246, 3) := by decide +kernel
theorem dX9_isJoined_14 : decode cX9_isJoined 14 = .ok (.ifCond .eq 7, 3) := by decide +kernel
theorem dX9_isJoined_17 : decode cX9_isJoined 17 = .ok (.iconst 0, 1) := by decide +kernel
theorem dX9_isJoined_18 : decode cX9_isJoined 18 = .ok (.goto 4, 3) := by decide +kernel
theorem dX9_isJoined_21 : decode cX9_isJoined 21 = .ok (.iconst 1, 1) := by decide +kernel
theorem dX9_isJoined_22 : decode cX9_isJoined 22 = .ok (.putfield 97, 3) := by decide +kernel
theorem dX9_isJoined_25 : decode cX9_isJoined 25 = .ok (.aload_n 0, 1) := by decide +kernel
theorem dX9_isJoined_26 : decode cX9_isJoined 26 = .ok (.getfield 97, 3) := by decide +kernel
theorem dX9_isJoined_29 : decode cX9_isJoined 29 = .ok (.ifCond .ne 16, 3) := by decide +kernel
theorem dX9_isJoined_32 : decode cX9_isJoined 32 = .ok (.aload_n 0, 1) := by decide +kernel
theorem dX9_isJoined_33 : decode cX9_isJoined 33 = .ok (.iload_n 1, 1) := by decide +kernel
theorem dX9_isJoined_34 : decode cX9_isJoined 34 = .ok (.iload_n 2, 1) := by decide +kernel
theorem dX9_isJoined_35 : decode cX9_isJoined 35 = .ok (.invokevirtual 265, 3) := by decide +kernel
theorem dX9_isJoined_38 : decode cX9_isJoined 38 = .ok (.ifCond .le 7, 3) := by decide +kernel
theorem dX9_isJoined_41 : decode cX9_isJoined 41 = .ok (.iconst 1, 1) := by decide +kernel
theorem dX9_isJoined_42 : decode cX9_isJoined 42 = .ok (.goto 4, 3) := by decide +kernel
theorem dX9_isJoined_45 : decode cX9_isJoined 45 = .ok (.iconst 0, 1) := by decide +kernel
theorem dX9_isJoined_46 : decode cX9_isJoined 46 = .ok (.ireturn, 1) := by decide +kernel
set_option maxRecDepth 20000 in
theorem ggX9_distance_X9_isRoom : GoodIn wsX9_distance wsX9_isRoom := goodIn_r _ [7, 8, 9, 10, 6, 11, 12, 13, 14, 15, 34, 35, 36, 37, 38, 39, 40, 41, 42, 43, 44, 45, 46, 47, 48, 49, 50, 51, 52, 53, 54, 55, 56, 57, 58, 59, 60, 61, 62, 63, 64, 65, 66, 67, 68] (by decide +kernel) (by decide +kernel)
set_option maxRecDepth 20000 in
theorem gX9_distance_X9_isRoom : GoodIn wsX9_distance (wsV RX9 246 RX9 yX9_isRoom wsX9_isRoom) := goodIn_app (goodIn_of _ (by decide +kernel)) ggX9_distance_X9_isRoom
set_option maxRecDepth 20000 in
theorem ggX9_distance_X9_raise : GoodIn wsX9_distance wsX9_raise := goodIn_r _ [19, 1, 34, 35, 36, 37, 38, 39, 40, 41, 42, 43, 44, 45, 46, 47, 48, 49, 50, 51, 52, 53, 54, 55, 56, 57, 58, 59, 60, 61, 62, 63, 64, 65, 66, 67, 68] (by decide +kernel) (by decide +kernel)
set_option maxRecDepth 20000 in
theorem gX9_distance_X9_raise : GoodIn wsX9_distance (wsV RX9 237 RX9 yX9_raise wsX9_raise) := goodIn_app (goodIn_of _ (by decide +kernel)) ggX9_distance_X9_raise
set_option maxRecDepth 20000 in
theorem ggX9_distance_X9_layJoined : GoodIn wsX9_distance wsX9_layJoined := goodIn_r _ [23, 2, 12, 8, 9, 10, 6, 11, 24, 25, 26, 27, 28, 29, 30, 34, 35, 36, 37, 38, 39, 40, 41, 42, 43, 44, 45, 46, 47, 48, 49, 50, 51, 52, 53, 54, 55, 56, 57, 58, 59, 60, 61, 62, 63, 64, 65, 66, 67, 68] (by decide +kernel) (by decide +kernel)
set_option maxRecDepth 20000 in
theorem gX9_distance_X9_layJoined : GoodIn wsX9_distance (wsV RX9 223 RX9 yX9_layJoined wsX9_layJoined) := goodIn_app (goodIn_of _ (by decide +kernel)) ggX9_distance_X9_layJoined
set_option maxRecDepth 20000 in
theorem ggX9_distance_X9_rooms : GoodIn wsX9_distance wsX9_rooms := goodIn_r _ [11, 12, 34, 35, 36, 37, 38, 39, 40, 41, 42, 43, 44, 45, 46, 47, 48, 49, 50, 51, 52, 53, 54, 55, 56, 57, 58, 59, 60, 61, 62, 63, 64, 65, 66, 67, 68] (by decide +kernel) (by decide +kernel)
set_option maxRecDepth 20000 in
theorem gX9_distance_X9_rooms : GoodIn wsX9_distance (wsV RX9 110 RX9 yX9_rooms wsX9_rooms) := goodIn_app (goodIn_of _ (by decide +kernel)) ggX9_distance_X9_rooms
set_option maxRecDepth 20000 in
theorem ggX9_distance_X9_has : GoodIn wsX9_distance wsX9_has := goodIn_r _ [33] (by decide +kernel) (by decide +kernel)
set_option maxRecDepth 20000 in
theorem gX9_distance_X9_has : GoodIn wsX9_distance (va_wsS RX9 216 yX9_has wsX9_has) := goodIn_app (goodIn_of _ (by decide +kernel)) ggX9_distance_X9_has
theorem dX9_distance_0 : decode cX9_distance 0 = .ok (.aload_n 0, 1) := by decide +kernel
theorem dX9_distance_1 : decode cX9_distance 1 = .ok (.iconst 0, 1) := by decide +kernel
theorem dX9_distance_2 : decode cX9_distance 2 = .ok (.putfield 97, 3) := by decide +kernel
theorem dX9_distance_5 : decode cX9_distance 5 = .ok (.aload_n 0, 1) := by decide +kernel
theorem dX9_distance_6 : decode cX9_distance 6 = .ok (.iload_n 1, 1) := by decide +kernel
theorem dX9_distance_7 : decode cX9_distance 7 = .ok (.invokevirtual 246, 3) := by decide +kernel
theorem dX9_distance_10 : decode cX9_distance 10 = .ok (.ifCond .eq 11, 3) := by decide +kernel
theorem dX9_distance_13 : decode cX9_distance 13 = .ok (.aload_n 0, 1) := by decide +kernel
theorem dX9_distance_14 : decode cX9_distance 14 = .ok (.iload_n 2, 1) := by decide +kernel
theorem dX9_distance_15 : decode cX9_distance 15 = .ok (.invokevirtual 246, 3) := by decide +kernel
theorem dX9_distance_18 : decode cX9_distance 18 = .ok (.ifCond .ne 9, 3) := by decide +kernel
theorem dX9_distance_21 : decode cX9_distance 21 = .ok (.aload_n 0, 1) := by decide +kernel
theorem dX9_distance_22 : decode cX9_distance 22 = .ok (.iconst 1, 1) := by decide +kernel
theorem dX9_distance_23 : decode cX9_distance 23 = .ok (.invokevirtual 237, 3) := by decide +kernel
theorem dX9_distance_26 : decode cX9_distance 26 = .ok (.ireturn, 1) := by decide +kernel
theorem dX9_distance_27 : decode cX9_distance 27 = .ok (.aload_n 0, 1) := by decide +kernel
theorem dX9_distance_28 : decode cX9_distance 28 = .ok (.invokevirtual 223, 3) := by decide +kernel
theorem dX9_distance_31 : decode cX9_distance 31 = .ok (.iconst 1, 1) := by decide +kernel
theorem dX9_distance_32 : decode cX9_distance 32 = .ok (.iload_n 1, 1) := by decide +kernel
theorem dX9_distance_33 : decode cX9_distance 33 = .ok (.ishl, 1) := by decide +kernel
theorem dX9_distance_34 : decode cX9_distance 34 = .ok (.istore_n 3, 1) := by decide +kernel
theorem dX9_distance_35 : decode cX9_distance 35 = .ok (.iconst 0, 1) := by decide +kernel
theorem dX9_distance_36 : decode cX9_distance 36 = .ok (.istore 4, 2) := by decide +kernel
theorem dX9_distance_38 : decode cX9_distance 38 = .ok (.iload 4, 2) := by decide +kernel
theorem dX9_distance_40 : decode cX9_distance 40 = .ok (.aload_n 0, 1) := by decide +kernel
theorem dX9_distance_41 : decode cX9_distance 41 = .ok (.invokevirtual 110, 3) := by decide +kernel
theorem dX9_distance_44 : decode cX9_distance 44 = .ok (.if_icmp .ge 69, 3) := by decide +kernel
theorem dX9_distance_47 : decode cX9_distance 47 = .ok (.iload_n 3, 1) := by decide +kernel
theorem dX9_distance_48 : decode cX9_distance 48 = .ok (.iload_n 2, 1) := by decide +kernel
theorem dX9_distance_49 : decode cX9_distance 49 = .ok (.invokestatic 216, 3) := by decide +kernel
theorem dX9_distance_52 : decode cX9_distance 52 = .ok (.ifCond .eq 6, 3) := by decide +kernel
theorem dX9_distance_55 : decode cX9_distance 55 = .ok (.iload 4, 2) := by decide +kernel
theorem dX9_distance_57 : decode cX9_distance 57 = .ok (.ireturn, 1) := by decide +kernel
theorem dX9_distance_58 : decode cX9_distance 58 = .ok (.iload_n 3, 1) := by decide +kernel
theorem dX9_distance_59 : decode cX9_distance 59 = .ok (.istore 5, 2) := by decide +kernel
theorem dX9_distance_61 : decode cX9_distance 61 = .ok (.iconst 0, 1) := by decide +kernel
theorem dX9_distance_62 : decode cX9_distance 62 = .ok (.istore 6, 2) := by decide +kernel
theorem dX9_distance_64 : decode cX9_distance 64 = .ok (.iload 6, 2) := by decide +kernel
theorem dX9_distance_66 : decode cX9_distance 66 = .ok (.aload_n 0, 1) := by decide +kernel
theorem dX9_distance_67 : decode cX9_distance 67 = .ok (.invokevirtual 110, 3) := by decide +kernel
theorem dX9_distance_70 : decode cX9_distance 70 = .ok (.if_icmp .ge 34, 3) := by decide +kernel
theorem dX9_distance_73 : decode cX9_distance 73 = .ok (.iload 5, 2) := by decide +kernel
theorem dX9_distance_75 : decode cX9_distance 75 = .ok (.iload_n 3, 1) := by decide +kernel
theorem dX9_distance_76 : decode cX9_distance 76 = .ok (.iload 6, 2) := by decide +kernel
theorem dX9_distance_78 : decode cX9_distance 78 = .ok (.invokestatic 216, 3) := by decide +kernel
theorem dX9_distance_81 : decode cX9_distance 81 = .ok (.ifCond .eq 13, 3) := by decide +kernel
theorem dX9_distance_84 : decode cX9_distance 84 = .ok (.aload_n 0, 1) := by decide +kernel
theorem dX9_distance_85 : decode cX9_distance 85 = .ok (.getfield 25, 3) := by decide +kernel
theorem dX9_distance_88 : decode cX9_distance 88 = .ok (.iload 6, 2) := by decide +kernel
theorem dX9_distance_90 : decode cX9_distance 90 = .ok (.iaload, 1) := by decide +kernel
theorem dX9_distance_91 : decode cX9_distance 91 = .ok (.goto 4, 3) := by decide +kernel
theorem dX9_distance_94 : decode cX9_distance 94 = .ok (.iconst 0, 1) := by decide +kernel
theorem dX9_distance_95 : decode cX9_distance 95 = .ok (.ior, 1) := by decide +kernel
theorem dX9_distance_96 : decode cX9_distance 96 = .ok (.istore 5, 2) := by decide +kernel
theorem dX9_distance_98 : decode cX9_distance 98 = .ok (.iinc 6 1, 3) := by decide +kernel
theorem dX9_distance_101 : decode cX9_distance 101 = .ok (.goto (-37), 3) := by decide +kernel
theorem dX9_distance_104 : decode cX9_distance 104 = .ok (.iload 5, 2) := by decide +kernel
theorem dX9_distance_106 : decode cX9_distance 106 = .ok (.istore_n 3, 1) := by decide +kernel
theorem dX9_distance_107 : decode cX9_distance 107 = .ok (.iinc 4 1, 3) := by decide +kernel
theorem dX9_distance_110 : decode cX9_distance 110 = .ok (.goto (-72), 3) := by decide +kernel
theorem dX9_distance_113 : decode cX9_distance 113 = .ok (.iconst (-1), 1) := by decide +kernel
theorem dX9_distance_114 : decode cX9_distance 114 = .ok (.ireturn, 1) := by decide +kernel
set_option maxRecDepth 20000 in
theorem ggX9_arePair_X9_isGuard : GoodIn wsX9_arePair wsX9_isGuard := goodIn_r _ [7, 8, 9, 10, 6, 11, 12, 13, 14, 15, 39, 40, 41, 42, 43, 44, 45, 46, 47, 48, 49, 50, 51, 52, 53, 54, 55, 56, 57, 58, 59, 60, 61, 62, 63, 64, 65, 66, 67, 68, 69, 70, 71, 72, 73] (by decide +kernel) (by decide +kernel)
set_option maxRecDepth 20000 in
theorem gX9_arePair_X9_isGuard : GoodIn wsX9_arePair (wsV RX9 252 RX9 yX9_isGuard wsX9_isGuard) := goodIn_app (goodIn_of _ (by decide +kernel)) ggX9_arePair_X9_isGuard
set_option maxRecDepth 20000 in
theorem ggX9_arePair_X9_takePhases : GoodIn wsX9_arePair wsX9_takePhases := goodIn_r _ [19, 20, 8, 9, 10, 6, 11, 12, 21, 22, 23, 24, 25, 26, 27, 39, 40, 41, 42, 43, 44, 45, 46, 47, 48, 49, 50, 51, 52, 53, 54, 55, 56, 57, 58, 59, 60, 61, 62, 63, 64, 65, 66, 67, 68, 69, 70, 71, 72, 73] (by decide +kernel) (by decide +kernel)
set_option maxRecDepth 20000 in
theorem gX9_arePair_X9_takePhases : GoodIn wsX9_arePair (wsV RX9 172 RX9 yX9_takePhases wsX9_takePhases) := goodIn_app (goodIn_of _ (by decide +kernel)) ggX9_arePair_X9_takePhases
set_option maxRecDepth 20000 in
theorem ggX9_arePair_X9_cycle : GoodIn wsX9_arePair wsX9_cycle := goodIn_r _ [31, 8, 9, 10, 6, 11, 12, 32, 33, 34, 35, 25, 26, 27, 36, 37, 38, 39, 40, 41, 42, 43, 44, 45, 46, 47, 48, 49, 50, 51, 52, 53, 54, 55, 56, 57, 58, 59, 60, 61, 62, 63, 64, 65, 66, 67, 68, 69, 70, 71, 72, 73] (by decide +kernel) (by decide +kernel)
set_option maxRecDepth 20000 in
theorem gX9_arePair_X9_cycle : GoodIn wsX9_arePair (wsV RX9 154 RX9 yX9_cycle wsX9_cycle) := goodIn_app (goodIn_of _ (by decide +kernel)) ggX9_arePair_X9_cycle
theorem dX9_arePair_0 : decode cX9_arePair 0 = .ok (.aload_n 0, 1) := by decide +kernel
theorem dX9_arePair_1 : decode cX9_arePair 1 = .ok (.aload_n 0, 1) := by decide +kernel
theorem dX9_arePair_2 : decode cX9_arePair 2 = .ok (.iload_n 1, 1) := by decide +kernel
theorem dX9_arePair_3 : decode cX9_arePair 3 = .ok (.invokevirtual 252, 3) := by decide +kernel
theorem dX9_arePair_6 : decode cX9_arePair 6 = .ok (.ifCond .eq 15, 3) := by decide +kernel
theorem dX9_arePair_9 : decode cX9_arePair 9 = .ok (.aload_n 0, 1) := by decide +kernel
theorem dX9_arePair_10 : decode cX9_arePair 10 = .ok (.iload_n 2, 1) := by decide +kernel
theorem dX9_arePair_11 : decode cX9_arePair 11 = .ok (.invokevirtual 252, 3) := by decide +kernel
theorem dX9_arePair_14 : decode cX9_arePair 14 = .ok (.ifCond .eq 7, 3) := by decide +kernel
theorem dX9_arePair_17 : decode cX9_arePair 17 = .ok (.iconst 0, 1) := by decide +kernel
theorem dX9_arePair_18 : decode cX9_arePair 18 = .ok (.goto 4, 3) := by decide +kernel
theorem dX9_arePair_21 : decode cX9_arePair 21 = .ok (.iconst 1, 1) := by decide +kernel
theorem dX9_arePair_22 : decode cX9_arePair 22 = .ok (.putfield 97, 3) := by decide +kernel
theorem dX9_arePair_25 : decode cX9_arePair 25 = .ok (.aload_n 0, 1) := by decide +kernel
theorem dX9_arePair_26 : decode cX9_arePair 26 = .ok (.invokevirtual 172, 3) := by decide +kernel
theorem dX9_arePair_29 : decode cX9_arePair 29 = .ok (.aload_n 0, 1) := by decide +kernel
theorem dX9_arePair_30 : decode cX9_arePair 30 = .ok (.aload_n 0, 1) := by decide +kernel
theorem dX9_arePair_31 : decode cX9_arePair 31 = .ok (.invokevirtual 154, 3) := by decide +kernel
theorem dX9_arePair_34 : decode cX9_arePair 34 = .ok (.putfield 157, 3) := by decide +kernel
theorem dX9_arePair_37 : decode cX9_arePair 37 = .ok (.aload_n 0, 1) := by decide +kernel
theorem dX9_arePair_38 : decode cX9_arePair 38 = .ok (.getfield 97, 3) := by decide +kernel
theorem dX9_arePair_41 : decode cX9_arePair 41 = .ok (.ifCond .ne 12, 3) := by decide +kernel
theorem dX9_arePair_44 : decode cX9_arePair 44 = .ok (.iload_n 1, 1) := by decide +kernel
theorem dX9_arePair_45 : decode cX9_arePair 45 = .ok (.iload_n 2, 1) := by decide +kernel
theorem dX9_arePair_46 : decode cX9_arePair 46 = .ok (.if_icmp .eq 7, 3) := by decide +kernel
theorem dX9_arePair_49 : decode cX9_arePair 49 = .ok (.iconst 1, 1) := by decide +kernel
theorem dX9_arePair_50 : decode cX9_arePair 50 = .ok (.goto 4, 3) := by decide +kernel
theorem dX9_arePair_53 : decode cX9_arePair 53 = .ok (.iconst 0, 1) := by decide +kernel
theorem dX9_arePair_54 : decode cX9_arePair 54 = .ok (.ireturn, 1) := by decide +kernel
set_option maxRecDepth 20000 in
theorem ggX9_meetings_X9_arePair : GoodIn wsX9_meetings wsX9_arePair := goodIn_r _ [5, 6, 7, 8, 9, 10, 4, 11, 12, 13, 14, 15, 16, 17, 18, 19, 20, 21, 22, 23, 24, 25, 26, 27, 28, 29, 30, 31, 32, 33, 34, 35, 36, 37, 38, 39, 40, 41, 42, 59, 60, 61, 62, 63, 64, 65, 66, 67, 68, 69, 70, 71, 72, 73, 74, 75, 76, 77, 78, 79, 80, 81, 82, 83, 84, 85, 86, 87, 88, 89, 90, 91, 92, 93] (by decide +kernel) (by decide +kernel)
set_option maxRecDepth 20000 in
theorem gX9_meetings_X9_arePair : GoodIn wsX9_meetings (wsV RX9 268 RX9 yX9_arePair wsX9_arePair) := goodIn_app (goodIn_of _ (by decide +kernel)) ggX9_meetings_X9_arePair
set_option maxRecDepth 20000 in
theorem ggX9_meetings_X9_meetingsOf : GoodIn wsX9_meetings wsX9_meetingsOf := goodIn_r _ [46, 7, 47, 48, 49, 4, 50, 51, 52, 53, 54, 24, 36, 37, 38, 39, 16, 29, 30, 31, 55, 56, 57, 58, 59, 60, 61, 62, 63, 64, 65, 66, 67, 68, 69, 70, 71, 72, 73, 74, 75, 76, 77, 78, 79, 80, 81, 82, 83, 84, 85, 86, 87, 88, 89, 90, 91, 92, 93] (by decide +kernel) (by decide +kernel)
set_option maxRecDepth 20000 in
theorem gX9_meetings_X9_meetingsOf : GoodIn wsX9_meetings (wsV RX9 191 RX9 yX9_meetingsOf wsX9_meetingsOf) := goodIn_app (goodIn_of _ (by decide +kernel)) ggX9_meetings_X9_meetingsOf
theorem dX9_meetings_0 : decode cX9_meetings 0 = .ok (.aload_n 0, 1) := by decide +kernel
theorem dX9_meetings_1 : decode cX9_meetings 1 = .ok (.iload_n 1, 1) := by decide +kernel
theorem dX9_meetings_2 : decode cX9_meetings 2 = .ok (.iload_n 2, 1) := by decide +kernel
theorem dX9_meetings_3 : decode cX9_meetings 3 = .ok (.invokevirtual 268, 3) := by decide +kernel
theorem dX9_meetings_6 : decode cX9_meetings 6 = .ok (.ifCond .eq 12, 3) := by decide +kernel
theorem dX9_meetings_9 : decode cX9_meetings 9 = .ok (.aload_n 0, 1) := by decide +kernel
theorem dX9_meetings_10 : decode cX9_meetings 10 = .ok (.iload_n 1, 1) := by decide +kernel
theorem dX9_meetings_11 : decode cX9_meetings 11 = .ok (.iload_n 2, 1) := by decide +kernel
theorem dX9_meetings_12 : decode cX9_meetings 12 = .ok (.invokevirtual 191, 3) := by decide +kernel
theorem dX9_meetings_15 : decode cX9_meetings 15 = .ok (.goto 4, 3) := by decide +kernel
theorem dX9_meetings_18 : decode cX9_meetings 18 = .ok (.iconst 0, 1) := by decide +kernel
theorem dX9_meetings_19 : decode cX9_meetings 19 = .ok (.ireturn, 1) := by decide +kernel
set_option maxRecDepth 20000 in
theorem ggX9_passings_X9_arePair : GoodIn wsX9_passings wsX9_arePair := goodIn_r _ [5, 6, 7, 8, 9, 10, 4, 11, 12, 13, 14, 15, 16, 17, 18, 19, 20, 21, 22, 23, 24, 25, 26, 27, 28, 29, 30, 31, 32, 33, 34, 35, 36, 37, 38, 39, 40, 41, 42, 63, 64, 65, 66, 67, 68, 69, 70, 71, 72, 73, 74, 75, 76, 77, 78, 79, 80, 81, 82, 83, 84, 85, 86, 87, 88, 89, 90, 91, 92, 93, 94, 95, 96, 97] (by decide +kernel) (by decide +kernel)
set_option maxRecDepth 20000 in
theorem gX9_passings_X9_arePair : GoodIn wsX9_passings (wsV RX9 268 RX9 yX9_arePair wsX9_arePair) := goodIn_app (goodIn_of _ (by decide +kernel)) ggX9_passings_X9_arePair
set_option maxRecDepth 20000 in
theorem ggX9_passings_X9_passingsOf : GoodIn wsX9_passings wsX9_passingsOf := goodIn_r _ [46, 7, 47, 48, 49, 4, 50, 51, 52, 53, 54, 24, 36, 37, 38, 39, 16, 29, 30, 31, 55, 56, 57, 58, 59, 60, 61, 62, 63, 64, 65, 66, 67, 68, 69, 70, 71, 72, 73, 74, 75, 76, 77, 78, 79, 80, 81, 82, 83, 84, 85, 86, 87, 88, 89, 90, 91, 92, 93, 94, 95, 96, 97] (by decide +kernel) (by decide +kernel)
set_option maxRecDepth 20000 in
theorem gX9_passings_X9_passingsOf : GoodIn wsX9_passings (wsV RX9 194 RX9 yX9_passingsOf wsX9_passingsOf) := goodIn_app (goodIn_of _ (by decide +kernel)) ggX9_passings_X9_passingsOf
theorem dX9_passings_0 : decode cX9_passings 0 = .ok (.aload_n 0, 1) := by decide +kernel
theorem dX9_passings_1 : decode cX9_passings 1 = .ok (.iload_n 1, 1) := by decide +kernel
theorem dX9_passings_2 : decode cX9_passings 2 = .ok (.iload_n 2, 1) := by decide +kernel
theorem dX9_passings_3 : decode cX9_passings 3 = .ok (.invokevirtual 268, 3) := by decide +kernel
theorem dX9_passings_6 : decode cX9_passings 6 = .ok (.ifCond .eq 12, 3) := by decide +kernel
theorem dX9_passings_9 : decode cX9_passings 9 = .ok (.aload_n 0, 1) := by decide +kernel
theorem dX9_passings_10 : decode cX9_passings 10 = .ok (.iload_n 1, 1) := by decide +kernel
theorem dX9_passings_11 : decode cX9_passings 11 = .ok (.iload_n 2, 1) := by decide +kernel
theorem dX9_passings_12 : decode cX9_passings 12 = .ok (.invokevirtual 194, 3) := by decide +kernel
theorem dX9_passings_15 : decode cX9_passings 15 = .ok (.goto 4, 3) := by decide +kernel
theorem dX9_passings_18 : decode cX9_passings 18 = .ok (.iconst 0, 1) := by decide +kernel
theorem dX9_passings_19 : decode cX9_passings 19 = .ok (.ireturn, 1) := by decide +kernel
set_option maxRecDepth 20000 in
theorem ggX9_nextMeeting_X9_arePair : GoodIn wsX9_nextMeeting wsX9_arePair := goodIn_r _ [7, 1, 2, 8, 9, 10, 6, 11, 12, 13, 14, 15, 16, 17, 18, 19, 20, 21, 22, 23, 24, 25, 26, 27, 28, 29, 30, 31, 32, 33, 34, 35, 36, 37, 38, 39, 40, 41, 42, 59, 60, 61, 62, 63, 64, 65, 66, 67, 68, 69, 70, 71, 72, 73, 74, 75, 76, 77, 78, 79, 80, 81, 82, 83, 84, 85, 86, 87, 88, 89, 90, 91, 92, 93] (by decide +kernel) (by decide +kernel)
set_option maxRecDepth 20000 in
theorem gX9_nextMeeting_X9_arePair : GoodIn wsX9_nextMeeting (wsV RX9 268 RX9 yX9_arePair wsX9_arePair) := goodIn_app (goodIn_of _ (by decide +kernel)) ggX9_nextMeeting_X9_arePair
set_option maxRecDepth 20000 in
theorem ggX9_nextMeeting_X9_isMinute : GoodIn wsX9_nextMeeting wsX9_isMinute := goodIn_r _ [45, 46, 17, 18, 6, 19] (by decide +kernel) (by decide +kernel)
set_option maxRecDepth 20000 in
theorem gX9_nextMeeting_X9_isMinute : GoodIn wsX9_nextMeeting (va_wsS RX9 262 yX9_isMinute wsX9_isMinute) := goodIn_app (goodIn_of _ (by decide +kernel)) ggX9_nextMeeting_X9_isMinute
set_option maxRecDepth 20000 in
theorem ggX9_nextMeeting_X9_meet : GoodIn wsX9_nextMeeting wsX9_meet := goodIn_r _ [50, 51, 52, 53, 6, 54, 24, 36, 37, 38, 39, 16, 29, 30, 31, 55, 56, 57, 58, 59, 60, 61, 62, 63, 64, 65, 66, 67, 68, 69, 70, 71, 72, 73, 74, 75, 76, 77, 78, 79, 80, 81, 82, 83, 84, 85, 86, 87, 88, 89, 90, 91, 92, 93] (by decide +kernel) (by decide +kernel)
set_option maxRecDepth 20000 in
theorem gX9_nextMeeting_X9_meet : GoodIn wsX9_nextMeeting (wsV RX9 185 RX9 yX9_meet wsX9_meet) := goodIn_app (goodIn_of _ (by decide +kernel)) ggX9_nextMeeting_X9_meet
theorem dX9_nextMeeting_0 : decode cX9_nextMeeting 0 = .ok (.aload_n 0, 1) := by decide +kernel
theorem dX9_nextMeeting_1 : decode cX9_nextMeeting 1 = .ok (.iload_n 1, 1) := by decide +kernel
theorem dX9_nextMeeting_2 : decode cX9_nextMeeting 2 = .ok (.iload_n 2, 1) := by decide +kernel
theorem dX9_nextMeeting_3 : decode cX9_nextMeeting 3 = .ok (.invokevirtual 268, 3) := by decide +kernel
theorem dX9_nextMeeting_6 : decode cX9_nextMeeting 6 = .ok (.istore 4, 2) := by decide +kernel
theorem dX9_nextMeeting_8 : decode cX9_nextMeeting 8 = .ok (.aload_n 0, 1) := by decide +kernel
theorem dX9_nextMeeting_9 : decode cX9_nextMeeting 9 = .ok (.aload_n 0, 1) := by decide +kernel
theorem dX9_nextMeeting_10 : decode cX9_nextMeeting 10 = .ok (.getfield 97, 3) := by decide +kernel
theorem dX9_nextMeeting_13 : decode cX9_nextMeeting 13 = .ok (.ifCond .eq 7, 3) := by decide +kernel
theorem dX9_nextMeeting_16 : decode cX9_nextMeeting 16 = .ok (.iconst 1, 1) := by decide +kernel
theorem dX9_nextMeeting_17 : decode cX9_nextMeeting 17 = .ok (.goto 15, 3) := by decide +kernel
theorem dX9_nextMeeting_20 : decode cX9_nextMeeting 20 = .ok (.iload_n 3, 1) := by decide +kernel
theorem dX9_nextMeeting_21 : decode cX9_nextMeeting 21 = .ok (.invokestatic 262, 3) := by decide +kernel
theorem dX9_nextMeeting_24 : decode cX9_nextMeeting 24 = .ok (.ifCond .eq 7, 3) := by decide +kernel
theorem dX9_nextMeeting_27 : decode cX9_nextMeeting 27 = .ok (.iconst 0, 1) := by decide +kernel
theorem dX9_nextMeeting_28 : decode cX9_nextMeeting 28 = .ok (.goto 4, 3) := by decide +kernel
theorem dX9_nextMeeting_31 : decode cX9_nextMeeting 31 = .ok (.iconst 2, 1) := by decide +kernel
theorem dX9_nextMeeting_32 : decode cX9_nextMeeting 32 = .ok (.putfield 97, 3) := by decide +kernel
theorem dX9_nextMeeting_35 : decode cX9_nextMeeting 35 = .ok (.aload_n 0, 1) := by decide +kernel
theorem dX9_nextMeeting_36 : decode cX9_nextMeeting 36 = .ok (.getfield 97, 3) := by decide +kernel
theorem dX9_nextMeeting_39 : decode cX9_nextMeeting 39 = .ok (.ifCond .eq 5, 3) := by decide +kernel
theorem dX9_nextMeeting_42 : decode cX9_nextMeeting 42 = .ok (.iconst 0, 1) := by decide +kernel
theorem dX9_nextMeeting_43 : decode cX9_nextMeeting 43 = .ok (.ireturn, 1) := by decide +kernel
theorem dX9_nextMeeting_44 : decode cX9_nextMeeting 44 = .ok (.iload_n 3, 1) := by decide +kernel
theorem dX9_nextMeeting_45 : decode cX9_nextMeeting 45 = .ok (.istore 5, 2) := by decide +kernel
theorem dX9_nextMeeting_47 : decode cX9_nextMeeting 47 = .ok (.iload 4, 2) := by decide +kernel
theorem dX9_nextMeeting_49 : decode cX9_nextMeeting 49 = .ok (.ifCond .eq 34, 3) := by decide +kernel
theorem dX9_nextMeeting_52 : decode cX9_nextMeeting 52 = .ok (.iload 5, 2) := by decide +kernel
theorem dX9_nextMeeting_54 : decode cX9_nextMeeting 54 = .ok (.iload_n 3, 1) := by decide +kernel
theorem dX9_nextMeeting_55 : decode cX9_nextMeeting 55 = .ok (.aload_n 0, 1) := by decide +kernel
theorem dX9_nextMeeting_56 : decode cX9_nextMeeting 56 = .ok (.getfield 157, 3) := by decide +kernel
theorem dX9_nextMeeting_59 : decode cX9_nextMeeting 59 = .ok (.iadd, 1) := by decide +kernel
theorem dX9_nextMeeting_60 : decode cX9_nextMeeting 60 = .ok (.if_icmp .ge 23, 3) := by decide +kernel
theorem dX9_nextMeeting_63 : decode cX9_nextMeeting 63 = .ok (.aload_n 0, 1) := by decide +kernel
theorem dX9_nextMeeting_64 : decode cX9_nextMeeting 64 = .ok (.iload_n 1, 1) := by decide +kernel
theorem dX9_nextMeeting_65 : decode cX9_nextMeeting 65 = .ok (.iload_n 2, 1) := by decide +kernel
theorem dX9_nextMeeting_66 : decode cX9_nextMeeting 66 = .ok (.iload 5, 2) := by decide +kernel
theorem dX9_nextMeeting_68 : decode cX9_nextMeeting 68 = .ok (.invokevirtual 185, 3) := by decide +kernel
theorem dX9_nextMeeting_71 : decode cX9_nextMeeting 71 = .ok (.ifCond .eq 6, 3) := by decide +kernel
theorem dX9_nextMeeting_74 : decode cX9_nextMeeting 74 = .ok (.iload 5, 2) := by decide +kernel
theorem dX9_nextMeeting_76 : decode cX9_nextMeeting 76 = .ok (.ireturn, 1) := by decide +kernel
theorem dX9_nextMeeting_77 : decode cX9_nextMeeting 77 = .ok (.iinc 5 1, 3) := by decide +kernel
theorem dX9_nextMeeting_80 : decode cX9_nextMeeting 80 = .ok (.goto (-33), 3) := by decide +kernel
theorem dX9_nextMeeting_83 : decode cX9_nextMeeting 83 = .ok (.iconst (-1), 1) := by decide +kernel
theorem dX9_nextMeeting_84 : decode cX9_nextMeeting 84 = .ok (.ireturn, 1) := by decide +kernel
set_option maxRecDepth 20000 in
theorem ggX9_isPhase_X9_period : GoodIn wsX9_isPhase wsX9_period := goodIn_r _ [5, 6, 7, 8, 4, 9, 13, 14, 15, 16, 17, 18, 19, 20, 21, 22, 23, 24, 25, 26, 27, 28, 29, 30, 31, 32, 33, 34, 35, 36, 37, 38, 39, 40, 41, 42, 43, 44, 45, 46, 47] (by decide +kernel) (by decide +kernel)
set_option maxRecDepth 20000 in
theorem gX9_isPhase_X9_period : GoodIn wsX9_isPhase (wsV RX9 126 RX9 yX9_period wsX9_period) := goodIn_app (goodIn_of _ (by decide +kernel)) ggX9_isPhase_X9_period
set_option maxRecDepth 20000 in
theorem ggX9_isPhase_X9_inRange : GoodIn wsX9_isPhase wsX9_inRange := goodIn_r _ [12] (by decide +kernel) (by decide +kernel)
set_option maxRecDepth 20000 in
theorem gX9_isPhase_X9_inRange : GoodIn wsX9_isPhase (va_wsS RX9 114 yX9_inRange wsX9_inRange) := goodIn_app (goodIn_of _ (by decide +kernel)) ggX9_isPhase_X9_inRange
theorem dX9_isPhase_0 : decode cX9_isPhase 0 = .ok (.iload_n 2, 1) := by decide +kernel
theorem dX9_isPhase_1 : decode cX9_isPhase 1 = .ok (.iconst 0, 1) := by decide +kernel
theorem dX9_isPhase_2 : decode cX9_isPhase 2 = .ok (.aload_n 0, 1) := by decide +kernel
theorem dX9_isPhase_3 : decode cX9_isPhase 3 = .ok (.iload_n 1, 1) := by decide +kernel
theorem dX9_isPhase_4 : decode cX9_isPhase 4 = .ok (.invokevirtual 126, 3) := by decide +kernel
theorem dX9_isPhase_7 : decode cX9_isPhase 7 = .ok (.iconst 1, 1) := by decide +kernel
theorem dX9_isPhase_8 : decode cX9_isPhase 8 = .ok (.isub, 1) := by decide +kernel
theorem dX9_isPhase_9 : decode cX9_isPhase 9 = .ok (.invokestatic 114, 3) := by decide +kernel
theorem dX9_isPhase_12 : decode cX9_isPhase 12 = .ok (.ireturn, 1) := by decide +kernel
set_option maxRecDepth 20000 in
theorem ggX9_worstWith_X9_isGuard : GoodIn wsX9_worstWith wsX9_isGuard := goodIn_r _ [7, 8, 9, 10, 6, 11, 12, 13, 14, 15, 89, 90, 91, 92, 93, 94, 95, 96, 97, 98, 99, 100, 101, 102, 103, 104, 105, 106, 107, 108, 109, 110, 111, 112, 113, 114, 115, 116, 117, 118, 119, 120, 121, 122, 123] (by decide +kernel) (by decide +kernel)
set_option maxRecDepth 20000 in
theorem gX9_worstWith_X9_isGuard : GoodIn wsX9_worstWith (wsV RX9 252 RX9 yX9_isGuard wsX9_isGuard) := goodIn_app (goodIn_of _ (by decide +kernel)) ggX9_worstWith_X9_isGuard
set_option maxRecDepth 20000 in
theorem ggX9_worstWith_X9_isPhase : GoodIn wsX9_worstWith wsX9_isPhase := goodIn_r _ [19, 20, 21, 22, 6, 23, 12, 24, 25, 26, 13, 14, 15, 89, 90, 91, 92, 93, 94, 95, 96, 97, 98, 99, 100, 101, 102, 103, 104, 105, 106, 107, 108, 109, 110, 111, 112, 113, 114, 115, 116, 117, 118, 119, 120, 121, 122, 123] (by decide +kernel) (by decide +kernel)
set_option maxRecDepth 20000 in
theorem gX9_worstWith_X9_isPhase : GoodIn wsX9_worstWith (wsV RX9 271 RX9 yX9_isPhase wsX9_isPhase) := goodIn_app (goodIn_of _ (by decide +kernel)) ggX9_worstWith_X9_isPhase
set_option maxRecDepth 20000 in
theorem ggX9_worstWith_X9_takePhases : GoodIn wsX9_worstWith wsX9_takePhases := goodIn_r _ [30, 2, 8, 9, 10, 6, 11, 12, 31, 32, 33, 34, 24, 25, 26, 89, 90, 91, 92, 93, 94, 95, 96, 97, 98, 99, 100, 101, 102, 103, 104, 105, 106, 107, 108, 109, 110, 111, 112, 113, 114, 115, 116, 117, 118, 119, 120, 121, 122, 123] (by decide +kernel) (by decide +kernel)
set_option maxRecDepth 20000 in
theorem gX9_worstWith_X9_takePhases : GoodIn wsX9_worstWith (wsV RX9 172 RX9 yX9_takePhases wsX9_takePhases) := goodIn_app (goodIn_of _ (by decide +kernel)) ggX9_worstWith_X9_takePhases
set_option maxRecDepth 20000 in
theorem ggX9_worstWith_X9_layCycle : GoodIn wsX9_worstWith wsX9_layCycle := goodIn_r _ [38, 39, 40, 41, 42, 43, 44, 45, 46, 47, 6, 48, 8, 9, 10, 11, 12, 20, 21, 22, 23, 24, 25, 26, 49, 50, 51, 52, 53, 54, 55, 56, 57, 58, 59, 60, 61, 62, 63, 2, 64, 65, 66, 67, 68, 69, 70, 71, 72, 73, 74, 75, 76, 77, 78, 79, 80, 81, 82, 83, 84, 89, 90, 91, 92, 93, 94, 95, 96, 97, 98, 99, 100, 101, 102, 103, 104, 105, 106, 107, 108, 109, 110, 111, 112, 113, 114, 115, 116, 117, 118, 119, 120, 121, 122, 123] (by decide +kernel) (by decide +kernel)
set_option maxRecDepth 20000 in
theorem gX9_worstWith_X9_layCycle : GoodIn wsX9_worstWith (wsV RX9 175 RX9 yX9_layCycle wsX9_layCycle) := goodIn_app (goodIn_of _ (by decide +kernel)) ggX9_worstWith_X9_layCycle
set_option maxRecDepth 20000 in
theorem ggX9_worstWith_X9_worstLaid : GoodIn wsX9_worstWith wsX9_worstLaid := goodIn_r _ [88, 42, 81, 82, 83, 84, 52, 53, 54, 6, 55, 12, 89, 90, 91, 92, 93, 94, 95, 96, 97, 98, 99, 100, 101, 102, 103, 104, 105, 106, 107, 108, 109, 110, 111, 112, 113, 114, 115, 116, 117, 118, 119, 120, 121, 122, 123] (by decide +kernel) (by decide +kernel)
set_option maxRecDepth 20000 in
theorem gX9_worstWith_X9_worstLaid : GoodIn wsX9_worstWith (wsV RX9 197 RX9 yX9_worstLaid wsX9_worstLaid) := goodIn_app (goodIn_of _ (by decide +kernel)) ggX9_worstWith_X9_worstLaid
theorem dX9_worstWith_0 : decode cX9_worstWith 0 = .ok (.aload_n 0, 1) := by decide +kernel
theorem dX9_worstWith_1 : decode cX9_worstWith 1 = .ok (.aload_n 0, 1) := by decide +kernel
theorem dX9_worstWith_2 : decode cX9_worstWith 2 = .ok (.iload_n 1, 1) := by decide +kernel
theorem dX9_worstWith_3 : decode cX9_worstWith 3 = .ok (.invokevirtual 252, 3) := by decide +kernel
theorem dX9_worstWith_6 : decode cX9_worstWith 6 = .ok (.ifCond .ne 7, 3) := by decide +kernel
theorem dX9_worstWith_9 : decode cX9_worstWith 9 = .ok (.iconst 1, 1) := by decide +kernel
theorem dX9_worstWith_10 : decode cX9_worstWith 10 = .ok (.goto 17, 3) := by decide +kernel
theorem dX9_worstWith_13 : decode cX9_worstWith 13 = .ok (.aload_n 0, 1) := by decide +kernel
theorem dX9_worstWith_14 : decode cX9_worstWith 14 = .ok (.iload_n 1, 1) := by decide +kernel
theorem dX9_worstWith_15 : decode cX9_worstWith 15 = .ok (.iload_n 2, 1) := by decide +kernel
theorem dX9_worstWith_16 : decode cX9_worstWith 16 = .ok (.invokevirtual 271, 3) := by decide +kernel
theorem dX9_worstWith_19 : decode cX9_worstWith 19 = .ok (.ifCond .eq 7, 3) := by decide +kernel
theorem dX9_worstWith_22 : decode cX9_worstWith 22 = .ok (.iconst 0, 1) := by decide +kernel
theorem dX9_worstWith_23 : decode cX9_worstWith 23 = .ok (.goto 4, 3) := by decide +kernel
theorem dX9_worstWith_26 : decode cX9_worstWith 26 = .ok (.iconst 2, 1) := by decide +kernel
theorem dX9_worstWith_27 : decode cX9_worstWith 27 = .ok (.putfield 97, 3) := by decide +kernel
theorem dX9_worstWith_30 : decode cX9_worstWith 30 = .ok (.aload_n 0, 1) := by decide +kernel
theorem dX9_worstWith_31 : decode cX9_worstWith 31 = .ok (.getfield 97, 3) := by decide +kernel
theorem dX9_worstWith_34 : decode cX9_worstWith 34 = .ok (.ifCond .eq 5, 3) := by decide +kernel
theorem dX9_worstWith_37 : decode cX9_worstWith 37 = .ok (.iconst 0, 1) := by decide +kernel
theorem dX9_worstWith_38 : decode cX9_worstWith 38 = .ok (.ireturn, 1) := by decide +kernel
theorem dX9_worstWith_39 : decode cX9_worstWith 39 = .ok (.aload_n 0, 1) := by decide +kernel
theorem dX9_worstWith_40 : decode cX9_worstWith 40 = .ok (.invokevirtual 172, 3) := by decide +kernel
theorem dX9_worstWith_43 : decode cX9_worstWith 43 = .ok (.aload_n 0, 1) := by decide +kernel
theorem dX9_worstWith_44 : decode cX9_worstWith 44 = .ok (.getfield 28, 3) := by decide +kernel
theorem dX9_worstWith_47 : decode cX9_worstWith 47 = .ok (.iload_n 1, 1) := by decide +kernel
theorem dX9_worstWith_48 : decode cX9_worstWith 48 = .ok (.iload_n 2, 1) := by decide +kernel
theorem dX9_worstWith_49 : decode cX9_worstWith 49 = .ok (.iastore, 1) := by decide +kernel
theorem dX9_worstWith_50 : decode cX9_worstWith 50 = .ok (.aload_n 0, 1) := by decide +kernel
theorem dX9_worstWith_51 : decode cX9_worstWith 51 = .ok (.invokevirtual 175, 3) := by decide +kernel
theorem dX9_worstWith_54 : decode cX9_worstWith 54 = .ok (.aload_n 0, 1) := by decide +kernel
theorem dX9_worstWith_55 : decode cX9_worstWith 55 = .ok (.invokevirtual 197, 3) := by decide +kernel
theorem dX9_worstWith_58 : decode cX9_worstWith 58 = .ok (.ireturn, 1) := by decide +kernel
set_option maxRecDepth 20000 in
theorem ggX9_bestWorst_X9_layBest : GoodIn wsX9_bestWorst wsX9_layBest := goodIn_r _ [7, 2, 8, 9, 10, 11, 6, 12, 13, 14, 15, 16, 17, 18, 19, 20, 21, 22, 23, 24, 25, 26, 27, 28, 29, 30, 31, 32, 33, 34, 35, 36, 37, 38, 39, 40, 41, 42, 43, 44, 45, 46, 47, 48, 49, 50, 51, 52, 53, 54, 55, 56, 57, 58, 59, 60, 61, 62, 63, 64, 65, 66, 67, 68, 69, 70, 71, 72, 73, 74, 75, 76, 77, 78, 79, 80, 81, 82, 83, 84, 85, 86, 87, 88, 89, 90, 91, 92, 93, 94, 95, 96, 97, 98, 99, 100, 101, 102, 103, 104, 105, 106, 107, 108, 109, 110, 111, 112, 113, 114, 115, 116, 117, 118, 119, 120, 121, 122, 123, 124, 125, 126, 127, 128, 129, 130, 131, 132, 133, 134, 135, 136, 137, 138, 139] (by decide +kernel) (by decide +kernel)
set_option maxRecDepth 20000 in
theorem gX9_bestWorst_X9_layBest : GoodIn wsX9_bestWorst (wsV RX9 274 RX9 yX9_layBest wsX9_layBest) := goodIn_app (goodIn_of _ (by decide +kernel)) ggX9_bestWorst_X9_layBest
theorem dX9_bestWorst_0 : decode cX9_bestWorst 0 = .ok (.aload_n 0, 1) := by decide +kernel
theorem dX9_bestWorst_1 : decode cX9_bestWorst 1 = .ok (.iconst 0, 1) := by decide +kernel
theorem dX9_bestWorst_2 : decode cX9_bestWorst 2 = .ok (.putfield 97, 3) := by decide +kernel
theorem dX9_bestWorst_5 : decode cX9_bestWorst 5 = .ok (.aload_n 0, 1) := by decide +kernel
theorem dX9_bestWorst_6 : decode cX9_bestWorst 6 = .ok (.invokevirtual 274, 3) := by decide +kernel
theorem dX9_bestWorst_9 : decode cX9_bestWorst 9 = .ok (.aload_n 0, 1) := by decide +kernel
theorem dX9_bestWorst_10 : decode cX9_bestWorst 10 = .ok (.getfield 200, 3) := by decide +kernel
theorem dX9_bestWorst_13 : decode cX9_bestWorst 13 = .ok (.ireturn, 1) := by decide +kernel
set_option maxRecDepth 20000 in
theorem ggX9_bestCrossings_X9_layBest : GoodIn wsX9_bestCrossings wsX9_layBest := goodIn_r _ [7, 8, 9, 10, 11, 12, 6, 13, 14, 15, 16, 17, 18, 2, 19, 20, 21, 22, 23, 24, 25, 26, 27, 28, 29, 30, 31, 32, 33, 34, 35, 36, 37, 38, 39, 40, 41, 42, 43, 44, 45, 46, 47, 48, 49, 50, 51, 52, 53, 54, 55, 56, 57, 58, 59, 60, 61, 62, 63, 64, 65, 66, 67, 68, 69, 70, 71, 72, 73, 74, 75, 76, 77, 78, 79, 80, 81, 82, 83, 84, 85, 86, 87, 88, 89, 90, 91, 92, 93, 94, 95, 96, 97, 98, 99, 100, 101, 102, 103, 104, 105, 106, 107, 108, 109, 110, 111, 112, 113, 114, 115, 116, 117, 118, 119, 120, 121, 122, 123, 124, 125, 126, 127, 128, 129, 130, 131, 132, 133, 134, 135, 136, 137, 138, 139] (by decide +kernel) (by decide +kernel)
set_option maxRecDepth 20000 in
theorem gX9_bestCrossings_X9_layBest : GoodIn wsX9_bestCrossings (wsV RX9 274 RX9 yX9_layBest wsX9_layBest) := goodIn_app (goodIn_of _ (by decide +kernel)) ggX9_bestCrossings_X9_layBest
theorem dX9_bestCrossings_0 : decode cX9_bestCrossings 0 = .ok (.aload_n 0, 1) := by decide +kernel
theorem dX9_bestCrossings_1 : decode cX9_bestCrossings 1 = .ok (.iconst 0, 1) := by decide +kernel
theorem dX9_bestCrossings_2 : decode cX9_bestCrossings 2 = .ok (.putfield 97, 3) := by decide +kernel
theorem dX9_bestCrossings_5 : decode cX9_bestCrossings 5 = .ok (.aload_n 0, 1) := by decide +kernel
theorem dX9_bestCrossings_6 : decode cX9_bestCrossings 6 = .ok (.invokevirtual 274, 3) := by decide +kernel
theorem dX9_bestCrossings_9 : decode cX9_bestCrossings 9 = .ok (.aload_n 0, 1) := by decide +kernel
theorem dX9_bestCrossings_10 : decode cX9_bestCrossings 10 = .ok (.getfield 206, 3) := by decide +kernel
theorem dX9_bestCrossings_13 : decode cX9_bestCrossings 13 = .ok (.ireturn, 1) := by decide +kernel
set_option maxRecDepth 20000 in
theorem ggX9_bestPhase_X9_isGuard : GoodIn wsX9_bestPhase wsX9_isGuard := goodIn_r _ [7, 8, 9, 10, 6, 11, 12, 13, 14, 15, 116, 117, 118, 119, 120, 121, 122, 123, 124, 125, 126, 127, 128, 129, 130, 131, 132, 133, 134, 135, 136, 137, 138, 139, 140, 141, 142, 143, 144, 145, 146, 147, 148, 149, 150] (by decide +kernel) (by decide +kernel)
set_option maxRecDepth 20000 in
theorem gX9_bestPhase_X9_isGuard : GoodIn wsX9_bestPhase (wsV RX9 252 RX9 yX9_isGuard wsX9_isGuard) := goodIn_app (goodIn_of _ (by decide +kernel)) ggX9_bestPhase_X9_isGuard
set_option maxRecDepth 20000 in
theorem ggX9_bestPhase_X9_raise : GoodIn wsX9_bestPhase wsX9_raise := goodIn_r _ [19, 1, 116, 117, 118, 119, 120, 121, 122, 123, 124, 125, 126, 127, 128, 129, 130, 131, 132, 133, 134, 135, 136, 137, 138, 139, 140, 141, 142, 143, 144, 145, 146, 147, 148, 149, 150] (by decide +kernel) (by decide +kernel)
set_option maxRecDepth 20000 in
theorem gX9_bestPhase_X9_raise : GoodIn wsX9_bestPhase (wsV RX9 237 RX9 yX9_raise wsX9_raise) := goodIn_app (goodIn_of _ (by decide +kernel)) ggX9_bestPhase_X9_raise
set_option maxRecDepth 20000 in
theorem ggX9_bestPhase_X9_layBest : GoodIn wsX9_bestPhase wsX9_layBest := goodIn_r _ [23, 24, 25, 8, 9, 10, 6, 11, 12, 26, 27, 28, 29, 30, 2, 31, 32, 33, 34, 35, 36, 37, 38, 39, 40, 41, 42, 43, 44, 45, 46, 47, 48, 49, 50, 51, 52, 53, 54, 55, 56, 57, 58, 59, 60, 61, 62, 63, 64, 65, 66, 67, 68, 69, 70, 71, 72, 73, 74, 75, 76, 77, 78, 79, 80, 81, 82, 83, 84, 85, 86, 87, 88, 89, 90, 91, 92, 93, 94, 95, 96, 97, 98, 99, 100, 101, 102, 103, 104, 105, 106, 107, 108, 109, 110, 111, 112, 113, 114, 115, 116, 117, 118, 119, 120, 121, 122, 123, 124, 125, 126, 127, 128, 129, 130, 131, 132, 133, 134, 135, 136, 137, 138, 139, 140, 141, 142, 143, 144, 145, 146, 147, 148, 149, 150] (by decide +kernel) (by decide +kernel)
set_option maxRecDepth 20000 in
theorem gX9_bestPhase_X9_layBest : GoodIn wsX9_bestPhase (wsV RX9 274 RX9 yX9_layBest wsX9_layBest) := goodIn_app (goodIn_of _ (by decide +kernel)) ggX9_bestPhase_X9_layBest
theorem dX9_bestPhase_0 : decode cX9_bestPhase 0 = .ok (.aload_n 0, 1) := by decide +kernel
theorem dX9_bestPhase_1 : decode cX9_bestPhase 1 = .ok (.iconst 0, 1) := by decide +kernel
theorem dX9_bestPhase_2 : decode cX9_bestPhase 2 = .ok (.putfield 97, 3) := by decide +kernel
theorem dX9_bestPhase_5 : decode cX9_bestPhase 5 = .ok (.aload_n 0, 1) := by decide +kernel
theorem dX9_bestPhase_6 : decode cX9_bestPhase 6 = .ok (.iload_n 1, 1) := by decide +kernel
theorem dX9_bestPhase_7 : decode cX9_bestPhase 7 = .ok (.invokevirtual 252, 3) := by decide +kernel
theorem dX9_bestPhase_10 : decode cX9_bestPhase 10 = .ok (.ifCond .ne 9, 3) := by decide +kernel
theorem dX9_bestPhase_13 : decode cX9_bestPhase 13 = .ok (.aload_n 0, 1) := by decide +kernel
theorem dX9_bestPhase_14 : decode cX9_bestPhase 14 = .ok (.iconst 1, 1) := by decide +kernel
theorem dX9_bestPhase_15 : decode cX9_bestPhase 15 = .ok (.invokevirtual 237, 3) := by decide +kernel
theorem dX9_bestPhase_18 : decode cX9_bestPhase 18 = .ok (.ireturn, 1) := by decide +kernel
theorem dX9_bestPhase_19 : decode cX9_bestPhase 19 = .ok (.aload_n 0, 1) := by decide +kernel
theorem dX9_bestPhase_20 : decode cX9_bestPhase 20 = .ok (.invokevirtual 274, 3) := by decide +kernel
theorem dX9_bestPhase_23 : decode cX9_bestPhase 23 = .ok (.aload_n 0, 1) := by decide +kernel
theorem dX9_bestPhase_24 : decode cX9_bestPhase 24 = .ok (.getfield 46, 3) := by decide +kernel
theorem dX9_bestPhase_27 : decode cX9_bestPhase 27 = .ok (.iload_n 1, 1) := by decide +kernel
theorem dX9_bestPhase_28 : decode cX9_bestPhase 28 = .ok (.iaload, 1) := by decide +kernel
theorem dX9_bestPhase_29 : decode cX9_bestPhase 29 = .ok (.ireturn, 1) := by decide +kernel
set_option maxRecDepth 20000 in
theorem ggX9_arrival_X9_isRoom : GoodIn wsX9_arrival wsX9_isRoom := goodIn_r _ [6, 7, 8, 9, 5, 10, 11, 12, 13, 14, 85, 86, 87, 88, 89, 90, 91, 92, 93, 94, 95, 96, 97, 98, 99, 100, 101, 102, 103, 104, 105, 106, 107, 108, 109, 110, 111, 112, 113, 114, 115, 116, 117, 118, 119] (by decide +kernel) (by decide +kernel)
set_option maxRecDepth 20000 in
theorem gX9_arrival_X9_isRoom : GoodIn wsX9_arrival (wsV RX9 246 RX9 yX9_isRoom wsX9_isRoom) := goodIn_app (goodIn_of _ (by decide +kernel)) ggX9_arrival_X9_isRoom
set_option maxRecDepth 20000 in
theorem ggX9_arrival_X9_isMinute : GoodIn wsX9_arrival wsX9_isMinute := goodIn_r _ [17, 18, 12, 13, 5, 14] (by decide +kernel) (by decide +kernel)
set_option maxRecDepth 20000 in
theorem gX9_arrival_X9_isMinute : GoodIn wsX9_arrival (va_wsS RX9 262 yX9_isMinute wsX9_isMinute) := goodIn_app (goodIn_of _ (by decide +kernel)) ggX9_arrival_X9_isMinute
set_option maxRecDepth 20000 in
theorem ggX9_arrival_X9_firstRooms : GoodIn wsX9_arrival wsX9_firstRooms := goodIn_r _ [22, 23, 24, 25, 5, 26, 27, 28, 29, 30, 31, 11, 32, 33, 34, 35, 36, 37, 38, 39, 40, 41, 42, 43, 7, 8, 9, 10, 44, 45, 46, 47, 48, 49, 50, 51, 52, 53, 54, 55, 56, 57, 58, 59, 60, 61, 62, 63, 64, 65, 66, 85, 86, 87, 88, 89, 90, 91, 92, 93, 94, 95, 96, 97, 98, 99, 100, 101, 102, 103, 104, 105, 106, 107, 108, 109, 110, 111, 112, 113, 114, 115, 116, 117, 118, 119] (by decide +kernel) (by decide +kernel)
set_option maxRecDepth 20000 in
theorem gX9_arrival_X9_firstRooms : GoodIn wsX9_arrival (wsV RX9 277 RX9 yX9_firstRooms wsX9_firstRooms) := goodIn_app (goodIn_of _ (by decide +kernel)) ggX9_arrival_X9_firstRooms
set_option maxRecDepth 20000 in
theorem ggX9_arrival_X9_cycle : GoodIn wsX9_arrival wsX9_cycle := goodIn_r _ [70, 28, 29, 30, 5, 31, 11, 59, 60, 61, 62, 36, 37, 38, 71, 72, 73, 85, 86, 87, 88, 89, 90, 91, 92, 93, 94, 95, 96, 97, 98, 99, 100, 101, 102, 103, 104, 105, 106, 107, 108, 109, 110, 111, 112, 113, 114, 115, 116, 117, 118, 119] (by decide +kernel) (by decide +kernel)
set_option maxRecDepth 20000 in
theorem gX9_arrival_X9_cycle : GoodIn wsX9_arrival (wsV RX9 154 RX9 yX9_cycle wsX9_cycle) := goodIn_app (goodIn_of _ (by decide +kernel)) ggX9_arrival_X9_cycle
set_option maxRecDepth 20000 in
theorem ggX9_arrival_X9_rooms : GoodIn wsX9_arrival wsX9_rooms := goodIn_r _ [10, 11, 85, 86, 87, 88, 89, 90, 91, 92, 93, 94, 95, 96, 97, 98, 99, 100, 101, 102, 103, 104, 105, 106, 107, 108, 109, 110, 111, 112, 113, 114, 115, 116, 117, 118, 119] (by decide +kernel) (by decide +kernel)
set_option maxRecDepth 20000 in
theorem gX9_arrival_X9_rooms : GoodIn wsX9_arrival (wsV RX9 110 RX9 yX9_rooms wsX9_rooms) := goodIn_app (goodIn_of _ (by decide +kernel)) ggX9_arrival_X9_rooms
set_option maxRecDepth 20000 in
theorem ggX9_arrival_X9_has : GoodIn wsX9_arrival wsX9_has := goodIn_r _ [76] (by decide +kernel) (by decide +kernel)
set_option maxRecDepth 20000 in
theorem gX9_arrival_X9_has : GoodIn wsX9_arrival (va_wsS RX9 216 yX9_has wsX9_has) := goodIn_app (goodIn_of _ (by decide +kernel)) ggX9_arrival_X9_has
set_option maxRecDepth 20000 in
theorem ggX9_arrival_X9_nextRooms : GoodIn wsX9_arrival wsX9_nextRooms := goodIn_r _ [80, 7, 8, 9, 5, 10, 11, 74, 75, 76, 81, 82, 83, 84, 43, 28, 29, 30, 31, 55, 56, 57, 58, 27, 59, 60, 61, 62, 36, 37, 38, 63, 64, 65, 66, 51, 52, 53, 54, 85, 86, 87, 88, 89, 90, 91, 92, 93, 94, 95, 96, 97, 98, 99, 100, 101, 102, 103, 104, 105, 106, 107, 108, 109, 110, 111, 112, 113, 114, 115, 116, 117, 118, 119] (by decide +kernel) (by decide +kernel)
set_option maxRecDepth 20000 in
theorem gX9_arrival_X9_nextRooms : GoodIn wsX9_arrival (wsV RX9 280 RX9 yX9_nextRooms wsX9_nextRooms) := goodIn_app (goodIn_of _ (by decide +kernel)) ggX9_arrival_X9_nextRooms
theorem dX9_arrival_0 : decode cX9_arrival 0 = .ok (.aload_n 0, 1) := by decide +kernel
theorem dX9_arrival_1 : decode cX9_arrival 1 = .ok (.aload_n 0, 1) := by decide +kernel
theorem dX9_arrival_2 : decode cX9_arrival 2 = .ok (.iload_n 1, 1) := by decide +kernel
theorem dX9_arrival_3 : decode cX9_arrival 3 = .ok (.invokevirtual 246, 3) := by decide +kernel
theorem dX9_arrival_6 : decode cX9_arrival 6 = .ok (.ifCond .eq 11, 3) := by decide +kernel
theorem dX9_arrival_9 : decode cX9_arrival 9 = .ok (.aload_n 0, 1) := by decide +kernel
theorem dX9_arrival_10 : decode cX9_arrival 10 = .ok (.iload_n 2, 1) := by decide +kernel
theorem dX9_arrival_11 : decode cX9_arrival 11 = .ok (.invokevirtual 246, 3) := by decide +kernel
theorem dX9_arrival_14 : decode cX9_arrival 14 = .ok (.ifCond .ne 7, 3) := by decide +kernel
theorem dX9_arrival_17 : decode cX9_arrival 17 = .ok (.iconst 1, 1) := by decide +kernel
theorem dX9_arrival_18 : decode cX9_arrival 18 = .ok (.goto 15, 3) := by decide +kernel
theorem dX9_arrival_21 : decode cX9_arrival 21 = .ok (.iload_n 3, 1) := by decide +kernel
theorem dX9_arrival_22 : decode cX9_arrival 22 = .ok (.invokestatic 262, 3) := by decide +kernel
theorem dX9_arrival_25 : decode cX9_arrival 25 = .ok (.ifCond .eq 7, 3) := by decide +kernel
theorem dX9_arrival_28 : decode cX9_arrival 28 = .ok (.iconst 0, 1) := by decide +kernel
theorem dX9_arrival_29 : decode cX9_arrival 29 = .ok (.goto 4, 3) := by decide +kernel
theorem dX9_arrival_32 : decode cX9_arrival 32 = .ok (.iconst 2, 1) := by decide +kernel
theorem dX9_arrival_33 : decode cX9_arrival 33 = .ok (.putfield 97, 3) := by decide +kernel
theorem dX9_arrival_36 : decode cX9_arrival 36 = .ok (.aload_n 0, 1) := by decide +kernel
theorem dX9_arrival_37 : decode cX9_arrival 37 = .ok (.getfield 97, 3) := by decide +kernel
theorem dX9_arrival_40 : decode cX9_arrival 40 = .ok (.ifCond .eq 5, 3) := by decide +kernel
theorem dX9_arrival_43 : decode cX9_arrival 43 = .ok (.iconst 0, 1) := by decide +kernel
theorem dX9_arrival_44 : decode cX9_arrival 44 = .ok (.ireturn, 1) := by decide +kernel
theorem dX9_arrival_45 : decode cX9_arrival 45 = .ok (.aload_n 0, 1) := by decide +kernel
theorem dX9_arrival_46 : decode cX9_arrival 46 = .ok (.iload_n 1, 1) := by decide +kernel
theorem dX9_arrival_47 : decode cX9_arrival 47 = .ok (.iload_n 3, 1) := by decide +kernel
theorem dX9_arrival_48 : decode cX9_arrival 48 = .ok (.invokevirtual 277, 3) := by decide +kernel
theorem dX9_arrival_51 : decode cX9_arrival 51 = .ok (.istore 4, 2) := by decide +kernel
theorem dX9_arrival_53 : decode cX9_arrival 53 = .ok (.aload_n 0, 1) := by decide +kernel
theorem dX9_arrival_54 : decode cX9_arrival 54 = .ok (.invokevirtual 154, 3) := by decide +kernel
theorem dX9_arrival_57 : decode cX9_arrival 57 = .ok (.aload_n 0, 1) := by decide +kernel
theorem dX9_arrival_58 : decode cX9_arrival 58 = .ok (.invokevirtual 110, 3) := by decide +kernel
theorem dX9_arrival_61 : decode cX9_arrival 61 = .ok (.imul, 1) := by decide +kernel
theorem dX9_arrival_62 : decode cX9_arrival 62 = .ok (.istore 5, 2) := by decide +kernel
theorem dX9_arrival_64 : decode cX9_arrival 64 = .ok (.iconst 0, 1) := by decide +kernel
theorem dX9_arrival_65 : decode cX9_arrival 65 = .ok (.istore 6, 2) := by decide +kernel
theorem dX9_arrival_67 : decode cX9_arrival 67 = .ok (.iload 6, 2) := by decide +kernel
theorem dX9_arrival_69 : decode cX9_arrival 69 = .ok (.iload 5, 2) := by decide +kernel
theorem dX9_arrival_71 : decode cX9_arrival 71 = .ok (.if_icmp .gt 40, 3) := by decide +kernel
theorem dX9_arrival_74 : decode cX9_arrival 74 = .ok (.iload 4, 2) := by decide +kernel
theorem dX9_arrival_76 : decode cX9_arrival 76 = .ok (.ifCond .eq 35, 3) := by decide +kernel
theorem dX9_arrival_79 : decode cX9_arrival 79 = .ok (.iload 4, 2) := by decide +kernel
theorem dX9_arrival_81 : decode cX9_arrival 81 = .ok (.iload_n 2, 1) := by decide +kernel
theorem dX9_arrival_82 : decode cX9_arrival 82 = .ok (.invokestatic 216, 3) := by decide +kernel
theorem dX9_arrival_85 : decode cX9_arrival 85 = .ok (.ifCond .eq 8, 3) := by decide +kernel
theorem dX9_arrival_88 : decode cX9_arrival 88 = .ok (.iload_n 3, 1) := by decide +kernel
theorem dX9_arrival_89 : decode cX9_arrival 89 = .ok (.iload 6, 2) := by decide +kernel
theorem dX9_arrival_91 : decode cX9_arrival 91 = .ok (.iadd, 1) := by decide +kernel
theorem dX9_arrival_92 : decode cX9_arrival 92 = .ok (.ireturn, 1) := by decide +kernel
theorem dX9_arrival_93 : decode cX9_arrival 93 = .ok (.aload_n 0, 1) := by decide +kernel
theorem dX9_arrival_94 : decode cX9_arrival 94 = .ok (.iload 4, 2) := by decide +kernel
theorem dX9_arrival_96 : decode cX9_arrival 96 = .ok (.iload_n 3, 1) := by decide +kernel
theorem dX9_arrival_97 : decode cX9_arrival 97 = .ok (.iload 6, 2) := by decide +kernel
theorem dX9_arrival_99 : decode cX9_arrival 99 = .ok (.iadd, 1) := by decide +kernel
theorem dX9_arrival_100 : decode cX9_arrival 100 = .ok (.invokevirtual 280, 3) := by decide +kernel
theorem dX9_arrival_103 : decode cX9_arrival 103 = .ok (.istore 4, 2) := by decide +kernel
theorem dX9_arrival_105 : decode cX9_arrival 105 = .ok (.iinc 6 1, 3) := by decide +kernel
theorem dX9_arrival_108 : decode cX9_arrival 108 = .ok (.goto (-41), 3) := by decide +kernel
theorem dX9_arrival_111 : decode cX9_arrival 111 = .ok (.iconst (-1), 1) := by decide +kernel
theorem dX9_arrival_112 : decode cX9_arrival 112 = .ok (.ireturn, 1) := by decide +kernel
set_option maxRecDepth 20000 in
theorem ggX9_hiding_X9_isRoom : GoodIn wsX9_hiding wsX9_isRoom := goodIn_r _ [6, 7, 8, 9, 5, 10, 11, 12, 13, 14, 78, 79, 80, 81, 82, 83, 84, 85, 86, 87, 88, 89, 90, 91, 92, 93, 94, 95, 96, 97, 98, 99, 100, 101, 102, 103, 104, 105, 106, 107, 108, 109, 110, 111, 112] (by decide +kernel) (by decide +kernel)
set_option maxRecDepth 20000 in
theorem gX9_hiding_X9_isRoom : GoodIn wsX9_hiding (wsV RX9 246 RX9 yX9_isRoom wsX9_isRoom) := goodIn_app (goodIn_of _ (by decide +kernel)) ggX9_hiding_X9_isRoom
set_option maxRecDepth 20000 in
theorem ggX9_hiding_X9_isMinute : GoodIn wsX9_hiding wsX9_isMinute := goodIn_r _ [17, 18, 12, 13, 5, 14] (by decide +kernel) (by decide +kernel)
set_option maxRecDepth 20000 in
theorem gX9_hiding_X9_isMinute : GoodIn wsX9_hiding (va_wsS RX9 262 yX9_isMinute wsX9_isMinute) := goodIn_app (goodIn_of _ (by decide +kernel)) ggX9_hiding_X9_isMinute
set_option maxRecDepth 20000 in
theorem ggX9_hiding_X9_inRange : GoodIn wsX9_hiding wsX9_inRange := goodIn_r _ [14] (by decide +kernel) (by decide +kernel)
set_option maxRecDepth 20000 in
theorem gX9_hiding_X9_inRange : GoodIn wsX9_hiding (va_wsS RX9 114 yX9_inRange wsX9_inRange) := goodIn_app (goodIn_of _ (by decide +kernel)) ggX9_hiding_X9_inRange
set_option maxRecDepth 20000 in
theorem ggX9_hiding_X9_firstRooms : GoodIn wsX9_hiding wsX9_firstRooms := goodIn_r _ [22, 23, 24, 25, 5, 26, 27, 28, 29, 30, 31, 11, 32, 33, 34, 35, 36, 37, 38, 39, 40, 41, 42, 43, 7, 8, 9, 10, 44, 45, 46, 47, 48, 49, 50, 51, 52, 53, 54, 55, 56, 57, 58, 59, 60, 61, 62, 63, 64, 65, 66, 78, 79, 80, 81, 82, 83, 84, 85, 86, 87, 88, 89, 90, 91, 92, 93, 94, 95, 96, 97, 98, 99, 100, 101, 102, 103, 104, 105, 106, 107, 108, 109, 110, 111, 112] (by decide +kernel) (by decide +kernel)
set_option maxRecDepth 20000 in
theorem gX9_hiding_X9_firstRooms : GoodIn wsX9_hiding (wsV RX9 277 RX9 yX9_firstRooms wsX9_firstRooms) := goodIn_app (goodIn_of _ (by decide +kernel)) ggX9_hiding_X9_firstRooms
set_option maxRecDepth 20000 in
theorem ggX9_hiding_X9_nextRooms : GoodIn wsX9_hiding wsX9_nextRooms := goodIn_r _ [70, 7, 8, 9, 5, 10, 11, 71, 72, 73, 74, 75, 76, 77, 43, 28, 29, 30, 31, 55, 56, 57, 58, 27, 59, 60, 61, 62, 36, 37, 38, 63, 64, 65, 66, 51, 52, 53, 54, 78, 79, 80, 81, 82, 83, 84, 85, 86, 87, 88, 89, 90, 91, 92, 93, 94, 95, 96, 97, 98, 99, 100, 101, 102, 103, 104, 105, 106, 107, 108, 109, 110, 111, 112] (by decide +kernel) (by decide +kernel)
set_option maxRecDepth 20000 in
theorem gX9_hiding_X9_nextRooms : GoodIn wsX9_hiding (wsV RX9 280 RX9 yX9_nextRooms wsX9_nextRooms) := goodIn_app (goodIn_of _ (by decide +kernel)) ggX9_hiding_X9_nextRooms
theorem dX9_hiding_0 : decode cX9_hiding 0 = .ok (.aload_n 0, 1) := by decide +kernel
theorem dX9_hiding_1 : decode cX9_hiding 1 = .ok (.aload_n 0, 1) := by decide +kernel
theorem dX9_hiding_2 : decode cX9_hiding 2 = .ok (.iload_n 1, 1) := by decide +kernel
theorem dX9_hiding_3 : decode cX9_hiding 3 = .ok (.invokevirtual 246, 3) := by decide +kernel
theorem dX9_hiding_6 : decode cX9_hiding 6 = .ok (.ifCond .ne 7, 3) := by decide +kernel
theorem dX9_hiding_9 : decode cX9_hiding 9 = .ok (.iconst 1, 1) := by decide +kernel
theorem dX9_hiding_10 : decode cX9_hiding 10 = .ok (.goto 25, 3) := by decide +kernel
theorem dX9_hiding_13 : decode cX9_hiding 13 = .ok (.iload_n 2, 1) := by decide +kernel
theorem dX9_hiding_14 : decode cX9_hiding 14 = .ok (.invokestatic 262, 3) := by decide +kernel
theorem dX9_hiding_17 : decode cX9_hiding 17 = .ok (.ifCond .eq 17, 3) := by decide +kernel
theorem dX9_hiding_20 : decode cX9_hiding 20 = .ok (.iload_n 3, 1) := by decide +kernel
theorem dX9_hiding_21 : decode cX9_hiding 21 = .ok (.iconst 0, 1) := by decide +kernel
theorem dX9_hiding_22 : decode cX9_hiding 22 = .ok (.bipush 100, 2) := by decide +kernel
theorem dX9_hiding_24 : decode cX9_hiding 24 = .ok (.invokestatic 114, 3) := by decide +kernel
theorem dX9_hiding_27 : decode cX9_hiding 27 = .ok (.ifCond .eq 7, 3) := by decide +kernel
theorem dX9_hiding_30 : decode cX9_hiding 30 = .ok (.iconst 0, 1) := by decide +kernel
theorem dX9_hiding_31 : decode cX9_hiding 31 = .ok (.goto 4, 3) := by decide +kernel
theorem dX9_hiding_34 : decode cX9_hiding 34 = .ok (.iconst 2, 1) := by decide +kernel
theorem dX9_hiding_35 : decode cX9_hiding 35 = .ok (.putfield 97, 3) := by decide +kernel
theorem dX9_hiding_38 : decode cX9_hiding 38 = .ok (.aload_n 0, 1) := by decide +kernel
theorem dX9_hiding_39 : decode cX9_hiding 39 = .ok (.getfield 97, 3) := by decide +kernel
theorem dX9_hiding_42 : decode cX9_hiding 42 = .ok (.ifCond .eq 5, 3) := by decide +kernel
theorem dX9_hiding_45 : decode cX9_hiding 45 = .ok (.iconst 0, 1) := by decide +kernel
theorem dX9_hiding_46 : decode cX9_hiding 46 = .ok (.ireturn, 1) := by decide +kernel
theorem dX9_hiding_47 : decode cX9_hiding 47 = .ok (.aload_n 0, 1) := by decide +kernel
theorem dX9_hiding_48 : decode cX9_hiding 48 = .ok (.iload_n 1, 1) := by decide +kernel
theorem dX9_hiding_49 : decode cX9_hiding 49 = .ok (.iload_n 2, 1) := by decide +kernel
theorem dX9_hiding_50 : decode cX9_hiding 50 = .ok (.invokevirtual 277, 3) := by decide +kernel
theorem dX9_hiding_53 : decode cX9_hiding 53 = .ok (.istore 4, 2) := by decide +kernel
theorem dX9_hiding_55 : decode cX9_hiding 55 = .ok (.iconst 0, 1) := by decide +kernel
theorem dX9_hiding_56 : decode cX9_hiding 56 = .ok (.istore 5, 2) := by decide +kernel
theorem dX9_hiding_58 : decode cX9_hiding 58 = .ok (.iload 5, 2) := by decide +kernel
theorem dX9_hiding_60 : decode cX9_hiding 60 = .ok (.iload_n 3, 1) := by decide +kernel
theorem dX9_hiding_61 : decode cX9_hiding 61 = .ok (.if_icmp .ge 21, 3) := by decide +kernel
theorem dX9_hiding_64 : decode cX9_hiding 64 = .ok (.aload_n 0, 1) := by decide +kernel
theorem dX9_hiding_65 : decode cX9_hiding 65 = .ok (.iload 4, 2) := by decide +kernel
theorem dX9_hiding_67 : decode cX9_hiding 67 = .ok (.iload_n 2, 1) := by decide +kernel
theorem dX9_hiding_68 : decode cX9_hiding 68 = .ok (.iload 5, 2) := by decide +kernel
theorem dX9_hiding_70 : decode cX9_hiding 70 = .ok (.iadd, 1) := by decide +kernel
theorem dX9_hiding_71 : decode cX9_hiding 71 = .ok (.invokevirtual 280, 3) := by decide +kernel
theorem dX9_hiding_74 : decode cX9_hiding 74 = .ok (.istore 4, 2) := by decide +kernel
theorem dX9_hiding_76 : decode cX9_hiding 76 = .ok (.iinc 5 1, 3) := by decide +kernel
theorem dX9_hiding_79 : decode cX9_hiding 79 = .ok (.goto (-21), 3) := by decide +kernel
theorem dX9_hiding_82 : decode cX9_hiding 82 = .ok (.iload 4, 2) := by decide +kernel
theorem dX9_hiding_84 : decode cX9_hiding 84 = .ok (.ireturn, 1) := by decide +kernel
set_option maxRecDepth 20000 in
theorem ggX9_longestStay_X9_takePhases : GoodIn wsX9_longestStay wsX9_takePhases := goodIn_r _ [7, 8, 9, 10, 11, 6, 12, 13, 14, 15, 16, 17, 18, 19, 20, 64, 65, 66, 67, 68, 69, 70, 71, 72, 73, 74, 75, 76, 77, 78, 79, 80, 81, 82, 83, 84, 85, 86, 87, 88, 89, 90, 91, 92, 93, 94, 95, 96, 97, 98] (by decide +kernel) (by decide +kernel)
set_option maxRecDepth 20000 in
theorem gX9_longestStay_X9_takePhases : GoodIn wsX9_longestStay (wsV RX9 172 RX9 yX9_takePhases wsX9_takePhases) := goodIn_app (goodIn_of _ (by decide +kernel)) ggX9_longestStay_X9_takePhases
set_option maxRecDepth 20000 in
theorem ggX9_longestStay_X9_layJoined : GoodIn wsX9_longestStay wsX9_layJoined := goodIn_r _ [24, 25, 13, 26, 27, 28, 6, 29, 30, 31, 32, 33, 34, 35, 36, 64, 65, 66, 67, 68, 69, 70, 71, 72, 73, 74, 75, 76, 77, 78, 79, 80, 81, 82, 83, 84, 85, 86, 87, 88, 89, 90, 91, 92, 93, 94, 95, 96, 97, 98] (by decide +kernel) (by decide +kernel)
set_option maxRecDepth 20000 in
theorem gX9_longestStay_X9_layJoined : GoodIn wsX9_longestStay (wsV RX9 223 RX9 yX9_layJoined wsX9_layJoined) := goodIn_app (goodIn_of _ (by decide +kernel)) ggX9_longestStay_X9_layJoined
set_option maxRecDepth 20000 in
theorem ggX9_longestStay_X9_rooms : GoodIn wsX9_longestStay wsX9_rooms := goodIn_r _ [29, 13, 64, 65, 66, 67, 68, 69, 70, 71, 72, 73, 74, 75, 76, 77, 78, 79, 80, 81, 82, 83, 84, 85, 86, 87, 88, 89, 90, 91, 92, 93, 94, 95, 96, 97, 98] (by decide +kernel) (by decide +kernel)
set_option maxRecDepth 20000 in
theorem gX9_longestStay_X9_rooms : GoodIn wsX9_longestStay (wsV RX9 110 RX9 yX9_rooms wsX9_rooms) := goodIn_app (goodIn_of _ (by decide +kernel)) ggX9_longestStay_X9_rooms
set_option maxRecDepth 20000 in
theorem ggX9_longestStay_X9_seenAt : GoodIn wsX9_longestStay wsX9_seenAt := goodIn_r _ [40, 9, 10, 11, 6, 12, 13, 41, 42, 43, 44, 8, 45, 46, 47, 48, 18, 19, 20, 49, 50, 51, 52, 64, 65, 66, 67, 68, 69, 70, 71, 72, 73, 74, 75, 76, 77, 78, 79, 80, 81, 82, 83, 84, 85, 86, 87, 88, 89, 90, 91, 92, 93, 94, 95, 96, 97, 98] (by decide +kernel) (by decide +kernel)
set_option maxRecDepth 20000 in
theorem gX9_longestStay_X9_seenAt : GoodIn wsX9_longestStay (wsV RX9 160 RX9 yX9_seenAt wsX9_seenAt) := goodIn_app (goodIn_of _ (by decide +kernel)) ggX9_longestStay_X9_seenAt
set_option maxRecDepth 20000 in
theorem ggX9_longestStay_X9_nextRooms : GoodIn wsX9_longestStay wsX9_nextRooms := goodIn_r _ [56, 26, 27, 28, 6, 29, 13, 57, 58, 59, 60, 61, 62, 63, 25, 9, 10, 11, 12, 41, 42, 43, 44, 8, 45, 46, 47, 48, 18, 19, 20, 49, 50, 51, 52, 37, 38, 39, 40, 64, 65, 66, 67, 68, 69, 70, 71, 72, 73, 74, 75, 76, 77, 78, 79, 80, 81, 82, 83, 84, 85, 86, 87, 88, 89, 90, 91, 92, 93, 94, 95, 96, 97, 98] (by decide +kernel) (by decide +kernel)
set_option maxRecDepth 20000 in
theorem gX9_longestStay_X9_nextRooms : GoodIn wsX9_longestStay (wsV RX9 280 RX9 yX9_nextRooms wsX9_nextRooms) := goodIn_app (goodIn_of _ (by decide +kernel)) ggX9_longestStay_X9_nextRooms
theorem dX9_longestStay_0 : decode cX9_longestStay 0 = .ok (.aload_n 0, 1) := by decide +kernel
theorem dX9_longestStay_1 : decode cX9_longestStay 1 = .ok (.iconst 0, 1) := by decide +kernel
theorem dX9_longestStay_2 : decode cX9_longestStay 2 = .ok (.putfield 97, 3) := by decide +kernel
theorem dX9_longestStay_5 : decode cX9_longestStay 5 = .ok (.aload_n 0, 1) := by decide +kernel
theorem dX9_longestStay_6 : decode cX9_longestStay 6 = .ok (.invokevirtual 172, 3) := by decide +kernel
theorem dX9_longestStay_9 : decode cX9_longestStay 9 = .ok (.aload_n 0, 1) := by decide +kernel
theorem dX9_longestStay_10 : decode cX9_longestStay 10 = .ok (.invokevirtual 223, 3) := by decide +kernel
theorem dX9_longestStay_13 : decode cX9_longestStay 13 = .ok (.iconst 1, 1) := by decide +kernel
theorem dX9_longestStay_14 : decode cX9_longestStay 14 = .ok (.aload_n 0, 1) := by decide +kernel
theorem dX9_longestStay_15 : decode cX9_longestStay 15 = .ok (.invokevirtual 110, 3) := by decide +kernel
theorem dX9_longestStay_18 : decode cX9_longestStay 18 = .ok (.ishl, 1) := by decide +kernel
theorem dX9_longestStay_19 : decode cX9_longestStay 19 = .ok (.iconst 1, 1) := by decide +kernel
theorem dX9_longestStay_20 : decode cX9_longestStay 20 = .ok (.isub, 1) := by decide +kernel
theorem dX9_longestStay_21 : decode cX9_longestStay 21 = .ok (.aload_n 0, 1) := by decide +kernel
theorem dX9_longestStay_22 : decode cX9_longestStay 22 = .ok (.aload_n 0, 1) := by decide +kernel
theorem dX9_longestStay_23 : decode cX9_longestStay 23 = .ok (.getfield 9, 3) := by decide +kernel
theorem dX9_longestStay_26 : decode cX9_longestStay 26 = .ok (.iconst 3, 1) := by decide +kernel
theorem dX9_longestStay_27 : decode cX9_longestStay 27 = .ok (.iaload, 1) := by decide +kernel
theorem dX9_longestStay_28 : decode cX9_longestStay 28 = .ok (.invokevirtual 160, 3) := by decide +kernel
theorem dX9_longestStay_31 : decode cX9_longestStay 31 = .ok (.iconst (-1), 1) := by decide +kernel
theorem dX9_longestStay_32 : decode cX9_longestStay 32 = .ok (.ixor, 1) := by decide +kernel
theorem dX9_longestStay_33 : decode cX9_longestStay 33 = .ok (.iand, 1) := by decide +kernel
theorem dX9_longestStay_34 : decode cX9_longestStay 34 = .ok (.istore_n 1, 1) := by decide +kernel
theorem dX9_longestStay_35 : decode cX9_longestStay 35 = .ok (.iconst (-1), 1) := by decide +kernel
theorem dX9_longestStay_36 : decode cX9_longestStay 36 = .ok (.istore_n 2, 1) := by decide +kernel
theorem dX9_longestStay_37 : decode cX9_longestStay 37 = .ok (.iload_n 1, 1) := by decide +kernel
theorem dX9_longestStay_38 : decode cX9_longestStay 38 = .ok (.ifCond .eq 29, 3) := by decide +kernel
theorem dX9_longestStay_41 : decode cX9_longestStay 41 = .ok (.iload_n 2, 1) := by decide +kernel
theorem dX9_longestStay_42 : decode cX9_longestStay 42 = .ok (.bipush 100, 2) := by decide +kernel
theorem dX9_longestStay_44 : decode cX9_longestStay 44 = .ok (.if_icmp .ge 23, 3) := by decide +kernel
theorem dX9_longestStay_47 : decode cX9_longestStay 47 = .ok (.iinc 2 1, 3) := by decide +kernel
theorem dX9_longestStay_50 : decode cX9_longestStay 50 = .ok (.aload_n 0, 1) := by decide +kernel
theorem dX9_longestStay_51 : decode cX9_longestStay 51 = .ok (.iload_n 1, 1) := by decide +kernel
theorem dX9_longestStay_52 : decode cX9_longestStay 52 = .ok (.aload_n 0, 1) := by decide +kernel
theorem dX9_longestStay_53 : decode cX9_longestStay 53 = .ok (.getfield 9, 3) := by decide +kernel
theorem dX9_longestStay_56 : decode cX9_longestStay 56 = .ok (.iconst 3, 1) := by decide +kernel
theorem dX9_longestStay_57 : decode cX9_longestStay 57 = .ok (.iaload, 1) := by decide +kernel
theorem dX9_longestStay_58 : decode cX9_longestStay 58 = .ok (.iload_n 2, 1) := by decide +kernel
theorem dX9_longestStay_59 : decode cX9_longestStay 59 = .ok (.iadd, 1) := by decide +kernel
theorem dX9_longestStay_60 : decode cX9_longestStay 60 = .ok (.invokevirtual 280, 3) := by decide +kernel
theorem dX9_longestStay_63 : decode cX9_longestStay 63 = .ok (.istore_n 1, 1) := by decide +kernel
theorem dX9_longestStay_64 : decode cX9_longestStay 64 = .ok (.goto (-27), 3) := by decide +kernel
theorem dX9_longestStay_67 : decode cX9_longestStay 67 = .ok (.iload_n 2, 1) := by decide +kernel
theorem dX9_longestStay_68 : decode cX9_longestStay 68 = .ok (.ireturn, 1) := by decide +kernel
set_option maxRecDepth 20000 in
theorem ggX9_coverage_X9_layNow : GoodIn wsX9_coverage wsX9_layNow := goodIn_r _ [7, 8, 9, 10, 6, 11, 12, 13, 14, 15, 16, 17, 18, 19, 20, 21, 22, 23, 24, 25, 26, 27, 28, 2, 29, 30, 31, 32, 33, 34, 35, 36, 37, 38, 39, 40, 41, 42, 43, 44, 45, 46, 47, 48, 49, 50, 51, 52, 53, 54, 55, 56, 57, 58, 59, 60, 61, 62, 63, 64, 65, 66, 67, 68, 69, 70, 71, 72, 73, 74, 75, 76, 77, 82, 83, 84, 85, 86, 87, 88, 89, 90, 91, 92, 93, 94, 95, 96, 97, 98, 99, 100, 101, 102, 103, 104, 105, 106, 107, 108, 109, 110, 111, 112, 113, 114, 115, 116] (by decide +kernel) (by decide +kernel)
set_option maxRecDepth 20000 in
theorem gX9_coverage_X9_layNow : GoodIn wsX9_coverage (wsV RX9 226 RX9 yX9_layNow wsX9_layNow) := goodIn_app (goodIn_of _ (by decide +kernel)) ggX9_coverage_X9_layNow
set_option maxRecDepth 20000 in
theorem ggX9_coverage_X9_seenInCycle : GoodIn wsX9_coverage wsX9_seenInCycle := goodIn_r _ [81, 30, 45, 46, 47, 6, 48, 17, 82, 83, 84, 85, 86, 87, 88, 89, 90, 91, 92, 93, 94, 95, 96, 97, 98, 99, 100, 101, 102, 103, 104, 105, 106, 107, 108, 109, 110, 111, 112, 113, 114, 115, 116] (by decide +kernel) (by decide +kernel)
set_option maxRecDepth 20000 in
theorem gX9_coverage_X9_seenInCycle : GoodIn wsX9_coverage (wsV RX9 283 RX9 yX9_seenInCycle wsX9_seenInCycle) := goodIn_app (goodIn_of _ (by decide +kernel)) ggX9_coverage_X9_seenInCycle
set_option maxRecDepth 20000 in
theorem ggX9_coverage_X9_rooms : GoodIn wsX9_coverage wsX9_rooms := goodIn_r _ [48, 17, 82, 83, 84, 85, 86, 87, 88, 89, 90, 91, 92, 93, 94, 95, 96, 97, 98, 99, 100, 101, 102, 103, 104, 105, 106, 107, 108, 109, 110, 111, 112, 113, 114, 115, 116] (by decide +kernel) (by decide +kernel)
set_option maxRecDepth 20000 in
theorem gX9_coverage_X9_rooms : GoodIn wsX9_coverage (wsV RX9 110 RX9 yX9_rooms wsX9_rooms) := goodIn_app (goodIn_of _ (by decide +kernel)) ggX9_coverage_X9_rooms
theorem dX9_coverage_0 : decode cX9_coverage 0 = .ok (.aload_n 0, 1) := by decide +kernel
theorem dX9_coverage_1 : decode cX9_coverage 1 = .ok (.iconst 0, 1) := by decide +kernel
theorem dX9_coverage_2 : decode cX9_coverage 2 = .ok (.putfield 97, 3) := by decide +kernel
theorem dX9_coverage_5 : decode cX9_coverage 5 = .ok (.aload_n 0, 1) := by decide +kernel
theorem dX9_coverage_6 : decode cX9_coverage 6 = .ok (.invokevirtual 226, 3) := by decide +kernel
theorem dX9_coverage_9 : decode cX9_coverage 9 = .ok (.aload_n 0, 1) := by decide +kernel
theorem dX9_coverage_10 : decode cX9_coverage 10 = .ok (.invokevirtual 283, 3) := by decide +kernel
theorem dX9_coverage_13 : decode cX9_coverage 13 = .ok (.i2d, 1) := by decide +kernel
theorem dX9_coverage_14 : decode cX9_coverage 14 = .ok (.aload_n 0, 1) := by decide +kernel
theorem dX9_coverage_15 : decode cX9_coverage 15 = .ok (.invokevirtual 110, 3) := by decide +kernel
theorem dX9_coverage_18 : decode cX9_coverage 18 = .ok (.aload_n 0, 1) := by decide +kernel
theorem dX9_coverage_19 : decode cX9_coverage 19 = .ok (.getfield 157, 3) := by decide +kernel
theorem dX9_coverage_22 : decode cX9_coverage 22 = .ok (.imul, 1) := by decide +kernel
theorem dX9_coverage_23 : decode cX9_coverage 23 = .ok (.i2d, 1) := by decide +kernel
theorem dX9_coverage_24 : decode cX9_coverage 24 = .ok (.ddiv, 1) := by decide +kernel
theorem dX9_coverage_25 : decode cX9_coverage 25 = .ok (.dreturn, 1) := by decide +kernel
set_option maxRecDepth 20000 in
theorem ggX9_seenRate_X9_sightings : GoodIn wsX9_seenRate wsX9_sightings := goodIn_r _ [7, 8, 9, 10, 6, 11, 12, 13, 14, 15, 16, 17, 18, 19, 20, 21, 22, 23, 24, 25, 26, 27, 28, 29, 30, 31, 32, 33, 34, 35, 36, 37, 38, 39, 40, 41, 42, 43, 44, 45, 46, 47, 48, 49, 50, 51, 52, 53, 54] (by decide +kernel) (by decide +kernel)
set_option maxRecDepth 20000 in
theorem gX9_seenRate_X9_sightings : GoodIn wsX9_seenRate (wsV RX9 235 RX9 yX9_sightings wsX9_sightings) := goodIn_app (goodIn_of _ (by decide +kernel)) ggX9_seenRate_X9_sightings
theorem dX9_seenRate_0 : decode cX9_seenRate 0 = .ok (.aload_n 0, 1) := by decide +kernel
theorem dX9_seenRate_1 : decode cX9_seenRate 1 = .ok (.iconst 0, 1) := by decide +kernel
theorem dX9_seenRate_2 : decode cX9_seenRate 2 = .ok (.putfield 97, 3) := by decide +kernel
theorem dX9_seenRate_5 : decode cX9_seenRate 5 = .ok (.aload_n 0, 1) := by decide +kernel
theorem dX9_seenRate_6 : decode cX9_seenRate 6 = .ok (.getfield 9, 3) := by decide +kernel
theorem dX9_seenRate_9 : decode cX9_seenRate 9 = .ok (.iconst 3, 1) := by decide +kernel
theorem dX9_seenRate_10 : decode cX9_seenRate 10 = .ok (.iaload, 1) := by decide +kernel
theorem dX9_seenRate_11 : decode cX9_seenRate 11 = .ok (.ifCond .ne 7, 3) := by decide +kernel
theorem dX9_seenRate_14 : decode cX9_seenRate 14 = .ok (.fconst 0, 1) := by decide +kernel
theorem dX9_seenRate_15 : decode cX9_seenRate 15 = .ok (.goto 16, 3) := by decide +kernel
theorem dX9_seenRate_18 : decode cX9_seenRate 18 = .ok (.aload_n 0, 1) := by decide +kernel
theorem dX9_seenRate_19 : decode cX9_seenRate 19 = .ok (.invokevirtual 235, 3) := by decide +kernel
theorem dX9_seenRate_22 : decode cX9_seenRate 22 = .ok (.i2f, 1) := by decide +kernel
theorem dX9_seenRate_23 : decode cX9_seenRate 23 = .ok (.aload_n 0, 1) := by decide +kernel
theorem dX9_seenRate_24 : decode cX9_seenRate 24 = .ok (.getfield 9, 3) := by decide +kernel
theorem dX9_seenRate_27 : decode cX9_seenRate 27 = .ok (.iconst 3, 1) := by decide +kernel
theorem dX9_seenRate_28 : decode cX9_seenRate 28 = .ok (.iaload, 1) := by decide +kernel
theorem dX9_seenRate_29 : decode cX9_seenRate 29 = .ok (.i2f, 1) := by decide +kernel
theorem dX9_seenRate_30 : decode cX9_seenRate 30 = .ok (.fdiv, 1) := by decide +kernel
theorem dX9_seenRate_31 : decode cX9_seenRate 31 = .ok (.freturn, 1) := by decide +kernel
set_option maxRecDepth 20000 in
theorem ggX9_passRoom_X9_ofRoom : GoodIn wsX9_passRoom wsX9_ofRoom := goodIn_r _ [10, 11, 12, 13, 9, 14, 15, 16, 17, 18, 19, 20, 21, 22, 23, 24, 25, 26, 27, 28, 29, 30, 31, 32, 33, 34, 35, 36, 37, 38, 39, 40, 41, 42, 43, 44, 45, 46, 47, 48, 49] (by decide +kernel) (by decide +kernel)
set_option maxRecDepth 20000 in
theorem gX9_passRoom_X9_ofRoom : GoodIn wsX9_passRoom (wsV RX9 178 RX9 yX9_ofRoom wsX9_ofRoom) := goodIn_app (goodIn_of _ (by decide +kernel)) ggX9_passRoom_X9_ofRoom
set_option maxRecDepth 20000 in
theorem ggX9_passRoom_X9_roomAt : GoodIn wsX9_passRoom wsX9_roomAt := goodIn_r _ [14] (by decide +kernel) (by decide +kernel)
set_option maxRecDepth 20000 in
theorem gX9_passRoom_X9_roomAt : GoodIn wsX9_passRoom (va_wsS RX9 100 yX9_roomAt wsX9_roomAt) := goodIn_app (goodIn_of _ (by decide +kernel)) ggX9_passRoom_X9_roomAt
theorem dX9_passRoom_0 : decode cX9_passRoom 0 = .ok (.iload_n 2, 1) := by decide +kernel
theorem dX9_passRoom_1 : decode cX9_passRoom 1 = .ok (.ifCond .eq 7, 3) := by decide +kernel
theorem dX9_passRoom_4 : decode cX9_passRoom 4 = .ok (.iconst 0, 1) := by decide +kernel
theorem dX9_passRoom_5 : decode cX9_passRoom 5 = .ok (.goto 11, 3) := by decide +kernel
theorem dX9_passRoom_8 : decode cX9_passRoom 8 = .ok (.aload_n 0, 1) := by decide +kernel
theorem dX9_passRoom_9 : decode cX9_passRoom 9 = .ok (.iload_n 1, 1) := by decide +kernel
theorem dX9_passRoom_10 : decode cX9_passRoom 10 = .ok (.iconst 3, 1) := by decide +kernel
theorem dX9_passRoom_11 : decode cX9_passRoom 11 = .ok (.invokevirtual 178, 3) := by decide +kernel
theorem dX9_passRoom_14 : decode cX9_passRoom 14 = .ok (.iconst 1, 1) := by decide +kernel
theorem dX9_passRoom_15 : decode cX9_passRoom 15 = .ok (.iadd, 1) := by decide +kernel
theorem dX9_passRoom_16 : decode cX9_passRoom 16 = .ok (.istore_n 3, 1) := by decide +kernel
theorem dX9_passRoom_17 : decode cX9_passRoom 17 = .ok (.aload_n 0, 1) := by decide +kernel
theorem dX9_passRoom_18 : decode cX9_passRoom 18 = .ok (.getfield 9, 3) := by decide +kernel
theorem dX9_passRoom_21 : decode cX9_passRoom 21 = .ok (.iload_n 1, 1) := by decide +kernel
theorem dX9_passRoom_22 : decode cX9_passRoom 22 = .ok (.iconst 3, 1) := by decide +kernel
theorem dX9_passRoom_23 : decode cX9_passRoom 23 = .ok (.invokestatic 100, 3) := by decide +kernel
theorem dX9_passRoom_26 : decode cX9_passRoom 26 = .ok (.iload_n 3, 1) := by decide +kernel
theorem dX9_passRoom_27 : decode cX9_passRoom 27 = .ok (.iastore, 1) := by decide +kernel
theorem dX9_passRoom_28 : decode cX9_passRoom 28 = .ok (.aload_n 0, 1) := by decide +kernel
theorem dX9_passRoom_29 : decode cX9_passRoom 29 = .ok (.getfield 9, 3) := by decide +kernel
theorem dX9_passRoom_32 : decode cX9_passRoom 32 = .ok (.iload_n 1, 1) := by decide +kernel
theorem dX9_passRoom_33 : decode cX9_passRoom 33 = .ok (.iconst 4, 1) := by decide +kernel
theorem dX9_passRoom_34 : decode cX9_passRoom 34 = .ok (.invokestatic 100, 3) := by decide +kernel
theorem dX9_passRoom_37 : decode cX9_passRoom 37 = .ok (.aload_n 0, 1) := by decide +kernel
theorem dX9_passRoom_38 : decode cX9_passRoom 38 = .ok (.iload_n 1, 1) := by decide +kernel
theorem dX9_passRoom_39 : decode cX9_passRoom 39 = .ok (.iconst 4, 1) := by decide +kernel
theorem dX9_passRoom_40 : decode cX9_passRoom 40 = .ok (.invokevirtual 178, 3) := by decide +kernel
theorem dX9_passRoom_43 : decode cX9_passRoom 43 = .ok (.iload_n 3, 1) := by decide +kernel
theorem dX9_passRoom_44 : decode cX9_passRoom 44 = .ok (.invokestatic 145, 3) := by decide +kernel
theorem dX9_passRoom_47 : decode cX9_passRoom 47 = .ok (.iastore, 1) := by decide +kernel
theorem dX9_passRoom_48 : decode cX9_passRoom 48 = .ok (.aload_n 0, 1) := by decide +kernel
theorem dX9_passRoom_49 : decode cX9_passRoom 49 = .ok (.getfield 9, 3) := by decide +kernel
theorem dX9_passRoom_52 : decode cX9_passRoom 52 = .ok (.iload_n 1, 1) := by decide +kernel
theorem dX9_passRoom_53 : decode cX9_passRoom 53 = .ok (.iconst 1, 1) := by decide +kernel
theorem dX9_passRoom_54 : decode cX9_passRoom 54 = .ok (.invokestatic 100, 3) := by decide +kernel
theorem dX9_passRoom_57 : decode cX9_passRoom 57 = .ok (.dup2, 1) := by decide +kernel
theorem dX9_passRoom_58 : decode cX9_passRoom 58 = .ok (.iaload, 1) := by decide +kernel
theorem dX9_passRoom_59 : decode cX9_passRoom 59 = .ok (.iload_n 2, 1) := by decide +kernel
theorem dX9_passRoom_60 : decode cX9_passRoom 60 = .ok (.ifCond .eq 7, 3) := by decide +kernel
theorem dX9_passRoom_63 : decode cX9_passRoom 63 = .ok (.iconst 1, 1) := by decide +kernel
theorem dX9_passRoom_64 : decode cX9_passRoom 64 = .ok (.goto 4, 3) := by decide +kernel
theorem dX9_passRoom_67 : decode cX9_passRoom 67 = .ok (.iconst 0, 1) := by decide +kernel
theorem dX9_passRoom_68 : decode cX9_passRoom 68 = .ok (.iadd, 1) := by decide +kernel
theorem dX9_passRoom_69 : decode cX9_passRoom 69 = .ok (.iastore, 1) := by decide +kernel
theorem dX9_passRoom_70 : decode cX9_passRoom 70 = .ok (.aload_n 0, 1) := by decide +kernel
theorem dX9_passRoom_71 : decode cX9_passRoom 71 = .ok (.getfield 9, 3) := by decide +kernel
theorem dX9_passRoom_74 : decode cX9_passRoom 74 = .ok (.iload_n 1, 1) := by decide +kernel
theorem dX9_passRoom_75 : decode cX9_passRoom 75 = .ok (.iconst 2, 1) := by decide +kernel
theorem dX9_passRoom_76 : decode cX9_passRoom 76 = .ok (.invokestatic 100, 3) := by decide +kernel
theorem dX9_passRoom_79 : decode cX9_passRoom 79 = .ok (.iload_n 2, 1) := by decide +kernel
theorem dX9_passRoom_80 : decode cX9_passRoom 80 = .ok (.ifCond .eq 12, 3) := by decide +kernel
theorem dX9_passRoom_83 : decode cX9_passRoom 83 = .ok (.aload_n 0, 1) := by decide +kernel
theorem dX9_passRoom_84 : decode cX9_passRoom 84 = .ok (.getfield 9, 3) := by decide +kernel
theorem dX9_passRoom_87 : decode cX9_passRoom 87 = .ok (.iconst 3, 1) := by decide +kernel
theorem dX9_passRoom_88 : decode cX9_passRoom 88 = .ok (.iaload, 1) := by decide +kernel
theorem dX9_passRoom_89 : decode cX9_passRoom 89 = .ok (.goto 9, 3) := by decide +kernel
theorem dX9_passRoom_92 : decode cX9_passRoom 92 = .ok (.aload_n 0, 1) := by decide +kernel
theorem dX9_passRoom_93 : decode cX9_passRoom 93 = .ok (.iload_n 1, 1) := by decide +kernel
theorem dX9_passRoom_94 : decode cX9_passRoom 94 = .ok (.iconst 2, 1) := by decide +kernel
theorem dX9_passRoom_95 : decode cX9_passRoom 95 = .ok (.invokevirtual 178, 3) := by decide +kernel
theorem dX9_passRoom_98 : decode cX9_passRoom 98 = .ok (.iastore, 1) := by decide +kernel
theorem dX9_passRoom_99 : decode cX9_passRoom 99 = .ok (.return_, 1) := by decide +kernel
set_option maxRecDepth 20000 in
theorem ggX9_pass_X9_inRange : GoodIn wsX9_pass wsX9_inRange := goodIn_r _ [7] (by decide +kernel) (by decide +kernel)
set_option maxRecDepth 20000 in
theorem gX9_pass_X9_inRange : GoodIn wsX9_pass (va_wsS RX9 114 yX9_inRange wsX9_inRange) := goodIn_app (goodIn_of _ (by decide +kernel)) ggX9_pass_X9_inRange
set_option maxRecDepth 20000 in
theorem ggX9_pass_X9_raise : GoodIn wsX9_pass wsX9_raise := goodIn_r _ [11, 1, 80, 81, 82, 83, 84, 85, 86, 87, 88, 89, 90, 91, 92, 93, 94, 95, 96, 97, 98, 99, 100, 101, 102, 103, 104, 105, 106, 107, 108, 109, 110, 111, 112, 113, 114] (by decide +kernel) (by decide +kernel)
set_option maxRecDepth 20000 in
theorem gX9_pass_X9_raise : GoodIn wsX9_pass (wsV RX9 237 RX9 yX9_raise wsX9_raise) := goodIn_app (goodIn_of _ (by decide +kernel)) ggX9_pass_X9_raise
set_option maxRecDepth 20000 in
theorem ggX9_pass_X9_record : GoodIn wsX9_pass wsX9_record := goodIn_r _ [15, 16, 17, 2, 18, 19, 6, 20, 80, 81, 82, 83, 84, 85, 86, 87, 88, 89, 90, 91, 92, 93, 94, 95, 96, 97, 98, 99, 100, 101, 102, 103, 104, 105, 106, 107, 108, 109, 110, 111, 112, 113, 114] (by decide +kernel) (by decide +kernel)
set_option maxRecDepth 20000 in
theorem gX9_pass_X9_record : GoodIn wsX9_pass (wsV RX9 287 RX9 yX9_record wsX9_record) := goodIn_app (goodIn_of _ (by decide +kernel)) ggX9_pass_X9_record
set_option maxRecDepth 20000 in
theorem ggX9_pass_X9_takePhases : GoodIn wsX9_pass wsX9_takePhases := goodIn_r _ [24, 25, 26, 27, 28, 6, 29, 30, 31, 32, 33, 34, 35, 36, 37, 80, 81, 82, 83, 84, 85, 86, 87, 88, 89, 90, 91, 92, 93, 94, 95, 96, 97, 98, 99, 100, 101, 102, 103, 104, 105, 106, 107, 108, 109, 110, 111, 112, 113, 114] (by decide +kernel) (by decide +kernel)
set_option maxRecDepth 20000 in
theorem gX9_pass_X9_takePhases : GoodIn wsX9_pass (wsV RX9 172 RX9 yX9_takePhases wsX9_takePhases) := goodIn_app (goodIn_of _ (by decide +kernel)) ggX9_pass_X9_takePhases
set_option maxRecDepth 20000 in
theorem ggX9_pass_X9_sightings : GoodIn wsX9_pass wsX9_sightings := goodIn_r _ [41, 42, 43, 44, 6, 45, 30, 46, 47, 48, 49, 50, 51, 52, 80, 81, 82, 83, 84, 85, 86, 87, 88, 89, 90, 91, 92, 93, 94, 95, 96, 97, 98, 99, 100, 101, 102, 103, 104, 105, 106, 107, 108, 109, 110, 111, 112, 113, 114] (by decide +kernel) (by decide +kernel)
set_option maxRecDepth 20000 in
theorem gX9_pass_X9_sightings : GoodIn wsX9_pass (wsV RX9 235 RX9 yX9_sightings wsX9_sightings) := goodIn_app (goodIn_of _ (by decide +kernel)) ggX9_pass_X9_sightings
set_option maxRecDepth 20000 in
theorem ggX9_pass_X9_seenAt : GoodIn wsX9_pass wsX9_seenAt := goodIn_r _ [56, 26, 27, 28, 6, 29, 30, 57, 58, 59, 60, 25, 61, 62, 63, 64, 35, 36, 37, 65, 66, 67, 68, 80, 81, 82, 83, 84, 85, 86, 87, 88, 89, 90, 91, 92, 93, 94, 95, 96, 97, 98, 99, 100, 101, 102, 103, 104, 105, 106, 107, 108, 109, 110, 111, 112, 113, 114] (by decide +kernel) (by decide +kernel)
set_option maxRecDepth 20000 in
theorem gX9_pass_X9_seenAt : GoodIn wsX9_pass (wsV RX9 160 RX9 yX9_seenAt wsX9_seenAt) := goodIn_app (goodIn_of _ (by decide +kernel)) ggX9_pass_X9_seenAt
set_option maxRecDepth 20000 in
theorem ggX9_pass_X9_rooms : GoodIn wsX9_pass wsX9_rooms := goodIn_r _ [45, 30, 80, 81, 82, 83, 84, 85, 86, 87, 88, 89, 90, 91, 92, 93, 94, 95, 96, 97, 98, 99, 100, 101, 102, 103, 104, 105, 106, 107, 108, 109, 110, 111, 112, 113, 114] (by decide +kernel) (by decide +kernel)
set_option maxRecDepth 20000 in
theorem gX9_pass_X9_rooms : GoodIn wsX9_pass (wsV RX9 110 RX9 yX9_rooms wsX9_rooms) := goodIn_app (goodIn_of _ (by decide +kernel)) ggX9_pass_X9_rooms
set_option maxRecDepth 20000 in
theorem ggX9_pass_X9_has : GoodIn wsX9_pass wsX9_has := goodIn_r _ [71] (by decide +kernel) (by decide +kernel)
set_option maxRecDepth 20000 in
theorem gX9_pass_X9_has : GoodIn wsX9_pass (va_wsS RX9 216 yX9_has wsX9_has) := goodIn_app (goodIn_of _ (by decide +kernel)) ggX9_pass_X9_has
set_option maxRecDepth 20000 in
theorem ggX9_pass_X9_passRoom : GoodIn wsX9_pass wsX9_passRoom := goodIn_r _ [75, 2, 76, 77, 78, 79, 46, 47, 48, 6, 49, 30, 50, 51, 52, 80, 81, 82, 83, 84, 85, 86, 87, 88, 89, 90, 91, 92, 93, 94, 95, 96, 97, 98, 99, 100, 101, 102, 103, 104, 105, 106, 107, 108, 109, 110, 111, 112, 113, 114] (by decide +kernel) (by decide +kernel)
set_option maxRecDepth 20000 in
theorem gX9_pass_X9_passRoom : GoodIn wsX9_pass (wsV RX9 290 RX9 yX9_passRoom wsX9_passRoom) := goodIn_app (goodIn_of _ (by decide +kernel)) ggX9_pass_X9_passRoom
theorem dX9_pass_0 : decode cX9_pass 0 = .ok (.aload_n 0, 1) := by decide +kernel
theorem dX9_pass_1 : decode cX9_pass 1 = .ok (.iconst 0, 1) := by decide +kernel
theorem dX9_pass_2 : decode cX9_pass 2 = .ok (.putfield 97, 3) := by decide +kernel
theorem dX9_pass_5 : decode cX9_pass 5 = .ok (.iload_n 1, 1) := by decide +kernel
theorem dX9_pass_6 : decode cX9_pass 6 = .ok (.iconst 1, 1) := by decide +kernel
theorem dX9_pass_7 : decode cX9_pass 7 = .ok (.sipush 500, 3) := by decide +kernel
theorem dX9_pass_10 : decode cX9_pass 10 = .ok (.invokestatic 114, 3) := by decide +kernel
theorem dX9_pass_13 : decode cX9_pass 13 = .ok (.ifCond .ne 9, 3) := by decide +kernel
theorem dX9_pass_16 : decode cX9_pass 16 = .ok (.aload_n 0, 1) := by decide +kernel
theorem dX9_pass_17 : decode cX9_pass 17 = .ok (.iconst 1, 1) := by decide +kernel
theorem dX9_pass_18 : decode cX9_pass 18 = .ok (.invokevirtual 237, 3) := by decide +kernel
theorem dX9_pass_21 : decode cX9_pass 21 = .ok (.ireturn, 1) := by decide +kernel
theorem dX9_pass_22 : decode cX9_pass 22 = .ok (.aload_n 0, 1) := by decide +kernel
theorem dX9_pass_23 : decode cX9_pass 23 = .ok (.getfield 9, 3) := by decide +kernel
theorem dX9_pass_26 : decode cX9_pass 26 = .ok (.iconst 3, 1) := by decide +kernel
theorem dX9_pass_27 : decode cX9_pass 27 = .ok (.iaload, 1) := by decide +kernel
theorem dX9_pass_28 : decode cX9_pass 28 = .ok (.iload_n 1, 1) := by decide +kernel
theorem dX9_pass_29 : decode cX9_pass 29 = .ok (.iadd, 1) := by decide +kernel
theorem dX9_pass_30 : decode cX9_pass 30 = .ok (.ldc_w 286, 3) := by decide +kernel
theorem dX9_pass_33 : decode cX9_pass 33 = .ok (.if_icmp .le 6, 3) := by decide +kernel
theorem dX9_pass_36 : decode cX9_pass 36 = .ok (.bipush (-2), 2) := by decide +kernel
theorem dX9_pass_38 : decode cX9_pass 38 = .ok (.ireturn, 1) := by decide +kernel
theorem dX9_pass_39 : decode cX9_pass 39 = .ok (.aload_n 0, 1) := by decide +kernel
theorem dX9_pass_40 : decode cX9_pass 40 = .ok (.invokevirtual 287, 3) := by decide +kernel
theorem dX9_pass_43 : decode cX9_pass 43 = .ok (.aload_n 0, 1) := by decide +kernel
theorem dX9_pass_44 : decode cX9_pass 44 = .ok (.invokevirtual 172, 3) := by decide +kernel
theorem dX9_pass_47 : decode cX9_pass 47 = .ok (.aload_n 0, 1) := by decide +kernel
theorem dX9_pass_48 : decode cX9_pass 48 = .ok (.invokevirtual 235, 3) := by decide +kernel
theorem dX9_pass_51 : decode cX9_pass 51 = .ok (.istore_n 2, 1) := by decide +kernel
theorem dX9_pass_52 : decode cX9_pass 52 = .ok (.iconst 0, 1) := by decide +kernel
theorem dX9_pass_53 : decode cX9_pass 53 = .ok (.istore_n 3, 1) := by decide +kernel
theorem dX9_pass_54 : decode cX9_pass 54 = .ok (.iload_n 3, 1) := by decide +kernel
theorem dX9_pass_55 : decode cX9_pass 55 = .ok (.iload_n 1, 1) := by decide +kernel
theorem dX9_pass_56 : decode cX9_pass 56 = .ok (.if_icmp .ge 62, 3) := by decide +kernel
theorem dX9_pass_59 : decode cX9_pass 59 = .ok (.aload_n 0, 1) := by decide +kernel
theorem dX9_pass_60 : decode cX9_pass 60 = .ok (.aload_n 0, 1) := by decide +kernel
theorem dX9_pass_61 : decode cX9_pass 61 = .ok (.getfield 9, 3) := by decide +kernel
theorem dX9_pass_64 : decode cX9_pass 64 = .ok (.iconst 3, 1) := by decide +kernel
theorem dX9_pass_65 : decode cX9_pass 65 = .ok (.iaload, 1) := by decide +kernel
theorem dX9_pass_66 : decode cX9_pass 66 = .ok (.invokevirtual 160, 3) := by decide +kernel
theorem dX9_pass_69 : decode cX9_pass 69 = .ok (.istore 4, 2) := by decide +kernel
theorem dX9_pass_71 : decode cX9_pass 71 = .ok (.iconst 0, 1) := by decide +kernel
theorem dX9_pass_72 : decode cX9_pass 72 = .ok (.istore 5, 2) := by decide +kernel
theorem dX9_pass_74 : decode cX9_pass 74 = .ok (.iload 5, 2) := by decide +kernel
theorem dX9_pass_76 : decode cX9_pass 76 = .ok (.aload_n 0, 1) := by decide +kernel
theorem dX9_pass_77 : decode cX9_pass 77 = .ok (.invokevirtual 110, 3) := by decide +kernel
theorem dX9_pass_80 : decode cX9_pass 80 = .ok (.if_icmp .ge 22, 3) := by decide +kernel
theorem dX9_pass_83 : decode cX9_pass 83 = .ok (.aload_n 0, 1) := by decide +kernel
theorem dX9_pass_84 : decode cX9_pass 84 = .ok (.iload 5, 2) := by decide +kernel
theorem dX9_pass_86 : decode cX9_pass 86 = .ok (.iload 4, 2) := by decide +kernel
theorem dX9_pass_88 : decode cX9_pass 88 = .ok (.iload 5, 2) := by decide +kernel
theorem dX9_pass_90 : decode cX9_pass 90 = .ok (.invokestatic 216, 3) := by decide +kernel
theorem dX9_pass_93 : decode cX9_pass 93 = .ok (.invokevirtual 290, 3) := by decide +kernel
theorem dX9_pass_96 : decode cX9_pass 96 = .ok (.iinc 5 1, 3) := by decide +kernel
theorem dX9_pass_99 : decode cX9_pass 99 = .ok (.goto (-25), 3) := by decide +kernel
theorem dX9_pass_102 : decode cX9_pass 102 = .ok (.aload_n 0, 1) := by decide +kernel
theorem dX9_pass_103 : decode cX9_pass 103 = .ok (.getfield 9, 3) := by decide +kernel
theorem dX9_pass_106 : decode cX9_pass 106 = .ok (.iconst 3, 1) := by decide +kernel
theorem dX9_pass_107 : decode cX9_pass 107 = .ok (.dup2, 1) := by decide +kernel
theorem dX9_pass_108 : decode cX9_pass 108 = .ok (.iaload, 1) := by decide +kernel
theorem dX9_pass_109 : decode cX9_pass 109 = .ok (.iconst 1, 1) := by decide +kernel
theorem dX9_pass_110 : decode cX9_pass 110 = .ok (.iadd, 1) := by decide +kernel
theorem dX9_pass_111 : decode cX9_pass 111 = .ok (.iastore, 1) := by decide +kernel
theorem dX9_pass_112 : decode cX9_pass 112 = .ok (.iinc 3 1, 3) := by decide +kernel
theorem dX9_pass_115 : decode cX9_pass 115 = .ok (.goto (-61), 3) := by decide +kernel
theorem dX9_pass_118 : decode cX9_pass 118 = .ok (.aload_n 0, 1) := by decide +kernel
theorem dX9_pass_119 : decode cX9_pass 119 = .ok (.invokevirtual 235, 3) := by decide +kernel
theorem dX9_pass_122 : decode cX9_pass 122 = .ok (.iload_n 2, 1) := by decide +kernel
theorem dX9_pass_123 : decode cX9_pass 123 = .ok (.isub, 1) := by decide +kernel
theorem dX9_pass_124 : decode cX9_pass 124 = .ok (.ireturn, 1) := by decide +kernel
set_option maxRecDepth 20000 in
theorem ggX9_shift_X9_isGuard : GoodIn wsX9_shift wsX9_isGuard := goodIn_r _ [7, 8, 9, 10, 6, 11, 12, 13, 14, 15, 103, 104, 105, 106, 107, 108, 109, 110, 111, 112, 113, 114, 115, 116, 117, 118, 119, 120, 121, 122, 123, 124, 125, 126, 127, 128, 129, 130, 131, 132, 133, 134, 135, 136, 137] (by decide +kernel) (by decide +kernel)
set_option maxRecDepth 20000 in
theorem gX9_shift_X9_isGuard : GoodIn wsX9_shift (wsV RX9 252 RX9 yX9_isGuard wsX9_isGuard) := goodIn_app (goodIn_of _ (by decide +kernel)) ggX9_shift_X9_isGuard
set_option maxRecDepth 20000 in
theorem ggX9_shift_X9_isPhase : GoodIn wsX9_shift wsX9_isPhase := goodIn_r _ [19, 20, 21, 22, 6, 23, 12, 24, 25, 26, 13, 14, 15, 103, 104, 105, 106, 107, 108, 109, 110, 111, 112, 113, 114, 115, 116, 117, 118, 119, 120, 121, 122, 123, 124, 125, 126, 127, 128, 129, 130, 131, 132, 133, 134, 135, 136, 137] (by decide +kernel) (by decide +kernel)
set_option maxRecDepth 20000 in
theorem gX9_shift_X9_isPhase : GoodIn wsX9_shift (wsV RX9 271 RX9 yX9_isPhase wsX9_isPhase) := goodIn_app (goodIn_of _ (by decide +kernel)) ggX9_shift_X9_isPhase
set_option maxRecDepth 20000 in
theorem ggX9_shift_X9_record : GoodIn wsX9_shift wsX9_record := goodIn_r _ [30, 31, 32, 2, 33, 34, 6, 35, 103, 104, 105, 106, 107, 108, 109, 110, 111, 112, 113, 114, 115, 116, 117, 118, 119, 120, 121, 122, 123, 124, 125, 126, 127, 128, 129, 130, 131, 132, 133, 134, 135, 136, 137] (by decide +kernel) (by decide +kernel)
set_option maxRecDepth 20000 in
theorem gX9_shift_X9_record : GoodIn wsX9_shift (wsV RX9 287 RX9 yX9_record wsX9_record) := goodIn_app (goodIn_of _ (by decide +kernel)) ggX9_shift_X9_record
set_option maxRecDepth 20000 in
theorem ggX9_shift_X9_guardAt : GoodIn wsX9_shift wsX9_guardAt := goodIn_r _ [26] (by decide +kernel) (by decide +kernel)
set_option maxRecDepth 20000 in
theorem gX9_shift_X9_guardAt : GoodIn wsX9_shift (va_wsS RX9 107 yX9_guardAt wsX9_guardAt) := goodIn_app (goodIn_of _ (by decide +kernel)) ggX9_shift_X9_guardAt
set_option maxRecDepth 20000 in
theorem ggX9_shift_X9_layNow : GoodIn wsX9_shift wsX9_layNow := goodIn_r _ [39, 40, 41, 42, 6, 43, 44, 8, 9, 10, 11, 12, 45, 46, 47, 48, 24, 25, 26, 49, 50, 51, 52, 53, 54, 55, 56, 57, 58, 59, 60, 61, 62, 20, 21, 22, 23, 63, 64, 65, 66, 67, 68, 69, 70, 71, 72, 73, 74, 75, 76, 77, 78, 79, 80, 81, 82, 83, 84, 85, 86, 87, 88, 89, 90, 91, 92, 93, 94, 95, 96, 97, 98, 103, 104, 105, 106, 107, 108, 109, 110, 111, 112, 113, 114, 115, 116, 117, 118, 119, 120, 121, 122, 123, 124, 125, 126, 127, 128, 129, 130, 131, 132, 133, 134, 135, 136, 137] (by decide +kernel) (by decide +kernel)
set_option maxRecDepth 20000 in
theorem gX9_shift_X9_layNow : GoodIn wsX9_shift (wsV RX9 226 RX9 yX9_layNow wsX9_layNow) := goodIn_app (goodIn_of _ (by decide +kernel)) ggX9_shift_X9_layNow
set_option maxRecDepth 20000 in
theorem ggX9_shift_X9_worstLaid : GoodIn wsX9_shift wsX9_worstLaid := goodIn_r _ [102, 56, 95, 96, 97, 98, 66, 67, 68, 6, 69, 12, 103, 104, 105, 106, 107, 108, 109, 110, 111, 112, 113, 114, 115, 116, 117, 118, 119, 120, 121, 122, 123, 124, 125, 126, 127, 128, 129, 130, 131, 132, 133, 134, 135, 136, 137] (by decide +kernel) (by decide +kernel)
set_option maxRecDepth 20000 in
theorem gX9_shift_X9_worstLaid : GoodIn wsX9_shift (wsV RX9 197 RX9 yX9_worstLaid wsX9_worstLaid) := goodIn_app (goodIn_of _ (by decide +kernel)) ggX9_shift_X9_worstLaid
theorem dX9_shift_0 : decode cX9_shift 0 = .ok (.aload_n 0, 1) := by decide +kernel
theorem dX9_shift_1 : decode cX9_shift 1 = .ok (.aload_n 0, 1) := by decide +kernel
theorem dX9_shift_2 : decode cX9_shift 2 = .ok (.iload_n 1, 1) := by decide +kernel
theorem dX9_shift_3 : decode cX9_shift 3 = .ok (.invokevirtual 252, 3) := by decide +kernel
theorem dX9_shift_6 : decode cX9_shift 6 = .ok (.ifCond .ne 7, 3) := by decide +kernel
theorem dX9_shift_9 : decode cX9_shift 9 = .ok (.iconst 1, 1) := by decide +kernel
theorem dX9_shift_10 : decode cX9_shift 10 = .ok (.goto 17, 3) := by decide +kernel
theorem dX9_shift_13 : decode cX9_shift 13 = .ok (.aload_n 0, 1) := by decide +kernel
theorem dX9_shift_14 : decode cX9_shift 14 = .ok (.iload_n 1, 1) := by decide +kernel
theorem dX9_shift_15 : decode cX9_shift 15 = .ok (.iload_n 2, 1) := by decide +kernel
theorem dX9_shift_16 : decode cX9_shift 16 = .ok (.invokevirtual 271, 3) := by decide +kernel
theorem dX9_shift_19 : decode cX9_shift 19 = .ok (.ifCond .eq 7, 3) := by decide +kernel
theorem dX9_shift_22 : decode cX9_shift 22 = .ok (.iconst 0, 1) := by decide +kernel
theorem dX9_shift_23 : decode cX9_shift 23 = .ok (.goto 4, 3) := by decide +kernel
theorem dX9_shift_26 : decode cX9_shift 26 = .ok (.iconst 2, 1) := by decide +kernel
theorem dX9_shift_27 : decode cX9_shift 27 = .ok (.putfield 97, 3) := by decide +kernel
theorem dX9_shift_30 : decode cX9_shift 30 = .ok (.aload_n 0, 1) := by decide +kernel
theorem dX9_shift_31 : decode cX9_shift 31 = .ok (.getfield 97, 3) := by decide +kernel
theorem dX9_shift_34 : decode cX9_shift 34 = .ok (.ifCond .eq 5, 3) := by decide +kernel
theorem dX9_shift_37 : decode cX9_shift 37 = .ok (.iconst 0, 1) := by decide +kernel
theorem dX9_shift_38 : decode cX9_shift 38 = .ok (.ireturn, 1) := by decide +kernel
theorem dX9_shift_39 : decode cX9_shift 39 = .ok (.aload_n 0, 1) := by decide +kernel
theorem dX9_shift_40 : decode cX9_shift 40 = .ok (.invokevirtual 287, 3) := by decide +kernel
theorem dX9_shift_43 : decode cX9_shift 43 = .ok (.aload_n 0, 1) := by decide +kernel
theorem dX9_shift_44 : decode cX9_shift 44 = .ok (.getfield 9, 3) := by decide +kernel
theorem dX9_shift_47 : decode cX9_shift 47 = .ok (.iload_n 1, 1) := by decide +kernel
theorem dX9_shift_48 : decode cX9_shift 48 = .ok (.iconst 1, 1) := by decide +kernel
theorem dX9_shift_49 : decode cX9_shift 49 = .ok (.invokestatic 107, 3) := by decide +kernel
theorem dX9_shift_52 : decode cX9_shift 52 = .ok (.iload_n 2, 1) := by decide +kernel
theorem dX9_shift_53 : decode cX9_shift 53 = .ok (.iastore, 1) := by decide +kernel
theorem dX9_shift_54 : decode cX9_shift 54 = .ok (.aload_n 0, 1) := by decide +kernel
theorem dX9_shift_55 : decode cX9_shift 55 = .ok (.invokevirtual 226, 3) := by decide +kernel
theorem dX9_shift_58 : decode cX9_shift 58 = .ok (.aload_n 0, 1) := by decide +kernel
theorem dX9_shift_59 : decode cX9_shift 59 = .ok (.invokevirtual 197, 3) := by decide +kernel
theorem dX9_shift_62 : decode cX9_shift 62 = .ok (.ireturn, 1) := by decide +kernel
set_option maxRecDepth 20000 in
theorem ggX9_adopt_X9_record : GoodIn wsX9_adopt wsX9_record := goodIn_r _ [8, 9, 10, 3, 11, 12, 7, 13, 119, 120, 121, 122, 123, 124, 125, 126, 127, 128, 129, 130, 131, 132, 133, 134, 135, 136, 137, 138, 139, 140, 141, 142, 143, 144, 145, 146, 147, 148, 149, 150, 151, 152, 153] (by decide +kernel) (by decide +kernel)
set_option maxRecDepth 20000 in
theorem gX9_adopt_X9_record : GoodIn wsX9_adopt (wsV RX9 287 RX9 yX9_record wsX9_record) := goodIn_app (goodIn_of _ (by decide +kernel)) ggX9_adopt_X9_record
set_option maxRecDepth 20000 in
theorem ggX9_adopt_X9_layBest : GoodIn wsX9_adopt wsX9_layBest := goodIn_r _ [17, 18, 19, 20, 21, 22, 7, 23, 24, 25, 26, 27, 28, 29, 2, 30, 31, 32, 33, 34, 35, 36, 37, 38, 39, 40, 41, 42, 43, 44, 45, 46, 47, 48, 49, 50, 51, 52, 53, 54, 55, 56, 57, 58, 59, 60, 61, 62, 63, 64, 65, 66, 67, 68, 69, 70, 71, 72, 73, 74, 75, 76, 77, 78, 79, 80, 81, 82, 83, 84, 85, 86, 87, 88, 89, 90, 91, 92, 93, 94, 95, 96, 97, 98, 99, 100, 101, 102, 103, 104, 105, 106, 107, 108, 109, 110, 111, 112, 113, 114, 119, 120, 121, 122, 123, 124, 125, 126, 127, 128, 129, 130, 131, 132, 133, 134, 135, 136, 137, 138, 139, 140, 141, 142, 143, 144, 145, 146, 147, 148, 149, 150, 151, 152, 153] (by decide +kernel) (by decide +kernel)
set_option maxRecDepth 20000 in
theorem gX9_adopt_X9_layBest : GoodIn wsX9_adopt (wsV RX9 274 RX9 yX9_layBest wsX9_layBest) := goodIn_app (goodIn_of _ (by decide +kernel)) ggX9_adopt_X9_layBest
set_option maxRecDepth 20000 in
theorem ggX9_adopt_X9_guards : GoodIn wsX9_adopt wsX9_guards := goodIn_r _ [23, 24, 119, 120, 121, 122, 123, 124, 125, 126, 127, 128, 129, 130, 131, 132, 133, 134, 135, 136, 137, 138, 139, 140, 141, 142, 143, 144, 145, 146, 147, 148, 149, 150, 151, 152, 153] (by decide +kernel) (by decide +kernel)
set_option maxRecDepth 20000 in
theorem gX9_adopt_X9_guards : GoodIn wsX9_adopt (wsV RX9 118 RX9 yX9_guards wsX9_guards) := goodIn_app (goodIn_of _ (by decide +kernel)) ggX9_adopt_X9_guards
set_option maxRecDepth 20000 in
theorem ggX9_adopt_X9_phaseOf : GoodIn wsX9_adopt wsX9_phaseOf := goodIn_r _ [118, 24, 48, 49, 7, 50, 119, 120, 121, 122, 123, 124, 125, 126, 127, 128, 129, 130, 131, 132, 133, 134, 135, 136, 137, 138, 139, 140, 141, 142, 143, 144, 145, 146, 147, 148, 149, 150, 151, 152, 153] (by decide +kernel) (by decide +kernel)
set_option maxRecDepth 20000 in
theorem gX9_adopt_X9_phaseOf : GoodIn wsX9_adopt (wsV RX9 136 RX9 yX9_phaseOf wsX9_phaseOf) := goodIn_app (goodIn_of _ (by decide +kernel)) ggX9_adopt_X9_phaseOf
set_option maxRecDepth 20000 in
theorem ggX9_adopt_X9_guardAt : GoodIn wsX9_adopt wsX9_guardAt := goodIn_r _ [50] (by decide +kernel) (by decide +kernel)
set_option maxRecDepth 20000 in
theorem gX9_adopt_X9_guardAt : GoodIn wsX9_adopt (va_wsS RX9 107 yX9_guardAt wsX9_guardAt) := goodIn_app (goodIn_of _ (by decide +kernel)) ggX9_adopt_X9_guardAt
theorem dX9_adopt_0 : decode cX9_adopt 0 = .ok (.aload_n 0, 1) := by decide +kernel
theorem dX9_adopt_1 : decode cX9_adopt 1 = .ok (.iconst 0, 1) := by decide +kernel
theorem dX9_adopt_2 : decode cX9_adopt 2 = .ok (.putfield 97, 3) := by decide +kernel
theorem dX9_adopt_5 : decode cX9_adopt 5 = .ok (.aload_n 0, 1) := by decide +kernel
theorem dX9_adopt_6 : decode cX9_adopt 6 = .ok (.invokevirtual 287, 3) := by decide +kernel
theorem dX9_adopt_9 : decode cX9_adopt 9 = .ok (.aload_n 0, 1) := by decide +kernel
theorem dX9_adopt_10 : decode cX9_adopt 10 = .ok (.invokevirtual 274, 3) := by decide +kernel
theorem dX9_adopt_13 : decode cX9_adopt 13 = .ok (.iconst 0, 1) := by decide +kernel
theorem dX9_adopt_14 : decode cX9_adopt 14 = .ok (.istore_n 1, 1) := by decide +kernel
theorem dX9_adopt_15 : decode cX9_adopt 15 = .ok (.iconst 0, 1) := by decide +kernel
theorem dX9_adopt_16 : decode cX9_adopt 16 = .ok (.istore_n 2, 1) := by decide +kernel
theorem dX9_adopt_17 : decode cX9_adopt 17 = .ok (.iload_n 2, 1) := by decide +kernel
theorem dX9_adopt_18 : decode cX9_adopt 18 = .ok (.aload_n 0, 1) := by decide +kernel
theorem dX9_adopt_19 : decode cX9_adopt 19 = .ok (.invokevirtual 118, 3) := by decide +kernel
theorem dX9_adopt_22 : decode cX9_adopt 22 = .ok (.if_icmp .ge 47, 3) := by decide +kernel
theorem dX9_adopt_25 : decode cX9_adopt 25 = .ok (.iload_n 1, 1) := by decide +kernel
theorem dX9_adopt_26 : decode cX9_adopt 26 = .ok (.aload_n 0, 1) := by decide +kernel
theorem dX9_adopt_27 : decode cX9_adopt 27 = .ok (.iload_n 2, 1) := by decide +kernel
theorem dX9_adopt_28 : decode cX9_adopt 28 = .ok (.invokevirtual 136, 3) := by decide +kernel
theorem dX9_adopt_31 : decode cX9_adopt 31 = .ok (.aload_n 0, 1) := by decide +kernel
theorem dX9_adopt_32 : decode cX9_adopt 32 = .ok (.getfield 46, 3) := by decide +kernel
theorem dX9_adopt_35 : decode cX9_adopt 35 = .ok (.iload_n 2, 1) := by decide +kernel
theorem dX9_adopt_36 : decode cX9_adopt 36 = .ok (.iaload, 1) := by decide +kernel
theorem dX9_adopt_37 : decode cX9_adopt 37 = .ok (.if_icmp .ne 7, 3) := by decide +kernel
theorem dX9_adopt_40 : decode cX9_adopt 40 = .ok (.iconst 0, 1) := by decide +kernel
theorem dX9_adopt_41 : decode cX9_adopt 41 = .ok (.goto 4, 3) := by decide +kernel
theorem dX9_adopt_44 : decode cX9_adopt 44 = .ok (.iconst 1, 1) := by decide +kernel
theorem dX9_adopt_45 : decode cX9_adopt 45 = .ok (.iadd, 1) := by decide +kernel
theorem dX9_adopt_46 : decode cX9_adopt 46 = .ok (.istore_n 1, 1) := by decide +kernel
theorem dX9_adopt_47 : decode cX9_adopt 47 = .ok (.aload_n 0, 1) := by decide +kernel
theorem dX9_adopt_48 : decode cX9_adopt 48 = .ok (.getfield 9, 3) := by decide +kernel
theorem dX9_adopt_51 : decode cX9_adopt 51 = .ok (.iload_n 2, 1) := by decide +kernel
theorem dX9_adopt_52 : decode cX9_adopt 52 = .ok (.iconst 1, 1) := by decide +kernel
theorem dX9_adopt_53 : decode cX9_adopt 53 = .ok (.invokestatic 107, 3) := by decide +kernel
theorem dX9_adopt_56 : decode cX9_adopt 56 = .ok (.aload_n 0, 1) := by decide +kernel
theorem dX9_adopt_57 : decode cX9_adopt 57 = .ok (.getfield 46, 3) := by decide +kernel
theorem dX9_adopt_60 : decode cX9_adopt 60 = .ok (.iload_n 2, 1) := by decide +kernel
theorem dX9_adopt_61 : decode cX9_adopt 61 = .ok (.iaload, 1) := by decide +kernel
theorem dX9_adopt_62 : decode cX9_adopt 62 = .ok (.iastore, 1) := by decide +kernel
theorem dX9_adopt_63 : decode cX9_adopt 63 = .ok (.iinc 2 1, 3) := by decide +kernel
theorem dX9_adopt_66 : decode cX9_adopt 66 = .ok (.goto (-49), 3) := by decide +kernel
theorem dX9_adopt_69 : decode cX9_adopt 69 = .ok (.iload_n 1, 1) := by decide +kernel
theorem dX9_adopt_70 : decode cX9_adopt 70 = .ok (.ireturn, 1) := by decide +kernel
set_option maxRecDepth 20000 in
theorem ggX9_closeDoor_X9_isDoor : GoodIn wsX9_closeDoor wsX9_isDoor := goodIn_r _ [7, 8, 9, 10, 6, 11, 67, 68, 69, 70, 71, 72, 73, 74, 75, 76, 77, 78, 79, 80, 81, 82, 83, 84, 85, 86, 87, 88, 89, 90, 91, 92, 93, 94, 95, 96, 97, 98, 99, 100, 101] (by decide +kernel) (by decide +kernel)
set_option maxRecDepth 20000 in
theorem gX9_closeDoor_X9_isDoor : GoodIn wsX9_closeDoor (wsV RX9 240 RX9 yX9_isDoor wsX9_isDoor) := goodIn_app (goodIn_of _ (by decide +kernel)) ggX9_closeDoor_X9_isDoor
set_option maxRecDepth 20000 in
theorem ggX9_closeDoor_X9_raise : GoodIn wsX9_closeDoor wsX9_raise := goodIn_r _ [15, 1, 67, 68, 69, 70, 71, 72, 73, 74, 75, 76, 77, 78, 79, 80, 81, 82, 83, 84, 85, 86, 87, 88, 89, 90, 91, 92, 93, 94, 95, 96, 97, 98, 99, 100, 101] (by decide +kernel) (by decide +kernel)
set_option maxRecDepth 20000 in
theorem gX9_closeDoor_X9_raise : GoodIn wsX9_closeDoor (wsV RX9 237 RX9 yX9_raise wsX9_raise) := goodIn_app (goodIn_of _ (by decide +kernel)) ggX9_closeDoor_X9_raise
set_option maxRecDepth 20000 in
theorem ggX9_closeDoor_X9_ofDoor : GoodIn wsX9_closeDoor wsX9_ofDoor := goodIn_r _ [19, 8, 20, 21, 6, 22, 67, 68, 69, 70, 71, 72, 73, 74, 75, 76, 77, 78, 79, 80, 81, 82, 83, 84, 85, 86, 87, 88, 89, 90, 91, 92, 93, 94, 95, 96, 97, 98, 99, 100, 101] (by decide +kernel) (by decide +kernel)
set_option maxRecDepth 20000 in
theorem gX9_closeDoor_X9_ofDoor : GoodIn wsX9_closeDoor (wsV RX9 120 RX9 yX9_ofDoor wsX9_ofDoor) := goodIn_app (goodIn_of _ (by decide +kernel)) ggX9_closeDoor_X9_ofDoor
set_option maxRecDepth 20000 in
theorem ggX9_closeDoor_X9_walksThrough : GoodIn wsX9_closeDoor wsX9_walksThrough := goodIn_r _ [26, 27, 28, 29, 6, 30, 8, 16, 17, 18, 19, 20, 21, 22, 31, 32, 33, 34, 35, 36, 37, 38, 39, 40, 41, 42, 43, 44, 45, 67, 68, 69, 70, 71, 72, 73, 74, 75, 76, 77, 78, 79, 80, 81, 82, 83, 84, 85, 86, 87, 88, 89, 90, 91, 92, 93, 94, 95, 96, 97, 98, 99, 100, 101] (by decide +kernel) (by decide +kernel)
set_option maxRecDepth 20000 in
theorem gX9_closeDoor_X9_walksThrough : GoodIn wsX9_closeDoor (wsV RX9 243 RX9 yX9_walksThrough wsX9_walksThrough) := goodIn_app (goodIn_of _ (by decide +kernel)) ggX9_closeDoor_X9_walksThrough
set_option maxRecDepth 20000 in
theorem ggX9_closeDoor_X9_openBetween : GoodIn wsX9_closeDoor wsX9_openBetween := goodIn_r _ [49, 8, 50, 51, 52, 6, 53, 16, 17, 18, 19, 20, 21, 22, 67, 68, 69, 70, 71, 72, 73, 74, 75, 76, 77, 78, 79, 80, 81, 82, 83, 84, 85, 86, 87, 88, 89, 90, 91, 92, 93, 94, 95, 96, 97, 98, 99, 100, 101] (by decide +kernel) (by decide +kernel)
set_option maxRecDepth 20000 in
theorem gX9_closeDoor_X9_openBetween : GoodIn wsX9_closeDoor (wsV RX9 265 RX9 yX9_openBetween wsX9_openBetween) := goodIn_app (goodIn_of _ (by decide +kernel)) ggX9_closeDoor_X9_openBetween
set_option maxRecDepth 20000 in
theorem ggX9_closeDoor_X9_record : GoodIn wsX9_closeDoor wsX9_record := goodIn_r _ [57, 58, 59, 2, 60, 61, 6, 62, 67, 68, 69, 70, 71, 72, 73, 74, 75, 76, 77, 78, 79, 80, 81, 82, 83, 84, 85, 86, 87, 88, 89, 90, 91, 92, 93, 94, 95, 96, 97, 98, 99, 100, 101] (by decide +kernel) (by decide +kernel)
set_option maxRecDepth 20000 in
theorem gX9_closeDoor_X9_record : GoodIn wsX9_closeDoor (wsV RX9 287 RX9 yX9_record wsX9_record) := goodIn_app (goodIn_of _ (by decide +kernel)) ggX9_closeDoor_X9_record
set_option maxRecDepth 20000 in
theorem ggX9_closeDoor_X9_doorAt : GoodIn wsX9_closeDoor wsX9_doorAt := goodIn_r _ [22] (by decide +kernel) (by decide +kernel)
set_option maxRecDepth 20000 in
theorem gX9_closeDoor_X9_doorAt : GoodIn wsX9_closeDoor (va_wsS RX9 104 yX9_doorAt wsX9_doorAt) := goodIn_app (goodIn_of _ (by decide +kernel)) ggX9_closeDoor_X9_doorAt
set_option maxRecDepth 20000 in
theorem ggX9_closeDoor_X9_openAt : GoodIn wsX9_closeDoor wsX9_openAt := goodIn_r _ [66, 8, 16, 17, 18, 6, 19, 20, 21, 22, 67, 68, 69, 70, 71, 72, 73, 74, 75, 76, 77, 78, 79, 80, 81, 82, 83, 84, 85, 86, 87, 88, 89, 90, 91, 92, 93, 94, 95, 96, 97, 98, 99, 100, 101] (by decide +kernel) (by decide +kernel)
set_option maxRecDepth 20000 in
theorem gX9_closeDoor_X9_openAt : GoodIn wsX9_closeDoor (wsV RX9 232 RX9 yX9_openAt wsX9_openAt) := goodIn_app (goodIn_of _ (by decide +kernel)) ggX9_closeDoor_X9_openAt
theorem dX9_closeDoor_0 : decode cX9_closeDoor 0 = .ok (.aload_n 0, 1) := by decide +kernel
theorem dX9_closeDoor_1 : decode cX9_closeDoor 1 = .ok (.iconst 0, 1) := by decide +kernel
theorem dX9_closeDoor_2 : decode cX9_closeDoor 2 = .ok (.putfield 97, 3) := by decide +kernel
theorem dX9_closeDoor_5 : decode cX9_closeDoor 5 = .ok (.aload_n 0, 1) := by decide +kernel
theorem dX9_closeDoor_6 : decode cX9_closeDoor 6 = .ok (.iload_n 1, 1) := by decide +kernel
theorem dX9_closeDoor_7 : decode cX9_closeDoor 7 = .ok (.invokevirtual 240, 3) := by decide +kernel
theorem dX9_closeDoor_10 : decode cX9_closeDoor 10 = .ok (.ifCond .ne 9, 3) := by decide +kernel
theorem dX9_closeDoor_13 : decode cX9_closeDoor 13 = .ok (.aload_n 0, 1) := by decide +kernel
theorem dX9_closeDoor_14 : decode cX9_closeDoor 14 = .ok (.iconst 1, 1) := by decide +kernel
theorem dX9_closeDoor_15 : decode cX9_closeDoor 15 = .ok (.invokevirtual 237, 3) := by decide +kernel
theorem dX9_closeDoor_18 : decode cX9_closeDoor 18 = .ok (.ireturn, 1) := by decide +kernel
theorem dX9_closeDoor_19 : decode cX9_closeDoor 19 = .ok (.aload_n 0, 1) := by decide +kernel
theorem dX9_closeDoor_20 : decode cX9_closeDoor 20 = .ok (.iload_n 1, 1) := by decide +kernel
theorem dX9_closeDoor_21 : decode cX9_closeDoor 21 = .ok (.iconst 2, 1) := by decide +kernel
theorem dX9_closeDoor_22 : decode cX9_closeDoor 22 = .ok (.invokevirtual 120, 3) := by decide +kernel
theorem dX9_closeDoor_25 : decode cX9_closeDoor 25 = .ok (.ifCond .ne 6, 3) := by decide +kernel
theorem dX9_closeDoor_28 : decode cX9_closeDoor 28 = .ok (.bipush (-2), 2) := by decide +kernel
theorem dX9_closeDoor_30 : decode cX9_closeDoor 30 = .ok (.ireturn, 1) := by decide +kernel
theorem dX9_closeDoor_31 : decode cX9_closeDoor 31 = .ok (.aload_n 0, 1) := by decide +kernel
theorem dX9_closeDoor_32 : decode cX9_closeDoor 32 = .ok (.iload_n 1, 1) := by decide +kernel
theorem dX9_closeDoor_33 : decode cX9_closeDoor 33 = .ok (.invokevirtual 243, 3) := by decide +kernel
theorem dX9_closeDoor_36 : decode cX9_closeDoor 36 = .ok (.ifCond .le 26, 3) := by decide +kernel
theorem dX9_closeDoor_39 : decode cX9_closeDoor 39 = .ok (.aload_n 0, 1) := by decide +kernel
theorem dX9_closeDoor_40 : decode cX9_closeDoor 40 = .ok (.aload_n 0, 1) := by decide +kernel
theorem dX9_closeDoor_41 : decode cX9_closeDoor 41 = .ok (.iload_n 1, 1) := by decide +kernel
theorem dX9_closeDoor_42 : decode cX9_closeDoor 42 = .ok (.iconst 0, 1) := by decide +kernel
theorem dX9_closeDoor_43 : decode cX9_closeDoor 43 = .ok (.invokevirtual 120, 3) := by decide +kernel
theorem dX9_closeDoor_46 : decode cX9_closeDoor 46 = .ok (.aload_n 0, 1) := by decide +kernel
theorem dX9_closeDoor_47 : decode cX9_closeDoor 47 = .ok (.iload_n 1, 1) := by decide +kernel
theorem dX9_closeDoor_48 : decode cX9_closeDoor 48 = .ok (.iconst 1, 1) := by decide +kernel
theorem dX9_closeDoor_49 : decode cX9_closeDoor 49 = .ok (.invokevirtual 120, 3) := by decide +kernel
theorem dX9_closeDoor_52 : decode cX9_closeDoor 52 = .ok (.invokevirtual 265, 3) := by decide +kernel
theorem dX9_closeDoor_55 : decode cX9_closeDoor 55 = .ok (.iconst 1, 1) := by decide +kernel
theorem dX9_closeDoor_56 : decode cX9_closeDoor 56 = .ok (.if_icmp .ne 6, 3) := by decide +kernel
theorem dX9_closeDoor_59 : decode cX9_closeDoor 59 = .ok (.bipush (-3), 2) := by decide +kernel
theorem dX9_closeDoor_61 : decode cX9_closeDoor 61 = .ok (.ireturn, 1) := by decide +kernel
theorem dX9_closeDoor_62 : decode cX9_closeDoor 62 = .ok (.aload_n 0, 1) := by decide +kernel
theorem dX9_closeDoor_63 : decode cX9_closeDoor 63 = .ok (.invokevirtual 287, 3) := by decide +kernel
theorem dX9_closeDoor_66 : decode cX9_closeDoor 66 = .ok (.aload_n 0, 1) := by decide +kernel
theorem dX9_closeDoor_67 : decode cX9_closeDoor 67 = .ok (.getfield 9, 3) := by decide +kernel
theorem dX9_closeDoor_70 : decode cX9_closeDoor 70 = .ok (.iload_n 1, 1) := by decide +kernel
theorem dX9_closeDoor_71 : decode cX9_closeDoor 71 = .ok (.iconst 2, 1) := by decide +kernel
theorem dX9_closeDoor_72 : decode cX9_closeDoor 72 = .ok (.invokestatic 104, 3) := by decide +kernel
theorem dX9_closeDoor_75 : decode cX9_closeDoor 75 = .ok (.iconst 0, 1) := by decide +kernel
theorem dX9_closeDoor_76 : decode cX9_closeDoor 76 = .ok (.iastore, 1) := by decide +kernel
theorem dX9_closeDoor_77 : decode cX9_closeDoor 77 = .ok (.aload_n 0, 1) := by decide +kernel
theorem dX9_closeDoor_78 : decode cX9_closeDoor 78 = .ok (.iconst (-1), 1) := by decide +kernel
theorem dX9_closeDoor_79 : decode cX9_closeDoor 79 = .ok (.invokevirtual 232, 3) := by decide +kernel
theorem dX9_closeDoor_82 : decode cX9_closeDoor 82 = .ok (.ireturn, 1) := by decide +kernel
set_option maxRecDepth 20000 in
theorem ggX9_openDoor_X9_isDoor : GoodIn wsX9_openDoor wsX9_isDoor := goodIn_r _ [7, 8, 9, 10, 6, 11, 36, 37, 38, 39, 40, 41, 42, 43, 44, 45, 46, 47, 48, 49, 50, 51, 52, 53, 54, 55, 56, 57, 58, 59, 60, 61, 62, 63, 64, 65, 66, 67, 68, 69, 70] (by decide +kernel) (by decide +kernel)
set_option maxRecDepth 20000 in
theorem gX9_openDoor_X9_isDoor : GoodIn wsX9_openDoor (wsV RX9 240 RX9 yX9_isDoor wsX9_isDoor) := goodIn_app (goodIn_of _ (by decide +kernel)) ggX9_openDoor_X9_isDoor
set_option maxRecDepth 20000 in
theorem ggX9_openDoor_X9_raise : GoodIn wsX9_openDoor wsX9_raise := goodIn_r _ [15, 1, 36, 37, 38, 39, 40, 41, 42, 43, 44, 45, 46, 47, 48, 49, 50, 51, 52, 53, 54, 55, 56, 57, 58, 59, 60, 61, 62, 63, 64, 65, 66, 67, 68, 69, 70] (by decide +kernel) (by decide +kernel)
set_option maxRecDepth 20000 in
theorem gX9_openDoor_X9_raise : GoodIn wsX9_openDoor (wsV RX9 237 RX9 yX9_raise wsX9_raise) := goodIn_app (goodIn_of _ (by decide +kernel)) ggX9_openDoor_X9_raise
set_option maxRecDepth 20000 in
theorem ggX9_openDoor_X9_ofDoor : GoodIn wsX9_openDoor wsX9_ofDoor := goodIn_r _ [19, 8, 20, 21, 6, 22, 36, 37, 38, 39, 40, 41, 42, 43, 44, 45, 46, 47, 48, 49, 50, 51, 52, 53, 54, 55, 56, 57, 58, 59, 60, 61, 62, 63, 64, 65, 66, 67, 68, 69, 70] (by decide +kernel) (by decide +kernel)
set_option maxRecDepth 20000 in
theorem gX9_openDoor_X9_ofDoor : GoodIn wsX9_openDoor (wsV RX9 120 RX9 yX9_ofDoor wsX9_ofDoor) := goodIn_app (goodIn_of _ (by decide +kernel)) ggX9_openDoor_X9_ofDoor
set_option maxRecDepth 20000 in
theorem ggX9_openDoor_X9_record : GoodIn wsX9_openDoor wsX9_record := goodIn_r _ [26, 27, 28, 2, 29, 30, 6, 31, 36, 37, 38, 39, 40, 41, 42, 43, 44, 45, 46, 47, 48, 49, 50, 51, 52, 53, 54, 55, 56, 57, 58, 59, 60, 61, 62, 63, 64, 65, 66, 67, 68, 69, 70] (by decide +kernel) (by decide +kernel)
set_option maxRecDepth 20000 in
theorem gX9_openDoor_X9_record : GoodIn wsX9_openDoor (wsV RX9 287 RX9 yX9_record wsX9_record) := goodIn_app (goodIn_of _ (by decide +kernel)) ggX9_openDoor_X9_record
set_option maxRecDepth 20000 in
theorem ggX9_openDoor_X9_doorAt : GoodIn wsX9_openDoor wsX9_doorAt := goodIn_r _ [22] (by decide +kernel) (by decide +kernel)
set_option maxRecDepth 20000 in
theorem gX9_openDoor_X9_doorAt : GoodIn wsX9_openDoor (va_wsS RX9 104 yX9_doorAt wsX9_doorAt) := goodIn_app (goodIn_of _ (by decide +kernel)) ggX9_openDoor_X9_doorAt
set_option maxRecDepth 20000 in
theorem ggX9_openDoor_X9_openAt : GoodIn wsX9_openDoor wsX9_openAt := goodIn_r _ [35, 8, 16, 17, 18, 6, 19, 20, 21, 22, 36, 37, 38, 39, 40, 41, 42, 43, 44, 45, 46, 47, 48, 49, 50, 51, 52, 53, 54, 55, 56, 57, 58, 59, 60, 61, 62, 63, 64, 65, 66, 67, 68, 69, 70] (by decide +kernel) (by decide +kernel)
set_option maxRecDepth 20000 in
theorem gX9_openDoor_X9_openAt : GoodIn wsX9_openDoor (wsV RX9 232 RX9 yX9_openAt wsX9_openAt) := goodIn_app (goodIn_of _ (by decide +kernel)) ggX9_openDoor_X9_openAt
theorem dX9_openDoor_0 : decode cX9_openDoor 0 = .ok (.aload_n 0, 1) := by decide +kernel
theorem dX9_openDoor_1 : decode cX9_openDoor 1 = .ok (.iconst 0, 1) := by decide +kernel
theorem dX9_openDoor_2 : decode cX9_openDoor 2 = .ok (.putfield 97, 3) := by decide +kernel
theorem dX9_openDoor_5 : decode cX9_openDoor 5 = .ok (.aload_n 0, 1) := by decide +kernel
theorem dX9_openDoor_6 : decode cX9_openDoor 6 = .ok (.iload_n 1, 1) := by decide +kernel
theorem dX9_openDoor_7 : decode cX9_openDoor 7 = .ok (.invokevirtual 240, 3) := by decide +kernel
theorem dX9_openDoor_10 : decode cX9_openDoor 10 = .ok (.ifCond .ne 9, 3) := by decide +kernel
theorem dX9_openDoor_13 : decode cX9_openDoor 13 = .ok (.aload_n 0, 1) := by decide +kernel
theorem dX9_openDoor_14 : decode cX9_openDoor 14 = .ok (.iconst 1, 1) := by decide +kernel
theorem dX9_openDoor_15 : decode cX9_openDoor 15 = .ok (.invokevirtual 237, 3) := by decide +kernel
theorem dX9_openDoor_18 : decode cX9_openDoor 18 = .ok (.ireturn, 1) := by decide +kernel
theorem dX9_openDoor_19 : decode cX9_openDoor 19 = .ok (.aload_n 0, 1) := by decide +kernel
theorem dX9_openDoor_20 : decode cX9_openDoor 20 = .ok (.iload_n 1, 1) := by decide +kernel
theorem dX9_openDoor_21 : decode cX9_openDoor 21 = .ok (.iconst 2, 1) := by decide +kernel
theorem dX9_openDoor_22 : decode cX9_openDoor 22 = .ok (.invokevirtual 120, 3) := by decide +kernel
theorem dX9_openDoor_25 : decode cX9_openDoor 25 = .ok (.iconst 1, 1) := by decide +kernel
theorem dX9_openDoor_26 : decode cX9_openDoor 26 = .ok (.if_icmp .ne 6, 3) := by decide +kernel
theorem dX9_openDoor_29 : decode cX9_openDoor 29 = .ok (.bipush (-2), 2) := by decide +kernel
theorem dX9_openDoor_31 : decode cX9_openDoor 31 = .ok (.ireturn, 1) := by decide +kernel
theorem dX9_openDoor_32 : decode cX9_openDoor 32 = .ok (.aload_n 0, 1) := by decide +kernel
theorem dX9_openDoor_33 : decode cX9_openDoor 33 = .ok (.invokevirtual 287, 3) := by decide +kernel
theorem dX9_openDoor_36 : decode cX9_openDoor 36 = .ok (.aload_n 0, 1) := by decide +kernel
theorem dX9_openDoor_37 : decode cX9_openDoor 37 = .ok (.getfield 9, 3) := by decide +kernel
theorem dX9_openDoor_40 : decode cX9_openDoor 40 = .ok (.iload_n 1, 1) := by decide +kernel
theorem dX9_openDoor_41 : decode cX9_openDoor 41 = .ok (.iconst 2, 1) := by decide +kernel
theorem dX9_openDoor_42 : decode cX9_openDoor 42 = .ok (.invokestatic 104, 3) := by decide +kernel
theorem dX9_openDoor_45 : decode cX9_openDoor 45 = .ok (.iconst 1, 1) := by decide +kernel
theorem dX9_openDoor_46 : decode cX9_openDoor 46 = .ok (.iastore, 1) := by decide +kernel
theorem dX9_openDoor_47 : decode cX9_openDoor 47 = .ok (.aload_n 0, 1) := by decide +kernel
theorem dX9_openDoor_48 : decode cX9_openDoor 48 = .ok (.iconst (-1), 1) := by decide +kernel
theorem dX9_openDoor_49 : decode cX9_openDoor 49 = .ok (.invokevirtual 232, 3) := by decide +kernel
theorem dX9_openDoor_52 : decode cX9_openDoor 52 = .ok (.ireturn, 1) := by decide +kernel
set_option maxRecDepth 20000 in
theorem ggX9_setLimit_X9_isRoom : GoodIn wsX9_setLimit wsX9_isRoom := goodIn_r _ [7, 8, 9, 10, 6, 11, 12, 13, 14, 15, 110, 111, 112, 113, 114, 115, 116, 117, 118, 119, 120, 121, 122, 123, 124, 125, 126, 127, 128, 129, 130, 131, 132, 133, 134, 135, 136, 137, 138, 139, 140, 141, 142, 143, 144] (by decide +kernel) (by decide +kernel)
set_option maxRecDepth 20000 in
theorem gX9_setLimit_X9_isRoom : GoodIn wsX9_setLimit (wsV RX9 246 RX9 yX9_isRoom wsX9_isRoom) := goodIn_app (goodIn_of _ (by decide +kernel)) ggX9_setLimit_X9_isRoom
set_option maxRecDepth 20000 in
theorem ggX9_setLimit_X9_inRange : GoodIn wsX9_setLimit wsX9_inRange := goodIn_r _ [15] (by decide +kernel) (by decide +kernel)
set_option maxRecDepth 20000 in
theorem gX9_setLimit_X9_inRange : GoodIn wsX9_setLimit (va_wsS RX9 114 yX9_inRange wsX9_inRange) := goodIn_app (goodIn_of _ (by decide +kernel)) ggX9_setLimit_X9_inRange
set_option maxRecDepth 20000 in
theorem ggX9_setLimit_X9_record : GoodIn wsX9_setLimit wsX9_record := goodIn_r _ [19, 20, 21, 2, 22, 23, 6, 24, 110, 111, 112, 113, 114, 115, 116, 117, 118, 119, 120, 121, 122, 123, 124, 125, 126, 127, 128, 129, 130, 131, 132, 133, 134, 135, 136, 137, 138, 139, 140, 141, 142, 143, 144] (by decide +kernel) (by decide +kernel)
set_option maxRecDepth 20000 in
theorem gX9_setLimit_X9_record : GoodIn wsX9_setLimit (wsV RX9 287 RX9 yX9_record wsX9_record) := goodIn_app (goodIn_of _ (by decide +kernel)) ggX9_setLimit_X9_record
set_option maxRecDepth 20000 in
theorem ggX9_setLimit_X9_roomAt : GoodIn wsX9_setLimit wsX9_roomAt := goodIn_r _ [27] (by decide +kernel) (by decide +kernel)
set_option maxRecDepth 20000 in
theorem gX9_setLimit_X9_roomAt : GoodIn wsX9_setLimit (va_wsS RX9 100 yX9_roomAt wsX9_roomAt) := goodIn_app (goodIn_of _ (by decide +kernel)) ggX9_setLimit_X9_roomAt
set_option maxRecDepth 20000 in
theorem ggX9_setLimit_X9_layNow : GoodIn wsX9_setLimit wsX9_layNow := goodIn_r _ [31, 32, 33, 34, 6, 35, 36, 37, 38, 39, 40, 12, 41, 42, 43, 44, 45, 46, 47, 48, 49, 50, 51, 52, 53, 54, 55, 56, 57, 58, 59, 60, 61, 62, 63, 64, 65, 66, 67, 68, 8, 9, 10, 11, 69, 70, 71, 72, 73, 74, 75, 76, 77, 78, 79, 80, 81, 82, 83, 84, 85, 86, 87, 88, 89, 90, 91, 92, 93, 94, 95, 96, 97, 110, 111, 112, 113, 114, 115, 116, 117, 118, 119, 120, 121, 122, 123, 124, 125, 126, 127, 128, 129, 130, 131, 132, 133, 134, 135, 136, 137, 138, 139, 140, 141, 142, 143, 144] (by decide +kernel) (by decide +kernel)
set_option maxRecDepth 20000 in
theorem gX9_setLimit_X9_layNow : GoodIn wsX9_setLimit (wsV RX9 226 RX9 yX9_layNow wsX9_layNow) := goodIn_app (goodIn_of _ (by decide +kernel)) ggX9_setLimit_X9_layNow
set_option maxRecDepth 20000 in
theorem ggX9_setLimit_X9_lateLaid : GoodIn wsX9_setLimit wsX9_lateLaid := goodIn_r _ [101, 8, 9, 10, 6, 11, 12, 102, 103, 104, 105, 55, 106, 107, 108, 109, 25, 26, 27, 110, 111, 112, 113, 114, 115, 116, 117, 118, 119, 120, 121, 122, 123, 124, 125, 126, 127, 128, 129, 130, 131, 132, 133, 134, 135, 136, 137, 138, 139, 140, 141, 142, 143, 144] (by decide +kernel) (by decide +kernel)
set_option maxRecDepth 20000 in
theorem gX9_setLimit_X9_lateLaid : GoodIn wsX9_setLimit (wsV RX9 229 RX9 yX9_lateLaid wsX9_lateLaid) := goodIn_app (goodIn_of _ (by decide +kernel)) ggX9_setLimit_X9_lateLaid
theorem dX9_setLimit_0 : decode cX9_setLimit 0 = .ok (.aload_n 0, 1) := by decide +kernel
theorem dX9_setLimit_1 : decode cX9_setLimit 1 = .ok (.aload_n 0, 1) := by decide +kernel
theorem dX9_setLimit_2 : decode cX9_setLimit 2 = .ok (.iload_n 1, 1) := by decide +kernel
theorem dX9_setLimit_3 : decode cX9_setLimit 3 = .ok (.invokevirtual 246, 3) := by decide +kernel
theorem dX9_setLimit_6 : decode cX9_setLimit 6 = .ok (.ifCond .ne 7, 3) := by decide +kernel
theorem dX9_setLimit_9 : decode cX9_setLimit 9 = .ok (.iconst 1, 1) := by decide +kernel
theorem dX9_setLimit_10 : decode cX9_setLimit 10 = .ok (.goto 18, 3) := by decide +kernel
theorem dX9_setLimit_13 : decode cX9_setLimit 13 = .ok (.iload_n 2, 1) := by decide +kernel
theorem dX9_setLimit_14 : decode cX9_setLimit 14 = .ok (.iconst 0, 1) := by decide +kernel
theorem dX9_setLimit_15 : decode cX9_setLimit 15 = .ok (.bipush 99, 2) := by decide +kernel
theorem dX9_setLimit_17 : decode cX9_setLimit 17 = .ok (.invokestatic 114, 3) := by decide +kernel
theorem dX9_setLimit_20 : decode cX9_setLimit 20 = .ok (.ifCond .eq 7, 3) := by decide +kernel
theorem dX9_setLimit_23 : decode cX9_setLimit 23 = .ok (.iconst 0, 1) := by decide +kernel
theorem dX9_setLimit_24 : decode cX9_setLimit 24 = .ok (.goto 4, 3) := by decide +kernel
theorem dX9_setLimit_27 : decode cX9_setLimit 27 = .ok (.iconst 2, 1) := by decide +kernel
theorem dX9_setLimit_28 : decode cX9_setLimit 28 = .ok (.putfield 97, 3) := by decide +kernel
theorem dX9_setLimit_31 : decode cX9_setLimit 31 = .ok (.aload_n 0, 1) := by decide +kernel
theorem dX9_setLimit_32 : decode cX9_setLimit 32 = .ok (.getfield 97, 3) := by decide +kernel
theorem dX9_setLimit_35 : decode cX9_setLimit 35 = .ok (.ifCond .eq 5, 3) := by decide +kernel
theorem dX9_setLimit_38 : decode cX9_setLimit 38 = .ok (.iconst 0, 1) := by decide +kernel
theorem dX9_setLimit_39 : decode cX9_setLimit 39 = .ok (.ireturn, 1) := by decide +kernel
theorem dX9_setLimit_40 : decode cX9_setLimit 40 = .ok (.aload_n 0, 1) := by decide +kernel
theorem dX9_setLimit_41 : decode cX9_setLimit 41 = .ok (.invokevirtual 287, 3) := by decide +kernel
theorem dX9_setLimit_44 : decode cX9_setLimit 44 = .ok (.aload_n 0, 1) := by decide +kernel

theorem dX9_ofDoor_1 : decode cX9_ofDoor 1 = .ok (.getfield 22, 3) := by decide +kernel
theorem dX9_ofDoor_4 : decode cX9_ofDoor 4 = .ok (.iload_n 1, 1) := by decide +kernel
theorem dX9_ofDoor_5 : decode cX9_ofDoor 5 = .ok (.iload_n 2, 1) := by decide +kernel
theorem dX9_ofDoor_6 : decode cX9_ofDoor 6 = .ok (.invokestatic 104, 3) := by decide +kernel
theorem dX9_ofDoor_9 : decode cX9_ofDoor 9 = .ok (.iaload, 1) := by decide +kernel
theorem dX9_ofDoor_10 : decode cX9_ofDoor 10 = .ok (.ireturn, 1) := by decide +kernel
set_option maxRecDepth 20000 in
theorem ggX9_period_X9_guardAt : GoodIn wsX9_period wsX9_guardAt := goodIn_r _ [5] (by decide +kernel) (by decide +kernel)
set_option maxRecDepth 20000 in
theorem gX9_period_X9_guardAt : GoodIn wsX9_period (va_wsS RX9 107 yX9_guardAt wsX9_guardAt) := goodIn_app (goodIn_of _ (by decide +kernel)) ggX9_period_X9_guardAt
theorem dX9_period_0 : decode cX9_period 0 = .ok (.aload_n 0, 1) := by decide +kernel
theorem dX9_period_1 : decode cX9_period 1 = .ok (.getfield 22, 3) := by decide +kernel
theorem dX9_period_4 : decode cX9_period 4 = .ok (.iload_n 1, 1) := by decide +kernel
theorem dX9_period_5 : decode cX9_period 5 = .ok (.iconst 0, 1) := by decide +kernel
theorem dX9_period_6 : decode cX9_period 6 = .ok (.invokestatic 107, 3) := by decide +kernel
theorem dX9_period_9 : decode cX9_period 9 = .ok (.iaload, 1) := by decide +kernel
theorem dX9_period_10 : decode cX9_period 10 = .ok (.ireturn, 1) := by decide +kernel
set_option maxRecDepth 20000 in
theorem ggX9_phaseOf_X9_guardAt : GoodIn wsX9_phaseOf wsX9_guardAt := goodIn_r _ [5] (by decide +kernel) (by decide +kernel)
set_option maxRecDepth 20000 in
theorem gX9_phaseOf_X9_guardAt : GoodIn wsX9_phaseOf (va_wsS RX9 107 yX9_guardAt wsX9_guardAt) := goodIn_app (goodIn_of _ (by decide +kernel)) ggX9_phaseOf_X9_guardAt
theorem dX9_phaseOf_0 : decode cX9_phaseOf 0 = .ok (.aload_n 0, 1) := by decide +kernel
theorem dX9_phaseOf_1 : decode cX9_phaseOf 1 = .ok (.getfield 22, 3) := by decide +kernel
theorem dX9_phaseOf_4 : decode cX9_phaseOf 4 = .ok (.iload_n 1, 1) := by decide +kernel
theorem dX9_phaseOf_5 : decode cX9_phaseOf 5 = .ok (.iconst 1, 1) := by decide +kernel
theorem dX9_phaseOf_6 : decode cX9_phaseOf 6 = .ok (.invokestatic 107, 3) := by decide +kernel
theorem dX9_phaseOf_9 : decode cX9_phaseOf 9 = .ok (.iaload, 1) := by decide +kernel
theorem dX9_phaseOf_10 : decode cX9_phaseOf 10 = .ok (.ireturn, 1) := by decide +kernel
set_option maxRecDepth 20000 in
theorem ggX9_step_X9_guardAt : GoodIn wsX9_step wsX9_guardAt := goodIn_r _ [5] (by decide +kernel) (by decide +kernel)
set_option maxRecDepth 20000 in
theorem gX9_step_X9_guardAt : GoodIn wsX9_step (va_wsS RX9 107 yX9_guardAt wsX9_guardAt) := goodIn_app (goodIn_of _ (by decide +kernel)) ggX9_step_X9_guardAt
theorem dX9_step_0 : decode cX9_step 0 = .ok (.aload_n 0, 1) := by decide +kernel
theorem dX9_step_1 : decode cX9_step 1 = .ok (.getfield 22, 3) := by decide +kernel
theorem dX9_step_4 : decode cX9_step 4 = .ok (.iload_n 1, 1) := by decide +kernel
theorem dX9_step_5 : decode cX9_step 5 = .ok (.iconst 2, 1) := by decide +kernel
theorem dX9_step_6 : decode cX9_step 6 = .ok (.iload_n 2, 1) := by decide +kernel
theorem dX9_step_7 : decode cX9_step 7 = .ok (.iadd, 1) := by decide +kernel
theorem dX9_step_8 : decode cX9_step 8 = .ok (.invokestatic 107, 3) := by decide +kernel
theorem dX9_step_11 : decode cX9_step 11 = .ok (.iaload, 1) := by decide +kernel
theorem dX9_step_12 : decode cX9_step 12 = .ok (.ireturn, 1) := by decide +kernel
set_option maxRecDepth 20000 in
theorem ggX9_isRoom_X9_rooms : GoodIn wsX9_isRoom wsX9_rooms := goodIn_r _ [5, 6, 10, 11, 12, 13, 14, 15, 16, 17, 18, 19, 20, 21, 22, 23, 24, 25, 26, 27, 28, 29, 30, 31, 32, 33, 34, 35, 36, 37, 38, 39, 40, 41, 42, 43, 44] (by decide +kernel) (by decide +kernel)
set_option maxRecDepth 20000 in
theorem gX9_isRoom_X9_rooms : GoodIn wsX9_isRoom (wsV RX9 110 RX9 yX9_rooms wsX9_rooms) := goodIn_app (goodIn_of _ (by decide +kernel)) ggX9_isRoom_X9_rooms
set_option maxRecDepth 20000 in
theorem ggX9_isRoom_X9_inRange : GoodIn wsX9_isRoom wsX9_inRange := goodIn_r _ [9] (by decide +kernel) (by decide +kernel)
set_option maxRecDepth 20000 in
theorem gX9_isRoom_X9_inRange : GoodIn wsX9_isRoom (va_wsS RX9 114 yX9_inRange wsX9_inRange) := goodIn_app (goodIn_of _ (by decide +kernel)) ggX9_isRoom_X9_inRange
theorem dX9_isRoom_0 : decode cX9_isRoom 0 = .ok (.iload_n 1, 1) := by decide +kernel
theorem dX9_isRoom_1 : decode cX9_isRoom 1 = .ok (.iconst 0, 1) := by decide +kernel
theorem dX9_isRoom_2 : decode cX9_isRoom 2 = .ok (.aload_n 0, 1) := by decide +kernel
theorem dX9_isRoom_3 : decode cX9_isRoom 3 = .ok (.invokevirtual 110, 3) := by decide +kernel
theorem dX9_isRoom_6 : decode cX9_isRoom 6 = .ok (.iconst 1, 1) := by decide +kernel
theorem dX9_isRoom_7 : decode cX9_isRoom 7 = .ok (.isub, 1) := by decide +kernel
theorem dX9_isRoom_8 : decode cX9_isRoom 8 = .ok (.invokestatic 114, 3) := by decide +kernel
theorem dX9_isRoom_11 : decode cX9_isRoom 11 = .ok (.ireturn, 1) := by decide +kernel
set_option maxRecDepth 20000 in
theorem ggX9_isDoor_X9_inRange : GoodIn wsX9_isDoor wsX9_inRange := goodIn_r _ [5] (by decide +kernel) (by decide +kernel)
set_option maxRecDepth 20000 in
theorem gX9_isDoor_X9_inRange : GoodIn wsX9_isDoor (va_wsS RX9 114 yX9_inRange wsX9_inRange) := goodIn_app (goodIn_of _ (by decide +kernel)) ggX9_isDoor_X9_inRange
theorem dX9_isDoor_0 : decode cX9_isDoor 0 = .ok (.iload_n 1, 1) := by decide +kernel
theorem dX9_isDoor_1 : decode cX9_isDoor 1 = .ok (.iconst 0, 1) := by decide +kernel
theorem dX9_isDoor_2 : decode cX9_isDoor 2 = .ok (.aload_n 0, 1) := by decide +kernel
theorem dX9_isDoor_3 : decode cX9_isDoor 3 = .ok (.getfield 22, 3) := by decide +kernel
theorem dX9_isDoor_6 : decode cX9_isDoor 6 = .ok (.iconst 1, 1) := by decide +kernel
theorem dX9_isDoor_7 : decode cX9_isDoor 7 = .ok (.iaload, 1) := by decide +kernel
theorem dX9_isDoor_8 : decode cX9_isDoor 8 = .ok (.iconst 1, 1) := by decide +kernel
theorem dX9_isDoor_9 : decode cX9_isDoor 9 = .ok (.isub, 1) := by decide +kernel
theorem dX9_isDoor_10 : decode cX9_isDoor 10 = .ok (.invokestatic 114, 3) := by decide +kernel
theorem dX9_isDoor_13 : decode cX9_isDoor 13 = .ok (.ireturn, 1) := by decide +kernel
set_option maxRecDepth 20000 in
theorem ggX9_isGuard_X9_guards : GoodIn wsX9_isGuard wsX9_guards := goodIn_r _ [5, 6, 10, 11, 12, 13, 14, 15, 16, 17, 18, 19, 20, 21, 22, 23, 24, 25, 26, 27, 28, 29, 30, 31, 32, 33, 34, 35, 36, 37, 38, 39, 40, 41, 42, 43, 44] (by decide +kernel) (by decide +kernel)
set_option maxRecDepth 20000 in
theorem gX9_isGuard_X9_guards : GoodIn wsX9_isGuard (wsV RX9 118 RX9 yX9_guards wsX9_guards) := goodIn_app (goodIn_of _ (by decide +kernel)) ggX9_isGuard_X9_guards
set_option maxRecDepth 20000 in
theorem ggX9_isGuard_X9_inRange : GoodIn wsX9_isGuard wsX9_inRange := goodIn_r _ [9] (by decide +kernel) (by decide +kernel)
set_option maxRecDepth 20000 in
theorem gX9_isGuard_X9_inRange : GoodIn wsX9_isGuard (va_wsS RX9 114 yX9_inRange wsX9_inRange) := goodIn_app (goodIn_of _ (by decide +kernel)) ggX9_isGuard_X9_inRange
theorem dX9_isGuard_0 : decode cX9_isGuard 0 = .ok (.iload_n 1, 1) := by decide +kernel
theorem dX9_isGuard_1 : decode cX9_isGuard 1 = .ok (.iconst 0, 1) := by decide +kernel
theorem dX9_isGuard_2 : decode cX9_isGuard 2 = .ok (.aload_n 0, 1) := by decide +kernel
theorem dX9_isGuard_3 : decode cX9_isGuard 3 = .ok (.invokevirtual 118, 3) := by decide +kernel
theorem dX9_isGuard_6 : decode cX9_isGuard 6 = .ok (.iconst 1, 1) := by decide +kernel
theorem dX9_isGuard_7 : decode cX9_isGuard 7 = .ok (.isub, 1) := by decide +kernel
theorem dX9_isGuard_8 : decode cX9_isGuard 8 = .ok (.invokestatic 114, 3) := by decide +kernel
theorem dX9_isGuard_11 : decode cX9_isGuard 11 = .ok (.ireturn, 1) := by decide +kernel
theorem dX9_has_0 : decode cX9_has 0 = .ok (.iload_n 0, 1) := by decide +kernel
theorem dX9_has_1 : decode cX9_has 1 = .ok (.iload_n 1, 1) := by decide +kernel
theorem dX9_has_2 : decode cX9_has 2 = .ok (.ishr, 1) := by decide +kernel
theorem dX9_has_3 : decode cX9_has 3 = .ok (.iconst 1, 1) := by decide +kernel
theorem dX9_has_4 : decode cX9_has 4 = .ok (.iand, 1) := by decide +kernel
theorem dX9_has_5 : decode cX9_has 5 = .ok (.iconst 1, 1) := by decide +kernel
theorem dX9_has_6 : decode cX9_has 6 = .ok (.if_icmp .ne 7, 3) := by decide +kernel
theorem dX9_has_9 : decode cX9_has 9 = .ok (.iconst 1, 1) := by decide +kernel
theorem dX9_has_10 : decode cX9_has 10 = .ok (.goto 4, 3) := by decide +kernel
theorem dX9_has_13 : decode cX9_has 13 = .ok (.iconst 0, 1) := by decide +kernel
theorem dX9_has_14 : decode cX9_has 14 = .ok (.ireturn, 1) := by decide +kernel
set_option maxRecDepth 20000 in
theorem ggX9_isBetween_X9_ofDoor : GoodIn wsX9_isBetween wsX9_ofDoor := goodIn_r _ [5, 6, 7, 8, 4, 9, 10, 11, 12, 13, 14, 15, 16, 17, 18, 19, 20, 21, 22, 23, 24, 25, 26, 27, 28, 29, 30, 31, 32, 33, 34, 35, 36, 37, 38, 39, 40, 41, 42, 43, 44] (by decide +kernel) (by decide +kernel)
set_option maxRecDepth 20000 in
theorem gX9_isBetween_X9_ofDoor : GoodIn wsX9_isBetween (wsV RX9 120 RX9 yX9_ofDoor wsX9_ofDoor) := goodIn_app (goodIn_of _ (by decide +kernel)) ggX9_isBetween_X9_ofDoor
theorem dX9_isBetween_0 : decode cX9_isBetween 0 = .ok (.aload_n 0, 1) := by decide +kernel
theorem dX9_isBetween_1 : decode cX9_isBetween 1 = .ok (.iload_n 1, 1) := by decide +kernel
theorem dX9_isBetween_2 : decode cX9_isBetween 2 = .ok (.iconst 0, 1) := by decide +kernel
theorem dX9_isBetween_3 : decode cX9_isBetween 3 = .ok (.invokevirtual 120, 3) := by decide +kernel
theorem dX9_isBetween_6 : decode cX9_isBetween 6 = .ok (.iload_n 2, 1) := by decide +kernel
theorem dX9_isBetween_7 : decode cX9_isBetween 7 = .ok (.if_icmp .ne 13, 3) := by decide +kernel
theorem dX9_isBetween_10 : decode cX9_isBetween 10 = .ok (.aload_n 0, 1) := by decide +kernel
theorem dX9_isBetween_11 : decode cX9_isBetween 11 = .ok (.iload_n 1, 1) := by decide +kernel
theorem dX9_isBetween_12 : decode cX9_isBetween 12 = .ok (.iconst 1, 1) := by decide +kernel
theorem dX9_isBetween_13 : decode cX9_isBetween 13 = .ok (.invokevirtual 120, 3) := by decide +kernel
theorem dX9_isBetween_16 : decode cX9_isBetween 16 = .ok (.iload_n 3, 1) := by decide +kernel
theorem dX9_isBetween_17 : decode cX9_isBetween 17 = .ok (.if_icmp .eq 23, 3) := by decide +kernel
theorem dX9_isBetween_20 : decode cX9_isBetween 20 = .ok (.aload_n 0, 1) := by decide +kernel
theorem dX9_isBetween_21 : decode cX9_isBetween 21 = .ok (.iload_n 1, 1) := by decide +kernel
theorem dX9_isBetween_22 : decode cX9_isBetween 22 = .ok (.iconst 0, 1) := by decide +kernel
theorem dX9_isBetween_23 : decode cX9_isBetween 23 = .ok (.invokevirtual 120, 3) := by decide +kernel
theorem dX9_isBetween_26 : decode cX9_isBetween 26 = .ok (.iload_n 3, 1) := by decide +kernel
theorem dX9_isBetween_27 : decode cX9_isBetween 27 = .ok (.if_icmp .ne 17, 3) := by decide +kernel
theorem dX9_isBetween_30 : decode cX9_isBetween 30 = .ok (.aload_n 0, 1) := by decide +kernel
theorem dX9_isBetween_31 : decode cX9_isBetween 31 = .ok (.iload_n 1, 1) := by decide +kernel
theorem dX9_isBetween_32 : decode cX9_isBetween 32 = .ok (.iconst 1, 1) := by decide +kernel
theorem dX9_isBetween_33 : decode cX9_isBetween 33 = .ok (.invokevirtual 120, 3) := by decide +kernel
theorem dX9_isBetween_36 : decode cX9_isBetween 36 = .ok (.iload_n 2, 1) := by decide +kernel
theorem dX9_isBetween_37 : decode cX9_isBetween 37 = .ok (.if_icmp .ne 7, 3) := by decide +kernel
theorem dX9_isBetween_40 : decode cX9_isBetween 40 = .ok (.iconst 1, 1) := by decide +kernel
theorem dX9_isBetween_41 : decode cX9_isBetween 41 = .ok (.goto 4, 3) := by decide +kernel
theorem dX9_isBetween_44 : decode cX9_isBetween 44 = .ok (.iconst 0, 1) := by decide +kernel
theorem dX9_isBetween_45 : decode cX9_isBetween 45 = .ok (.ireturn, 1) := by decide +kernel
set_option maxRecDepth 20000 in
theorem ggX9_openBetween_X9_isBetween : GoodIn wsX9_openBetween wsX9_isBetween := goodIn_r _ [6, 7, 8, 9, 5, 10, 1, 11, 12, 13, 14, 15, 16, 17, 18, 19, 20, 21, 22, 23, 24, 25, 26, 27, 28, 29, 30, 31, 32, 33, 34, 35, 36, 37, 38, 39, 40, 41, 42, 43, 44, 45, 46, 47, 48] (by decide +kernel) (by decide +kernel)
set_option maxRecDepth 20000 in
theorem gX9_openBetween_X9_isBetween : GoodIn wsX9_openBetween (wsV RX9 123 RX9 yX9_isBetween wsX9_isBetween) := goodIn_app (goodIn_of _ (by decide +kernel)) ggX9_openBetween_X9_isBetween
set_option maxRecDepth 20000 in
theorem ggX9_openBetween_X9_ofDoor : GoodIn wsX9_openBetween wsX9_ofDoor := goodIn_r _ [10, 1, 11, 12, 5, 13, 14, 15, 16, 17, 18, 19, 20, 21, 22, 23, 24, 25, 26, 27, 28, 29, 30, 31, 32, 33, 34, 35, 36, 37, 38, 39, 40, 41, 42, 43, 44, 45, 46, 47, 48] (by decide +kernel) (by decide +kernel)
set_option maxRecDepth 20000 in
theorem gX9_openBetween_X9_ofDoor : GoodIn wsX9_openBetween (wsV RX9 120 RX9 yX9_ofDoor wsX9_ofDoor) := goodIn_app (goodIn_of _ (by decide +kernel)) ggX9_openBetween_X9_ofDoor
theorem dX9_openBetween_0 : decode cX9_openBetween 0 = .ok (.iconst 0, 1) := by decide +kernel
theorem dX9_openBetween_1 : decode cX9_openBetween 1 = .ok (.istore_n 3, 1) := by decide +kernel
theorem dX9_openBetween_2 : decode cX9_openBetween 2 = .ok (.iconst 0, 1) := by decide +kernel
theorem dX9_openBetween_3 : decode cX9_openBetween 3 = .ok (.istore 4, 2) := by decide +kernel
theorem dX9_openBetween_5 : decode cX9_openBetween 5 = .ok (.iload 4, 2) := by decide +kernel
theorem dX9_openBetween_7 : decode cX9_openBetween 7 = .ok (.aload_n 0, 1) := by decide +kernel
theorem dX9_openBetween_8 : decode cX9_openBetween 8 = .ok (.getfield 22, 3) := by decide +kernel
theorem dX9_openBetween_11 : decode cX9_openBetween 11 = .ok (.iconst 1, 1) := by decide +kernel
theorem dX9_openBetween_12 : decode cX9_openBetween 12 = .ok (.iaload, 1) := by decide +kernel
theorem dX9_openBetween_13 : decode cX9_openBetween 13 = .ok (.if_icmp .ge 34, 3) := by decide +kernel
theorem dX9_openBetween_16 : decode cX9_openBetween 16 = .ok (.iload_n 3, 1) := by decide +kernel
theorem dX9_openBetween_17 : decode cX9_openBetween 17 = .ok (.aload_n 0, 1) := by decide +kernel
theorem dX9_openBetween_18 : decode cX9_openBetween 18 = .ok (.iload 4, 2) := by decide +kernel
theorem dX9_openBetween_20 : decode cX9_openBetween 20 = .ok (.iload_n 1, 1) := by decide +kernel
theorem dX9_openBetween_21 : decode cX9_openBetween 21 = .ok (.iload_n 2, 1) := by decide +kernel
theorem dX9_openBetween_22 : decode cX9_openBetween 22 = .ok (.invokevirtual 123, 3) := by decide +kernel
theorem dX9_openBetween_25 : decode cX9_openBetween 25 = .ok (.ifCond .eq 13, 3) := by decide +kernel
theorem dX9_openBetween_28 : decode cX9_openBetween 28 = .ok (.aload_n 0, 1) := by decide +kernel
theorem dX9_openBetween_29 : decode cX9_openBetween 29 = .ok (.iload 4, 2) := by decide +kernel
theorem dX9_openBetween_31 : decode cX9_openBetween 31 = .ok (.iconst 2, 1) := by decide +kernel
theorem dX9_openBetween_32 : decode cX9_openBetween 32 = .ok (.invokevirtual 120, 3) := by decide +kernel
theorem dX9_openBetween_35 : decode cX9_openBetween 35 = .ok (.goto 4, 3) := by decide +kernel
theorem dX9_openBetween_38 : decode cX9_openBetween 38 = .ok (.iconst 0, 1) := by decide +kernel
theorem dX9_openBetween_39 : decode cX9_openBetween 39 = .ok (.iadd, 1) := by decide +kernel
theorem dX9_openBetween_40 : decode cX9_openBetween 40 = .ok (.istore_n 3, 1) := by decide +kernel
theorem dX9_openBetween_41 : decode cX9_openBetween 41 = .ok (.iinc 4 1, 3) := by decide +kernel
theorem dX9_openBetween_44 : decode cX9_openBetween 44 = .ok (.goto (-39), 3) := by decide +kernel
theorem dX9_openBetween_47 : decode cX9_openBetween 47 = .ok (.iload_n 3, 1) := by decide +kernel
theorem dX9_openBetween_48 : decode cX9_openBetween 48 = .ok (.ireturn, 1) := by decide +kernel
set_option maxRecDepth 20000 in
theorem ggX9_openAt_X9_ofDoor : GoodIn wsX9_openAt wsX9_ofDoor := goodIn_r _ [6, 1, 7, 8, 5, 9, 10, 11, 12, 13, 14, 15, 16, 17, 18, 19, 20, 21, 22, 23, 24, 25, 26, 27, 28, 29, 30, 31, 32, 33, 34, 35, 36, 37, 38, 39, 40, 41, 42, 43, 44] (by decide +kernel) (by decide +kernel)
set_option maxRecDepth 20000 in
theorem gX9_openAt_X9_ofDoor : GoodIn wsX9_openAt (wsV RX9 120 RX9 yX9_ofDoor wsX9_ofDoor) := goodIn_app (goodIn_of _ (by decide +kernel)) ggX9_openAt_X9_ofDoor
theorem dX9_openAt_0 : decode cX9_openAt 0 = .ok (.iconst 0, 1) := by decide +kernel
theorem dX9_openAt_1 : decode cX9_openAt 1 = .ok (.istore_n 2, 1) := by decide +kernel
theorem dX9_openAt_2 : decode cX9_openAt 2 = .ok (.iconst 0, 1) := by decide +kernel
theorem dX9_openAt_3 : decode cX9_openAt 3 = .ok (.istore_n 3, 1) := by decide +kernel
theorem dX9_openAt_4 : decode cX9_openAt 4 = .ok (.iload_n 3, 1) := by decide +kernel
theorem dX9_openAt_5 : decode cX9_openAt 5 = .ok (.aload_n 0, 1) := by decide +kernel
theorem dX9_openAt_6 : decode cX9_openAt 6 = .ok (.getfield 22, 3) := by decide +kernel
theorem dX9_openAt_9 : decode cX9_openAt 9 = .ok (.iconst 1, 1) := by decide +kernel
theorem dX9_openAt_10 : decode cX9_openAt 10 = .ok (.iaload, 1) := by decide +kernel
theorem dX9_openAt_11 : decode cX9_openAt 11 = .ok (.if_icmp .ge 59, 3) := by decide +kernel
theorem dX9_openAt_14 : decode cX9_openAt 14 = .ok (.aload_n 0, 1) := by decide +kernel
theorem dX9_openAt_15 : decode cX9_openAt 15 = .ok (.iload_n 3, 1) := by decide +kernel
theorem dX9_openAt_16 : decode cX9_openAt 16 = .ok (.iconst 0, 1) := by decide +kernel
theorem dX9_openAt_17 : decode cX9_openAt 17 = .ok (.invokevirtual 120, 3) := by decide +kernel
theorem dX9_openAt_20 : decode cX9_openAt 20 = .ok (.iload_n 1, 1) := by decide +kernel
theorem dX9_openAt_21 : decode cX9_openAt 21 = .ok (.if_icmp .eq 13, 3) := by decide +kernel
theorem dX9_openAt_24 : decode cX9_openAt 24 = .ok (.aload_n 0, 1) := by decide +kernel
theorem dX9_openAt_25 : decode cX9_openAt 25 = .ok (.iload_n 3, 1) := by decide +kernel
theorem dX9_openAt_26 : decode cX9_openAt 26 = .ok (.iconst 1, 1) := by decide +kernel
theorem dX9_openAt_27 : decode cX9_openAt 27 = .ok (.invokevirtual 120, 3) := by decide +kernel
theorem dX9_openAt_30 : decode cX9_openAt 30 = .ok (.iload_n 1, 1) := by decide +kernel
theorem dX9_openAt_31 : decode cX9_openAt 31 = .ok (.if_icmp .ne 7, 3) := by decide +kernel
theorem dX9_openAt_34 : decode cX9_openAt 34 = .ok (.iconst 1, 1) := by decide +kernel
theorem dX9_openAt_35 : decode cX9_openAt 35 = .ok (.goto 4, 3) := by decide +kernel
theorem dX9_openAt_38 : decode cX9_openAt 38 = .ok (.iconst 0, 1) := by decide +kernel
theorem dX9_openAt_39 : decode cX9_openAt 39 = .ok (.istore 4, 2) := by decide +kernel
theorem dX9_openAt_41 : decode cX9_openAt 41 = .ok (.iload_n 2, 1) := by decide +kernel
theorem dX9_openAt_42 : decode cX9_openAt 42 = .ok (.iload_n 1, 1) := by decide +kernel
theorem dX9_openAt_43 : decode cX9_openAt 43 = .ok (.iconst (-1), 1) := by decide +kernel
theorem dX9_openAt_44 : decode cX9_openAt 44 = .ok (.if_icmp .eq 8, 3) := by decide +kernel
theorem dX9_openAt_47 : decode cX9_openAt 47 = .ok (.iload 4, 2) := by decide +kernel
theorem dX9_openAt_49 : decode cX9_openAt 49 = .ok (.ifCond .eq 12, 3) := by decide +kernel
theorem dX9_openAt_52 : decode cX9_openAt 52 = .ok (.aload_n 0, 1) := by decide +kernel
theorem dX9_openAt_53 : decode cX9_openAt 53 = .ok (.iload_n 3, 1) := by decide +kernel
theorem dX9_openAt_54 : decode cX9_openAt 54 = .ok (.iconst 2, 1) := by decide +kernel
theorem dX9_openAt_55 : decode cX9_openAt 55 = .ok (.invokevirtual 120, 3) := by decide +kernel
theorem dX9_openAt_58 : decode cX9_openAt 58 = .ok (.goto 4, 3) := by decide +kernel
theorem dX9_openAt_61 : decode cX9_openAt 61 = .ok (.iconst 0, 1) := by decide +kernel
theorem dX9_openAt_62 : decode cX9_openAt 62 = .ok (.iadd, 1) := by decide +kernel
theorem dX9_openAt_63 : decode cX9_openAt 63 = .ok (.istore_n 2, 1) := by decide +kernel
theorem dX9_openAt_64 : decode cX9_openAt 64 = .ok (.iinc 3 1, 3) := by decide +kernel
theorem dX9_openAt_67 : decode cX9_openAt 67 = .ok (.goto (-63), 3) := by decide +kernel
theorem dX9_openAt_70 : decode cX9_openAt 70 = .ok (.iload_n 2, 1) := by decide +kernel
theorem dX9_openAt_71 : decode cX9_openAt 71 = .ok (.ireturn, 1) := by decide +kernel
set_option maxRecDepth 20000 in
theorem ggX9_layJoined_X9_rooms : GoodIn wsX9_layJoined wsX9_rooms := goodIn_r _ [7, 2, 15, 16, 17, 18, 19, 20, 21, 22, 23, 24, 25, 26, 27, 28, 29, 30, 31, 32, 33, 34, 35, 36, 37, 38, 39, 40, 41, 42, 43, 44, 45, 46, 47, 48, 49] (by decide +kernel) (by decide +kernel)
set_option maxRecDepth 20000 in
theorem gX9_layJoined_X9_rooms : GoodIn wsX9_layJoined (wsV RX9 110 RX9 yX9_rooms wsX9_rooms) := goodIn_app (goodIn_of _ (by decide +kernel)) ggX9_layJoined_X9_rooms
set_option maxRecDepth 20000 in
theorem ggX9_layJoined_X9_ofDoor : GoodIn wsX9_layJoined wsX9_ofDoor := goodIn_r _ [11, 2, 12, 13, 6, 14, 15, 16, 17, 18, 19, 20, 21, 22, 23, 24, 25, 26, 27, 28, 29, 30, 31, 32, 33, 34, 35, 36, 37, 38, 39, 40, 41, 42, 43, 44, 45, 46, 47, 48, 49] (by decide +kernel) (by decide +kernel)
set_option maxRecDepth 20000 in
theorem gX9_layJoined_X9_ofDoor : GoodIn wsX9_layJoined (wsV RX9 120 RX9 yX9_ofDoor wsX9_ofDoor) := goodIn_app (goodIn_of _ (by decide +kernel)) ggX9_layJoined_X9_ofDoor
theorem dX9_layJoined_0 : decode cX9_layJoined 0 = .ok (.iconst 0, 1) := by decide +kernel
theorem dX9_layJoined_1 : decode cX9_layJoined 1 = .ok (.istore_n 1, 1) := by decide +kernel
theorem dX9_layJoined_2 : decode cX9_layJoined 2 = .ok (.iload_n 1, 1) := by decide +kernel
theorem dX9_layJoined_3 : decode cX9_layJoined 3 = .ok (.aload_n 0, 1) := by decide +kernel
theorem dX9_layJoined_4 : decode cX9_layJoined 4 = .ok (.invokevirtual 110, 3) := by decide +kernel
theorem dX9_layJoined_7 : decode cX9_layJoined 7 = .ok (.if_icmp .ge 16, 3) := by decide +kernel
theorem dX9_layJoined_10 : decode cX9_layJoined 10 = .ok (.aload_n 0, 1) := by decide +kernel
theorem dX9_layJoined_11 : decode cX9_layJoined 11 = .ok (.getfield 25, 3) := by decide +kernel
theorem dX9_layJoined_14 : decode cX9_layJoined 14 = .ok (.iload_n 1, 1) := by decide +kernel
theorem dX9_layJoined_15 : decode cX9_layJoined 15 = .ok (.iconst 0, 1) := by decide +kernel
theorem dX9_layJoined_16 : decode cX9_layJoined 16 = .ok (.iastore, 1) := by decide +kernel
theorem dX9_layJoined_17 : decode cX9_layJoined 17 = .ok (.iinc 1 1, 3) := by decide +kernel
theorem dX9_layJoined_20 : decode cX9_layJoined 20 = .ok (.goto (-18), 3) := by decide +kernel
theorem dX9_layJoined_23 : decode cX9_layJoined 23 = .ok (.iconst 0, 1) := by decide +kernel
theorem dX9_layJoined_24 : decode cX9_layJoined 24 = .ok (.istore_n 1, 1) := by decide +kernel
theorem dX9_layJoined_25 : decode cX9_layJoined 25 = .ok (.iload_n 1, 1) := by decide +kernel
theorem dX9_layJoined_26 : decode cX9_layJoined 26 = .ok (.aload_n 0, 1) := by decide +kernel
theorem dX9_layJoined_27 : decode cX9_layJoined 27 = .ok (.getfield 22, 3) := by decide +kernel
theorem dX9_layJoined_30 : decode cX9_layJoined 30 = .ok (.iconst 1, 1) := by decide +kernel
theorem dX9_layJoined_31 : decode cX9_layJoined 31 = .ok (.iaload, 1) := by decide +kernel
theorem dX9_layJoined_32 : decode cX9_layJoined 32 = .ok (.if_icmp .ge 63, 3) := by decide +kernel
theorem dX9_layJoined_35 : decode cX9_layJoined 35 = .ok (.aload_n 0, 1) := by decide +kernel
theorem dX9_layJoined_36 : decode cX9_layJoined 36 = .ok (.iload_n 1, 1) := by decide +kernel
theorem dX9_layJoined_37 : decode cX9_layJoined 37 = .ok (.iconst 2, 1) := by decide +kernel
theorem dX9_layJoined_38 : decode cX9_layJoined 38 = .ok (.invokevirtual 120, 3) := by decide +kernel
theorem dX9_layJoined_41 : decode cX9_layJoined 41 = .ok (.iconst 1, 1) := by decide +kernel
theorem dX9_layJoined_42 : decode cX9_layJoined 42 = .ok (.if_icmp .ne 47, 3) := by decide +kernel
theorem dX9_layJoined_45 : decode cX9_layJoined 45 = .ok (.aload_n 0, 1) := by decide +kernel
theorem dX9_layJoined_46 : decode cX9_layJoined 46 = .ok (.getfield 25, 3) := by decide +kernel
theorem dX9_layJoined_49 : decode cX9_layJoined 49 = .ok (.aload_n 0, 1) := by decide +kernel
theorem dX9_layJoined_50 : decode cX9_layJoined 50 = .ok (.iload_n 1, 1) := by decide +kernel
theorem dX9_layJoined_51 : decode cX9_layJoined 51 = .ok (.iconst 0, 1) := by decide +kernel
theorem dX9_layJoined_52 : decode cX9_layJoined 52 = .ok (.invokevirtual 120, 3) := by decide +kernel
theorem dX9_layJoined_55 : decode cX9_layJoined 55 = .ok (.dup2, 1) := by decide +kernel
theorem dX9_layJoined_56 : decode cX9_layJoined 56 = .ok (.iaload, 1) := by decide +kernel
theorem dX9_layJoined_57 : decode cX9_layJoined 57 = .ok (.iconst 1, 1) := by decide +kernel
theorem dX9_layJoined_58 : decode cX9_layJoined 58 = .ok (.aload_n 0, 1) := by decide +kernel
theorem dX9_layJoined_59 : decode cX9_layJoined 59 = .ok (.iload_n 1, 1) := by decide +kernel
theorem dX9_layJoined_60 : decode cX9_layJoined 60 = .ok (.iconst 1, 1) := by decide +kernel
theorem dX9_layJoined_61 : decode cX9_layJoined 61 = .ok (.invokevirtual 120, 3) := by decide +kernel
theorem dX9_layJoined_64 : decode cX9_layJoined 64 = .ok (.ishl, 1) := by decide +kernel
theorem dX9_layJoined_65 : decode cX9_layJoined 65 = .ok (.ior, 1) := by decide +kernel
theorem dX9_layJoined_66 : decode cX9_layJoined 66 = .ok (.iastore, 1) := by decide +kernel
theorem dX9_layJoined_67 : decode cX9_layJoined 67 = .ok (.aload_n 0, 1) := by decide +kernel
theorem dX9_layJoined_68 : decode cX9_layJoined 68 = .ok (.getfield 25, 3) := by decide +kernel
theorem dX9_layJoined_71 : decode cX9_layJoined 71 = .ok (.aload_n 0, 1) := by decide +kernel
theorem dX9_layJoined_72 : decode cX9_layJoined 72 = .ok (.iload_n 1, 1) := by decide +kernel
theorem dX9_layJoined_73 : decode cX9_layJoined 73 = .ok (.iconst 1, 1) := by decide +kernel
theorem dX9_layJoined_74 : decode cX9_layJoined 74 = .ok (.invokevirtual 120, 3) := by decide +kernel
theorem dX9_layJoined_77 : decode cX9_layJoined 77 = .ok (.dup2, 1) := by decide +kernel
theorem dX9_layJoined_78 : decode cX9_layJoined 78 = .ok (.iaload, 1) := by decide +kernel
theorem dX9_layJoined_79 : decode cX9_layJoined 79 = .ok (.iconst 1, 1) := by decide +kernel
theorem dX9_layJoined_80 : decode cX9_layJoined 80 = .ok (.aload_n 0, 1) := by decide +kernel
theorem dX9_layJoined_81 : decode cX9_layJoined 81 = .ok (.iload_n 1, 1) := by decide +kernel
theorem dX9_layJoined_82 : decode cX9_layJoined 82 = .ok (.iconst 0, 1) := by decide +kernel
theorem dX9_layJoined_83 : decode cX9_layJoined 83 = .ok (.invokevirtual 120, 3) := by decide +kernel
theorem dX9_layJoined_86 : decode cX9_layJoined 86 = .ok (.ishl, 1) := by decide +kernel
theorem dX9_layJoined_87 : decode cX9_layJoined 87 = .ok (.ior, 1) := by decide +kernel
theorem dX9_layJoined_88 : decode cX9_layJoined 88 = .ok (.iastore, 1) := by decide +kernel
theorem dX9_layJoined_89 : decode cX9_layJoined 89 = .ok (.iinc 1 1, 3) := by decide +kernel
theorem dX9_layJoined_92 : decode cX9_layJoined 92 = .ok (.goto (-67), 3) := by decide +kernel
theorem dX9_layJoined_95 : decode cX9_layJoined 95 = .ok (.return_, 1) := by decide +kernel
set_option maxRecDepth 20000 in
theorem ggX9_goesThrough_X9_period : GoodIn wsX9_goesThrough wsX9_period := goodIn_r _ [5, 6, 7, 8, 4, 9, 14, 15, 16, 17, 18, 19, 20, 21, 22, 23, 24, 25, 26, 27, 28, 29, 30, 31, 32, 33, 34, 35, 36, 37, 38, 39, 40, 41, 42, 43, 44, 45, 46, 47, 48] (by decide +kernel) (by decide +kernel)
set_option maxRecDepth 20000 in
theorem gX9_goesThrough_X9_period : GoodIn wsX9_goesThrough (wsV RX9 126 RX9 yX9_period wsX9_period) := goodIn_app (goodIn_of _ (by decide +kernel)) ggX9_goesThrough_X9_period
set_option maxRecDepth 20000 in
theorem ggX9_goesThrough_X9_step : GoodIn wsX9_goesThrough wsX9_step := goodIn_r _ [13, 6, 7, 8, 4, 9, 14, 15, 16, 17, 18, 19, 20, 21, 22, 23, 24, 25, 26, 27, 28, 29, 30, 31, 32, 33, 34, 35, 36, 37, 38, 39, 40, 41, 42, 43, 44, 45, 46, 47, 48] (by decide +kernel) (by decide +kernel)
set_option maxRecDepth 20000 in
theorem gX9_goesThrough_X9_step : GoodIn wsX9_goesThrough (wsV RX9 130 RX9 yX9_step wsX9_step) := goodIn_app (goodIn_of _ (by decide +kernel)) ggX9_goesThrough_X9_step
theorem dX9_goesThrough_0 : decode cX9_goesThrough 0 = .ok (.iconst 0, 1) := by decide +kernel
theorem dX9_goesThrough_1 : decode cX9_goesThrough 1 = .ok (.istore 4, 2) := by decide +kernel
theorem dX9_goesThrough_3 : decode cX9_goesThrough 3 = .ok (.iconst 0, 1) := by decide +kernel
theorem dX9_goesThrough_4 : decode cX9_goesThrough 4 = .ok (.istore 5, 2) := by decide +kernel
theorem dX9_goesThrough_6 : decode cX9_goesThrough 6 = .ok (.iload 5, 2) := by decide +kernel
theorem dX9_goesThrough_8 : decode cX9_goesThrough 8 = .ok (.aload_n 0, 1) := by decide +kernel
theorem dX9_goesThrough_9 : decode cX9_goesThrough 9 = .ok (.iload_n 1, 1) := by decide +kernel
theorem dX9_goesThrough_10 : decode cX9_goesThrough 10 = .ok (.invokevirtual 126, 3) := by decide +kernel
theorem dX9_goesThrough_13 : decode cX9_goesThrough 13 = .ok (.if_icmp .ge 69, 3) := by decide +kernel
theorem dX9_goesThrough_16 : decode cX9_goesThrough 16 = .ok (.aload_n 0, 1) := by decide +kernel
theorem dX9_goesThrough_17 : decode cX9_goesThrough 17 = .ok (.iload_n 1, 1) := by decide +kernel
theorem dX9_goesThrough_18 : decode cX9_goesThrough 18 = .ok (.iload 5, 2) := by decide +kernel
theorem dX9_goesThrough_20 : decode cX9_goesThrough 20 = .ok (.invokevirtual 130, 3) := by decide +kernel
theorem dX9_goesThrough_23 : decode cX9_goesThrough 23 = .ok (.istore 6, 2) := by decide +kernel
theorem dX9_goesThrough_25 : decode cX9_goesThrough 25 = .ok (.aload_n 0, 1) := by decide +kernel
theorem dX9_goesThrough_26 : decode cX9_goesThrough 26 = .ok (.iload_n 1, 1) := by decide +kernel
theorem dX9_goesThrough_27 : decode cX9_goesThrough 27 = .ok (.iload 5, 2) := by decide +kernel
theorem dX9_goesThrough_29 : decode cX9_goesThrough 29 = .ok (.iconst 1, 1) := by decide +kernel
theorem dX9_goesThrough_30 : decode cX9_goesThrough 30 = .ok (.iadd, 1) := by decide +kernel
theorem dX9_goesThrough_31 : decode cX9_goesThrough 31 = .ok (.aload_n 0, 1) := by decide +kernel
theorem dX9_goesThrough_32 : decode cX9_goesThrough 32 = .ok (.iload_n 1, 1) := by decide +kernel
theorem dX9_goesThrough_33 : decode cX9_goesThrough 33 = .ok (.invokevirtual 126, 3) := by decide +kernel
theorem dX9_goesThrough_36 : decode cX9_goesThrough 36 = .ok (.irem, 1) := by decide +kernel
theorem dX9_goesThrough_37 : decode cX9_goesThrough 37 = .ok (.invokevirtual 130, 3) := by decide +kernel
theorem dX9_goesThrough_40 : decode cX9_goesThrough 40 = .ok (.istore 7, 2) := by decide +kernel
theorem dX9_goesThrough_42 : decode cX9_goesThrough 42 = .ok (.iload 4, 2) := by decide +kernel
theorem dX9_goesThrough_44 : decode cX9_goesThrough 44 = .ok (.iload 6, 2) := by decide +kernel
theorem dX9_goesThrough_46 : decode cX9_goesThrough 46 = .ok (.iload_n 2, 1) := by decide +kernel
theorem dX9_goesThrough_47 : decode cX9_goesThrough 47 = .ok (.if_icmp .ne 9, 3) := by decide +kernel
theorem dX9_goesThrough_50 : decode cX9_goesThrough 50 = .ok (.iload 7, 2) := by decide +kernel
theorem dX9_goesThrough_52 : decode cX9_goesThrough 52 = .ok (.iload_n 3, 1) := by decide +kernel
theorem dX9_goesThrough_53 : decode cX9_goesThrough 53 = .ok (.if_icmp .eq 15, 3) := by decide +kernel
theorem dX9_goesThrough_56 : decode cX9_goesThrough 56 = .ok (.iload 6, 2) := by decide +kernel
theorem dX9_goesThrough_58 : decode cX9_goesThrough 58 = .ok (.iload_n 3, 1) := by decide +kernel
theorem dX9_goesThrough_59 : decode cX9_goesThrough 59 = .ok (.if_icmp .ne 13, 3) := by decide +kernel
theorem dX9_goesThrough_62 : decode cX9_goesThrough 62 = .ok (.iload 7, 2) := by decide +kernel
theorem dX9_goesThrough_64 : decode cX9_goesThrough 64 = .ok (.iload_n 2, 1) := by decide +kernel
theorem dX9_goesThrough_65 : decode cX9_goesThrough 65 = .ok (.if_icmp .ne 7, 3) := by decide +kernel
theorem dX9_goesThrough_68 : decode cX9_goesThrough 68 = .ok (.iconst 1, 1) := by decide +kernel
theorem dX9_goesThrough_69 : decode cX9_goesThrough 69 = .ok (.goto 4, 3) := by decide +kernel
theorem dX9_goesThrough_72 : decode cX9_goesThrough 72 = .ok (.iconst 0, 1) := by decide +kernel
theorem dX9_goesThrough_73 : decode cX9_goesThrough 73 = .ok (.ior, 1) := by decide +kernel
theorem dX9_goesThrough_74 : decode cX9_goesThrough 74 = .ok (.istore 4, 2) := by decide +kernel
theorem dX9_goesThrough_76 : decode cX9_goesThrough 76 = .ok (.iinc 5 1, 3) := by decide +kernel
theorem dX9_goesThrough_79 : decode cX9_goesThrough 79 = .ok (.goto (-73), 3) := by decide +kernel
theorem dX9_goesThrough_82 : decode cX9_goesThrough 82 = .ok (.iload 4, 2) := by decide +kernel
theorem dX9_goesThrough_84 : decode cX9_goesThrough 84 = .ok (.ireturn, 1) := by decide +kernel
set_option maxRecDepth 20000 in
theorem ggX9_walksThrough_X9_guards : GoodIn wsX9_walksThrough wsX9_guards := goodIn_r _ [5, 6, 29, 30, 31, 32, 33, 34, 35, 36, 37, 38, 39, 40, 41, 42, 43, 44, 45, 46, 47, 48, 49, 50, 51, 52, 53, 54, 55, 56, 57, 58, 59, 60, 61, 62, 63] (by decide +kernel) (by decide +kernel)
set_option maxRecDepth 20000 in
theorem gX9_walksThrough_X9_guards : GoodIn wsX9_walksThrough (wsV RX9 118 RX9 yX9_guards wsX9_guards) := goodIn_app (goodIn_of _ (by decide +kernel)) ggX9_walksThrough_X9_guards
set_option maxRecDepth 20000 in
theorem ggX9_walksThrough_X9_ofDoor : GoodIn wsX9_walksThrough wsX9_ofDoor := goodIn_r _ [10, 6, 11, 12, 4, 13, 29, 30, 31, 32, 33, 34, 35, 36, 37, 38, 39, 40, 41, 42, 43, 44, 45, 46, 47, 48, 49, 50, 51, 52, 53, 54, 55, 56, 57, 58, 59, 60, 61, 62, 63] (by decide +kernel) (by decide +kernel)
set_option maxRecDepth 20000 in
theorem gX9_walksThrough_X9_ofDoor : GoodIn wsX9_walksThrough (wsV RX9 120 RX9 yX9_ofDoor wsX9_ofDoor) := goodIn_app (goodIn_of _ (by decide +kernel)) ggX9_walksThrough_X9_ofDoor
set_option maxRecDepth 20000 in
theorem ggX9_walksThrough_X9_goesThrough : GoodIn wsX9_walksThrough wsX9_goesThrough := goodIn_r _ [17, 18, 19, 20, 4, 21, 6, 22, 23, 24, 25, 26, 27, 28, 29, 30, 31, 32, 33, 34, 35, 36, 37, 38, 39, 40, 41, 42, 43, 44, 45, 46, 47, 48, 49, 50, 51, 52, 53, 54, 55, 56, 57, 58, 59, 60, 61, 62, 63] (by decide +kernel) (by decide +kernel)
set_option maxRecDepth 20000 in
theorem gX9_walksThrough_X9_goesThrough : GoodIn wsX9_walksThrough (wsV RX9 133 RX9 yX9_goesThrough wsX9_goesThrough) := goodIn_app (goodIn_of _ (by decide +kernel)) ggX9_walksThrough_X9_goesThrough
theorem dX9_walksThrough_0 : decode cX9_walksThrough 0 = .ok (.iconst 0, 1) := by decide +kernel
theorem dX9_walksThrough_1 : decode cX9_walksThrough 1 = .ok (.istore_n 2, 1) := by decide +kernel
theorem dX9_walksThrough_2 : decode cX9_walksThrough 2 = .ok (.iconst 0, 1) := by decide +kernel
theorem dX9_walksThrough_3 : decode cX9_walksThrough 3 = .ok (.istore_n 3, 1) := by decide +kernel
theorem dX9_walksThrough_4 : decode cX9_walksThrough 4 = .ok (.iload_n 3, 1) := by decide +kernel
theorem dX9_walksThrough_5 : decode cX9_walksThrough 5 = .ok (.aload_n 0, 1) := by decide +kernel
theorem dX9_walksThrough_6 : decode cX9_walksThrough 6 = .ok (.invokevirtual 118, 3) := by decide +kernel
theorem dX9_walksThrough_9 : decode cX9_walksThrough 9 = .ok (.if_icmp .ge 37, 3) := by decide +kernel
theorem dX9_walksThrough_12 : decode cX9_walksThrough 12 = .ok (.iload_n 2, 1) := by decide +kernel
theorem dX9_walksThrough_13 : decode cX9_walksThrough 13 = .ok (.aload_n 0, 1) := by decide +kernel
theorem dX9_walksThrough_14 : decode cX9_walksThrough 14 = .ok (.iload_n 3, 1) := by decide +kernel
theorem dX9_walksThrough_15 : decode cX9_walksThrough 15 = .ok (.aload_n 0, 1) := by decide +kernel
theorem dX9_walksThrough_16 : decode cX9_walksThrough 16 = .ok (.iload_n 1, 1) := by decide +kernel
theorem dX9_walksThrough_17 : decode cX9_walksThrough 17 = .ok (.iconst 0, 1) := by decide +kernel
theorem dX9_walksThrough_18 : decode cX9_walksThrough 18 = .ok (.invokevirtual 120, 3) := by decide +kernel
theorem dX9_walksThrough_21 : decode cX9_walksThrough 21 = .ok (.aload_n 0, 1) := by decide +kernel
theorem dX9_walksThrough_22 : decode cX9_walksThrough 22 = .ok (.iload_n 1, 1) := by decide +kernel
theorem dX9_walksThrough_23 : decode cX9_walksThrough 23 = .ok (.iconst 1, 1) := by decide +kernel
theorem dX9_walksThrough_24 : decode cX9_walksThrough 24 = .ok (.invokevirtual 120, 3) := by decide +kernel
theorem dX9_walksThrough_27 : decode cX9_walksThrough 27 = .ok (.invokevirtual 133, 3) := by decide +kernel
theorem dX9_walksThrough_30 : decode cX9_walksThrough 30 = .ok (.ifCond .eq 7, 3) := by decide +kernel
theorem dX9_walksThrough_33 : decode cX9_walksThrough 33 = .ok (.iconst 1, 1) := by decide +kernel
theorem dX9_walksThrough_34 : decode cX9_walksThrough 34 = .ok (.goto 4, 3) := by decide +kernel
theorem dX9_walksThrough_37 : decode cX9_walksThrough 37 = .ok (.iconst 0, 1) := by decide +kernel
theorem dX9_walksThrough_38 : decode cX9_walksThrough 38 = .ok (.iadd, 1) := by decide +kernel
theorem dX9_walksThrough_39 : decode cX9_walksThrough 39 = .ok (.istore_n 2, 1) := by decide +kernel
theorem dX9_walksThrough_40 : decode cX9_walksThrough 40 = .ok (.iinc 3 1, 3) := by decide +kernel
theorem dX9_walksThrough_43 : decode cX9_walksThrough 43 = .ok (.goto (-39), 3) := by decide +kernel
theorem dX9_walksThrough_46 : decode cX9_walksThrough 46 = .ok (.iload_n 2, 1) := by decide +kernel
theorem dX9_walksThrough_47 : decode cX9_walksThrough 47 = .ok (.ireturn, 1) := by decide +kernel
set_option maxRecDepth 20000 in
theorem ggX9_takePhases_X9_guards : GoodIn wsX9_takePhases wsX9_guards := goodIn_r _ [6, 7, 15, 16, 17, 18, 19, 20, 21, 22, 23, 24, 25, 26, 27, 28, 29, 30, 31, 32, 33, 34, 35, 36, 37, 38, 39, 40, 41, 42, 43, 44, 45, 46, 47, 48, 49] (by decide +kernel) (by decide +kernel)
set_option maxRecDepth 20000 in
theorem gX9_takePhases_X9_guards : GoodIn wsX9_takePhases (wsV RX9 118 RX9 yX9_guards wsX9_guards) := goodIn_app (goodIn_of _ (by decide +kernel)) ggX9_takePhases_X9_guards
set_option maxRecDepth 20000 in
theorem ggX9_takePhases_X9_phaseOf : GoodIn wsX9_takePhases wsX9_phaseOf := goodIn_r _ [11, 7, 12, 13, 5, 14, 15, 16, 17, 18, 19, 20, 21, 22, 23, 24, 25, 26, 27, 28, 29, 30, 31, 32, 33, 34, 35, 36, 37, 38, 39, 40, 41, 42, 43, 44, 45, 46, 47, 48, 49] (by decide +kernel) (by decide +kernel)
set_option maxRecDepth 20000 in
theorem gX9_takePhases_X9_phaseOf : GoodIn wsX9_takePhases (wsV RX9 136 RX9 yX9_phaseOf wsX9_phaseOf) := goodIn_app (goodIn_of _ (by decide +kernel)) ggX9_takePhases_X9_phaseOf
theorem dX9_takePhases_0 : decode cX9_takePhases 0 = .ok (.iconst 0, 1) := by decide +kernel
theorem dX9_takePhases_1 : decode cX9_takePhases 1 = .ok (.istore_n 1, 1) := by decide +kernel
theorem dX9_takePhases_2 : decode cX9_takePhases 2 = .ok (.iload_n 1, 1) := by decide +kernel
theorem dX9_takePhases_3 : decode cX9_takePhases 3 = .ok (.aload_n 0, 1) := by decide +kernel
theorem dX9_takePhases_4 : decode cX9_takePhases 4 = .ok (.invokevirtual 118, 3) := by decide +kernel
theorem dX9_takePhases_7 : decode cX9_takePhases 7 = .ok (.if_icmp .ge 20, 3) := by decide +kernel
theorem dX9_takePhases_10 : decode cX9_takePhases 10 = .ok (.aload_n 0, 1) := by decide +kernel
theorem dX9_takePhases_11 : decode cX9_takePhases 11 = .ok (.getfield 28, 3) := by decide +kernel
theorem dX9_takePhases_14 : decode cX9_takePhases 14 = .ok (.iload_n 1, 1) := by decide +kernel
theorem dX9_takePhases_15 : decode cX9_takePhases 15 = .ok (.aload_n 0, 1) := by decide +kernel
theorem dX9_takePhases_16 : decode cX9_takePhases 16 = .ok (.iload_n 1, 1) := by decide +kernel
theorem dX9_takePhases_17 : decode cX9_takePhases 17 = .ok (.invokevirtual 136, 3) := by decide +kernel
theorem dX9_takePhases_20 : decode cX9_takePhases 20 = .ok (.iastore, 1) := by decide +kernel
theorem dX9_takePhases_21 : decode cX9_takePhases 21 = .ok (.iinc 1 1, 3) := by decide +kernel
theorem dX9_takePhases_24 : decode cX9_takePhases 24 = .ok (.goto (-22), 3) := by decide +kernel
theorem dX9_takePhases_27 : decode cX9_takePhases 27 = .ok (.return_, 1) := by decide +kernel
set_option maxRecDepth 20000 in
theorem ggX9_place_X9_period : GoodIn wsX9_place wsX9_period := goodIn_r _ [6, 7, 8, 9, 5, 10, 15, 16, 17, 18, 19, 20, 21, 22, 23, 24, 25, 26, 27, 28, 29, 30, 31, 32, 33, 34, 35, 36, 37, 38, 39, 40, 41, 42, 43, 44, 45, 46, 47, 48, 49] (by decide +kernel) (by decide +kernel)
set_option maxRecDepth 20000 in
theorem gX9_place_X9_period : GoodIn wsX9_place (wsV RX9 126 RX9 yX9_period wsX9_period) := goodIn_app (goodIn_of _ (by decide +kernel)) ggX9_place_X9_period
set_option maxRecDepth 20000 in
theorem ggX9_place_X9_step : GoodIn wsX9_place wsX9_step := goodIn_r _ [14, 7, 8, 9, 5, 10, 15, 16, 17, 18, 19, 20, 21, 22, 23, 24, 25, 26, 27, 28, 29, 30, 31, 32, 33, 34, 35, 36, 37, 38, 39, 40, 41, 42, 43, 44, 45, 46, 47, 48, 49] (by decide +kernel) (by decide +kernel)
set_option maxRecDepth 20000 in
theorem gX9_place_X9_step : GoodIn wsX9_place (wsV RX9 130 RX9 yX9_step wsX9_step) := goodIn_app (goodIn_of _ (by decide +kernel)) ggX9_place_X9_step
theorem dX9_place_0 : decode cX9_place 0 = .ok (.aload_n 0, 1) := by decide +kernel
theorem dX9_place_1 : decode cX9_place 1 = .ok (.iload_n 1, 1) := by decide +kernel
theorem dX9_place_2 : decode cX9_place 2 = .ok (.iload_n 2, 1) := by decide +kernel
theorem dX9_place_3 : decode cX9_place 3 = .ok (.aload_n 0, 1) := by decide +kernel
theorem dX9_place_4 : decode cX9_place 4 = .ok (.iload_n 1, 1) := by decide +kernel
theorem dX9_place_5 : decode cX9_place 5 = .ok (.invokevirtual 126, 3) := by decide +kernel
theorem dX9_place_8 : decode cX9_place 8 = .ok (.irem, 1) := by decide +kernel
theorem dX9_place_9 : decode cX9_place 9 = .ok (.aload_n 0, 1) := by decide +kernel
theorem dX9_place_10 : decode cX9_place 10 = .ok (.getfield 28, 3) := by decide +kernel
theorem dX9_place_13 : decode cX9_place 13 = .ok (.iload_n 1, 1) := by decide +kernel
theorem dX9_place_14 : decode cX9_place 14 = .ok (.iaload, 1) := by decide +kernel
theorem dX9_place_15 : decode cX9_place 15 = .ok (.iadd, 1) := by decide +kernel
theorem dX9_place_16 : decode cX9_place 16 = .ok (.aload_n 0, 1) := by decide +kernel
theorem dX9_place_17 : decode cX9_place 17 = .ok (.iload_n 1, 1) := by decide +kernel
theorem dX9_place_18 : decode cX9_place 18 = .ok (.invokevirtual 126, 3) := by decide +kernel
theorem dX9_place_21 : decode cX9_place 21 = .ok (.irem, 1) := by decide +kernel
theorem dX9_place_22 : decode cX9_place 22 = .ok (.invokevirtual 130, 3) := by decide +kernel
theorem dX9_place_25 : decode cX9_place 25 = .ok (.ireturn, 1) := by decide +kernel
set_option maxRecDepth 20000 in
theorem ggX9_guardsAt_X9_guards : GoodIn wsX9_guardsAt wsX9_guards := goodIn_r _ [5, 6, 23, 24, 25, 26, 27, 28, 29, 30, 31, 32, 33, 34, 35, 36, 37, 38, 39, 40, 41, 42, 43, 44, 45, 46, 47, 48, 49, 50, 51, 52, 53, 54, 55, 56, 57] (by decide +kernel) (by decide +kernel)
set_option maxRecDepth 20000 in
theorem gX9_guardsAt_X9_guards : GoodIn wsX9_guardsAt (wsV RX9 118 RX9 yX9_guards wsX9_guards) := goodIn_app (goodIn_of _ (by decide +kernel)) ggX9_guardsAt_X9_guards
set_option maxRecDepth 20000 in
theorem ggX9_guardsAt_X9_place : GoodIn wsX9_guardsAt wsX9_place := goodIn_r _ [10, 11, 12, 13, 14, 4, 15, 6, 16, 17, 18, 19, 20, 21, 22, 23, 24, 25, 26, 27, 28, 29, 30, 31, 32, 33, 34, 35, 36, 37, 38, 39, 40, 41, 42, 43, 44, 45, 46, 47, 48, 49, 50, 51, 52, 53, 54, 55, 56, 57] (by decide +kernel) (by decide +kernel)
set_option maxRecDepth 20000 in
theorem gX9_guardsAt_X9_place : GoodIn wsX9_guardsAt (wsV RX9 139 RX9 yX9_place wsX9_place) := goodIn_app (goodIn_of _ (by decide +kernel)) ggX9_guardsAt_X9_place
theorem dX9_guardsAt_0 : decode cX9_guardsAt 0 = .ok (.iconst 0, 1) := by decide +kernel
theorem dX9_guardsAt_1 : decode cX9_guardsAt 1 = .ok (.istore_n 3, 1) := by decide +kernel
theorem dX9_guardsAt_2 : decode cX9_guardsAt 2 = .ok (.iconst 0, 1) := by decide +kernel
theorem dX9_guardsAt_3 : decode cX9_guardsAt 3 = .ok (.istore 4, 2) := by decide +kernel
theorem dX9_guardsAt_5 : decode cX9_guardsAt 5 = .ok (.iload 4, 2) := by decide +kernel
theorem dX9_guardsAt_7 : decode cX9_guardsAt 7 = .ok (.aload_n 0, 1) := by decide +kernel
theorem dX9_guardsAt_8 : decode cX9_guardsAt 8 = .ok (.invokevirtual 118, 3) := by decide +kernel
theorem dX9_guardsAt_11 : decode cX9_guardsAt 11 = .ok (.if_icmp .ge 31, 3) := by decide +kernel
theorem dX9_guardsAt_14 : decode cX9_guardsAt 14 = .ok (.iload_n 3, 1) := by decide +kernel
theorem dX9_guardsAt_15 : decode cX9_guardsAt 15 = .ok (.aload_n 0, 1) := by decide +kernel
theorem dX9_guardsAt_16 : decode cX9_guardsAt 16 = .ok (.iload 4, 2) := by decide +kernel
theorem dX9_guardsAt_18 : decode cX9_guardsAt 18 = .ok (.iload_n 2, 1) := by decide +kernel
theorem dX9_guardsAt_19 : decode cX9_guardsAt 19 = .ok (.invokevirtual 139, 3) := by decide +kernel
theorem dX9_guardsAt_22 : decode cX9_guardsAt 22 = .ok (.iload_n 1, 1) := by decide +kernel
theorem dX9_guardsAt_23 : decode cX9_guardsAt 23 = .ok (.if_icmp .ne 10, 3) := by decide +kernel
theorem dX9_guardsAt_26 : decode cX9_guardsAt 26 = .ok (.iconst 1, 1) := by decide +kernel
theorem dX9_guardsAt_27 : decode cX9_guardsAt 27 = .ok (.iload 4, 2) := by decide +kernel
theorem dX9_guardsAt_29 : decode cX9_guardsAt 29 = .ok (.ishl, 1) := by decide +kernel
theorem dX9_guardsAt_30 : decode cX9_guardsAt 30 = .ok (.goto 4, 3) := by decide +kernel
theorem dX9_guardsAt_33 : decode cX9_guardsAt 33 = .ok (.iconst 0, 1) := by decide +kernel
theorem dX9_guardsAt_34 : decode cX9_guardsAt 34 = .ok (.ior, 1) := by decide +kernel
theorem dX9_guardsAt_35 : decode cX9_guardsAt 35 = .ok (.istore_n 3, 1) := by decide +kernel
theorem dX9_guardsAt_36 : decode cX9_guardsAt 36 = .ok (.iinc 4 1, 3) := by decide +kernel
theorem dX9_guardsAt_39 : decode cX9_guardsAt 39 = .ok (.goto (-34), 3) := by decide +kernel
theorem dX9_guardsAt_42 : decode cX9_guardsAt 42 = .ok (.iload_n 3, 1) := by decide +kernel
theorem dX9_guardsAt_43 : decode cX9_guardsAt 43 = .ok (.ireturn, 1) := by decide +kernel
set_option maxRecDepth 20000 in
theorem ggX9_seenAt_X9_guards : GoodIn wsX9_seenAt wsX9_guards := goodIn_r _ [5, 6, 23, 24, 25, 26, 27, 28, 29, 30, 31, 32, 33, 34, 35, 36, 37, 38, 39, 40, 41, 42, 43, 44, 45, 46, 47, 48, 49, 50, 51, 52, 53, 54, 55, 56, 57] (by decide +kernel) (by decide +kernel)
set_option maxRecDepth 20000 in
theorem gX9_seenAt_X9_guards : GoodIn wsX9_seenAt (wsV RX9 118 RX9 yX9_guards wsX9_guards) := goodIn_app (goodIn_of _ (by decide +kernel)) ggX9_seenAt_X9_guards
set_option maxRecDepth 20000 in
theorem ggX9_seenAt_X9_place : GoodIn wsX9_seenAt wsX9_place := goodIn_r _ [10, 11, 12, 13, 14, 4, 15, 6, 16, 17, 18, 19, 20, 21, 22, 23, 24, 25, 26, 27, 28, 29, 30, 31, 32, 33, 34, 35, 36, 37, 38, 39, 40, 41, 42, 43, 44, 45, 46, 47, 48, 49, 50, 51, 52, 53, 54, 55, 56, 57] (by decide +kernel) (by decide +kernel)
set_option maxRecDepth 20000 in
theorem gX9_seenAt_X9_place : GoodIn wsX9_seenAt (wsV RX9 139 RX9 yX9_place wsX9_place) := goodIn_app (goodIn_of _ (by decide +kernel)) ggX9_seenAt_X9_place
theorem dX9_seenAt_0 : decode cX9_seenAt 0 = .ok (.iconst 0, 1) := by decide +kernel
theorem dX9_seenAt_1 : decode cX9_seenAt 1 = .ok (.istore_n 2, 1) := by decide +kernel
theorem dX9_seenAt_2 : decode cX9_seenAt 2 = .ok (.iconst 0, 1) := by decide +kernel
theorem dX9_seenAt_3 : decode cX9_seenAt 3 = .ok (.istore_n 3, 1) := by decide +kernel
theorem dX9_seenAt_4 : decode cX9_seenAt 4 = .ok (.iload_n 3, 1) := by decide +kernel
theorem dX9_seenAt_5 : decode cX9_seenAt 5 = .ok (.aload_n 0, 1) := by decide +kernel
theorem dX9_seenAt_6 : decode cX9_seenAt 6 = .ok (.invokevirtual 118, 3) := by decide +kernel
theorem dX9_seenAt_9 : decode cX9_seenAt 9 = .ok (.if_icmp .ge 20, 3) := by decide +kernel
theorem dX9_seenAt_12 : decode cX9_seenAt 12 = .ok (.iload_n 2, 1) := by decide +kernel
theorem dX9_seenAt_13 : decode cX9_seenAt 13 = .ok (.iconst 1, 1) := by decide +kernel
theorem dX9_seenAt_14 : decode cX9_seenAt 14 = .ok (.aload_n 0, 1) := by decide +kernel
theorem dX9_seenAt_15 : decode cX9_seenAt 15 = .ok (.iload_n 3, 1) := by decide +kernel
theorem dX9_seenAt_16 : decode cX9_seenAt 16 = .ok (.iload_n 1, 1) := by decide +kernel
theorem dX9_seenAt_17 : decode cX9_seenAt 17 = .ok (.invokevirtual 139, 3) := by decide +kernel
theorem dX9_seenAt_20 : decode cX9_seenAt 20 = .ok (.ishl, 1) := by decide +kernel
theorem dX9_seenAt_21 : decode cX9_seenAt 21 = .ok (.ior, 1) := by decide +kernel
theorem dX9_seenAt_22 : decode cX9_seenAt 22 = .ok (.istore_n 2, 1) := by decide +kernel
theorem dX9_seenAt_23 : decode cX9_seenAt 23 = .ok (.iinc 3 1, 3) := by decide +kernel
theorem dX9_seenAt_26 : decode cX9_seenAt 26 = .ok (.goto (-22), 3) := by decide +kernel
theorem dX9_seenAt_29 : decode cX9_seenAt 29 = .ok (.iload_n 2, 1) := by decide +kernel
theorem dX9_seenAt_30 : decode cX9_seenAt 30 = .ok (.ireturn, 1) := by decide +kernel
theorem dX9_common_0 : decode cX9_common 0 = .ok (.iload_n 0, 1) := by decide +kernel
theorem dX9_common_1 : decode cX9_common 1 = .ok (.istore_n 2, 1) := by decide +kernel
theorem dX9_common_2 : decode cX9_common 2 = .ok (.iload_n 1, 1) := by decide +kernel
theorem dX9_common_3 : decode cX9_common 3 = .ok (.istore_n 3, 1) := by decide +kernel
theorem dX9_common_4 : decode cX9_common 4 = .ok (.iload_n 3, 1) := by decide +kernel
theorem dX9_common_5 : decode cX9_common 5 = .ok (.ifCond .le 16, 3) := by decide +kernel
theorem dX9_common_8 : decode cX9_common 8 = .ok (.iload_n 2, 1) := by decide +kernel
theorem dX9_common_9 : decode cX9_common 9 = .ok (.iload_n 3, 1) := by decide +kernel
theorem dX9_common_10 : decode cX9_common 10 = .ok (.irem, 1) := by decide +kernel
theorem dX9_common_11 : decode cX9_common 11 = .ok (.istore 4, 2) := by decide +kernel
theorem dX9_common_13 : decode cX9_common 13 = .ok (.iload_n 3, 1) := by decide +kernel
theorem dX9_common_14 : decode cX9_common 14 = .ok (.istore_n 2, 1) := by decide +kernel
theorem dX9_common_15 : decode cX9_common 15 = .ok (.iload 4, 2) := by decide +kernel
theorem dX9_common_17 : decode cX9_common 17 = .ok (.istore_n 3, 1) := by decide +kernel
theorem dX9_common_18 : decode cX9_common 18 = .ok (.goto (-14), 3) := by decide +kernel
theorem dX9_common_21 : decode cX9_common 21 = .ok (.iload_n 0, 1) := by decide +kernel
theorem dX9_common_22 : decode cX9_common 22 = .ok (.iload_n 2, 1) := by decide +kernel
theorem dX9_common_23 : decode cX9_common 23 = .ok (.idiv, 1) := by decide +kernel
theorem dX9_common_24 : decode cX9_common 24 = .ok (.iload_n 1, 1) := by decide +kernel
theorem dX9_common_25 : decode cX9_common 25 = .ok (.imul, 1) := by decide +kernel
theorem dX9_common_26 : decode cX9_common 26 = .ok (.ireturn, 1) := by decide +kernel
set_option maxRecDepth 20000 in
theorem ggX9_cycle_X9_guards : GoodIn wsX9_cycle wsX9_guards := goodIn_r _ [5, 6, 17, 18, 19, 20, 21, 22, 23, 24, 25, 26, 27, 28, 29, 30, 31, 32, 33, 34, 35, 36, 37, 38, 39, 40, 41, 42, 43, 44, 45, 46, 47, 48, 49, 50, 51] (by decide +kernel) (by decide +kernel)
set_option maxRecDepth 20000 in
theorem gX9_cycle_X9_guards : GoodIn wsX9_cycle (wsV RX9 118 RX9 yX9_guards wsX9_guards) := goodIn_app (goodIn_of _ (by decide +kernel)) ggX9_cycle_X9_guards
set_option maxRecDepth 20000 in
theorem ggX9_cycle_X9_period : GoodIn wsX9_cycle wsX9_period := goodIn_r _ [10, 6, 11, 12, 4, 13, 17, 18, 19, 20, 21, 22, 23, 24, 25, 26, 27, 28, 29, 30, 31, 32, 33, 34, 35, 36, 37, 38, 39, 40, 41, 42, 43, 44, 45, 46, 47, 48, 49, 50, 51] (by decide +kernel) (by decide +kernel)
set_option maxRecDepth 20000 in
theorem gX9_cycle_X9_period : GoodIn wsX9_cycle (wsV RX9 126 RX9 yX9_period wsX9_period) := goodIn_app (goodIn_of _ (by decide +kernel)) ggX9_cycle_X9_period
set_option maxRecDepth 20000 in
theorem ggX9_cycle_X9_common : GoodIn wsX9_cycle wsX9_common := goodIn_r _ [16] (by decide +kernel) (by decide +kernel)
set_option maxRecDepth 20000 in
theorem gX9_cycle_X9_common : GoodIn wsX9_cycle (va_wsS RX9 142 yX9_common wsX9_common) := goodIn_app (goodIn_of _ (by decide +kernel)) ggX9_cycle_X9_common
theorem dX9_cycle_0 : decode cX9_cycle 0 = .ok (.iconst 1, 1) := by decide +kernel
theorem dX9_cycle_1 : decode cX9_cycle 1 = .ok (.istore_n 1, 1) := by decide +kernel
theorem dX9_cycle_2 : decode cX9_cycle 2 = .ok (.iconst 0, 1) := by decide +kernel
theorem dX9_cycle_3 : decode cX9_cycle 3 = .ok (.istore_n 2, 1) := by decide +kernel
theorem dX9_cycle_4 : decode cX9_cycle 4 = .ok (.iload_n 2, 1) := by decide +kernel
theorem dX9_cycle_5 : decode cX9_cycle 5 = .ok (.aload_n 0, 1) := by decide +kernel
theorem dX9_cycle_6 : decode cX9_cycle 6 = .ok (.invokevirtual 118, 3) := by decide +kernel
theorem dX9_cycle_9 : decode cX9_cycle 9 = .ok (.if_icmp .ge 19, 3) := by decide +kernel
theorem dX9_cycle_12 : decode cX9_cycle 12 = .ok (.iload_n 1, 1) := by decide +kernel
theorem dX9_cycle_13 : decode cX9_cycle 13 = .ok (.aload_n 0, 1) := by decide +kernel
theorem dX9_cycle_14 : decode cX9_cycle 14 = .ok (.iload_n 2, 1) := by decide +kernel
theorem dX9_cycle_15 : decode cX9_cycle 15 = .ok (.invokevirtual 126, 3) := by decide +kernel
theorem dX9_cycle_18 : decode cX9_cycle 18 = .ok (.invokestatic 142, 3) := by decide +kernel
theorem dX9_cycle_21 : decode cX9_cycle 21 = .ok (.istore_n 1, 1) := by decide +kernel
theorem dX9_cycle_22 : decode cX9_cycle 22 = .ok (.iinc 2 1, 3) := by decide +kernel
theorem dX9_cycle_25 : decode cX9_cycle 25 = .ok (.goto (-21), 3) := by decide +kernel
theorem dX9_cycle_28 : decode cX9_cycle 28 = .ok (.iload_n 1, 1) := by decide +kernel
theorem dX9_cycle_29 : decode cX9_cycle 29 = .ok (.ireturn, 1) := by decide +kernel
theorem dX9_endGap_0 : decode cX9_endGap 0 = .ok (.iload_n 3, 1) := by decide +kernel
theorem dX9_endGap_1 : decode cX9_endGap 1 = .ok (.aload_n 0, 1) := by decide +kernel
theorem dX9_endGap_2 : decode cX9_endGap 2 = .ok (.getfield 40, 3) := by decide +kernel
theorem dX9_endGap_5 : decode cX9_endGap 5 = .ok (.iload_n 1, 1) := by decide +kernel
theorem dX9_endGap_6 : decode cX9_endGap 6 = .ok (.iaload, 1) := by decide +kernel
theorem dX9_endGap_7 : decode cX9_endGap 7 = .ok (.if_icmp .gt 24, 3) := by decide +kernel
theorem dX9_endGap_10 : decode cX9_endGap 10 = .ok (.iload_n 3, 1) := by decide +kernel
theorem dX9_endGap_11 : decode cX9_endGap 11 = .ok (.aload_n 0, 1) := by decide +kernel
theorem dX9_endGap_12 : decode cX9_endGap 12 = .ok (.getfield 40, 3) := by decide +kernel
theorem dX9_endGap_15 : decode cX9_endGap 15 = .ok (.iload_n 1, 1) := by decide +kernel
theorem dX9_endGap_16 : decode cX9_endGap 16 = .ok (.iaload, 1) := by decide +kernel
theorem dX9_endGap_17 : decode cX9_endGap 17 = .ok (.if_icmp .ne 18, 3) := by decide +kernel
theorem dX9_endGap_20 : decode cX9_endGap 20 = .ok (.iload 4, 2) := by decide +kernel
theorem dX9_endGap_22 : decode cX9_endGap 22 = .ok (.aload_n 0, 1) := by decide +kernel
theorem dX9_endGap_23 : decode cX9_endGap 23 = .ok (.getfield 43, 3) := by decide +kernel
theorem dX9_endGap_26 : decode cX9_endGap 26 = .ok (.iload_n 1, 1) := by decide +kernel
theorem dX9_endGap_27 : decode cX9_endGap 27 = .ok (.iaload, 1) := by decide +kernel
theorem dX9_endGap_28 : decode cX9_endGap 28 = .ok (.if_icmp .ge 7, 3) := by decide +kernel
theorem dX9_endGap_31 : decode cX9_endGap 31 = .ok (.iconst 1, 1) := by decide +kernel
theorem dX9_endGap_32 : decode cX9_endGap 32 = .ok (.goto 4, 3) := by decide +kernel
theorem dX9_endGap_35 : decode cX9_endGap 35 = .ok (.iconst 0, 1) := by decide +kernel
theorem dX9_endGap_36 : decode cX9_endGap 36 = .ok (.istore 5, 2) := by decide +kernel
theorem dX9_endGap_38 : decode cX9_endGap 38 = .ok (.aload_n 0, 1) := by decide +kernel
theorem dX9_endGap_39 : decode cX9_endGap 39 = .ok (.getfield 43, 3) := by decide +kernel
theorem dX9_endGap_42 : decode cX9_endGap 42 = .ok (.iload_n 1, 1) := by decide +kernel
theorem dX9_endGap_43 : decode cX9_endGap 43 = .ok (.iload 5, 2) := by decide +kernel
theorem dX9_endGap_45 : decode cX9_endGap 45 = .ok (.ifCond .eq 8, 3) := by decide +kernel
theorem dX9_endGap_48 : decode cX9_endGap 48 = .ok (.iload 4, 2) := by decide +kernel
theorem dX9_endGap_50 : decode cX9_endGap 50 = .ok (.goto 9, 3) := by decide +kernel
theorem dX9_endGap_53 : decode cX9_endGap 53 = .ok (.aload_n 0, 1) := by decide +kernel
theorem dX9_endGap_54 : decode cX9_endGap 54 = .ok (.getfield 43, 3) := by decide +kernel
theorem dX9_endGap_57 : decode cX9_endGap 57 = .ok (.iload_n 1, 1) := by decide +kernel
theorem dX9_endGap_58 : decode cX9_endGap 58 = .ok (.iaload, 1) := by decide +kernel
theorem dX9_endGap_59 : decode cX9_endGap 59 = .ok (.iastore, 1) := by decide +kernel
theorem dX9_endGap_60 : decode cX9_endGap 60 = .ok (.aload_n 0, 1) := by decide +kernel
theorem dX9_endGap_61 : decode cX9_endGap 61 = .ok (.getfield 40, 3) := by decide +kernel
theorem dX9_endGap_64 : decode cX9_endGap 64 = .ok (.iload_n 1, 1) := by decide +kernel
theorem dX9_endGap_65 : decode cX9_endGap 65 = .ok (.aload_n 0, 1) := by decide +kernel
theorem dX9_endGap_66 : decode cX9_endGap 66 = .ok (.getfield 40, 3) := by decide +kernel
theorem dX9_endGap_69 : decode cX9_endGap 69 = .ok (.iload_n 1, 1) := by decide +kernel
theorem dX9_endGap_70 : decode cX9_endGap 70 = .ok (.iaload, 1) := by decide +kernel
theorem dX9_endGap_71 : decode cX9_endGap 71 = .ok (.iload_n 3, 1) := by decide +kernel
theorem dX9_endGap_72 : decode cX9_endGap 72 = .ok (.invokestatic 145, 3) := by decide +kernel
theorem dX9_endGap_75 : decode cX9_endGap 75 = .ok (.iastore, 1) := by decide +kernel
theorem dX9_endGap_76 : decode cX9_endGap 76 = .ok (.aload_n 0, 1) := by decide +kernel
theorem dX9_endGap_77 : decode cX9_endGap 77 = .ok (.getfield 34, 3) := by decide +kernel
theorem dX9_endGap_80 : decode cX9_endGap 80 = .ok (.iload_n 1, 1) := by decide +kernel
theorem dX9_endGap_81 : decode cX9_endGap 81 = .ok (.iload_n 2, 1) := by decide +kernel
theorem dX9_endGap_82 : decode cX9_endGap 82 = .ok (.iastore, 1) := by decide +kernel
theorem dX9_endGap_83 : decode cX9_endGap 83 = .ok (.return_, 1) := by decide +kernel
set_option maxRecDepth 20000 in
theorem ggX9_see_X9_endGap : GoodIn wsX9_see wsX9_endGap := goodIn_r _ [8, 9, 10, 11, 12, 13, 14, 3, 15, 16, 17, 18, 19, 20, 21, 22, 23, 24, 25, 26, 27, 28, 29, 30, 31, 32, 33, 34, 35, 36, 37, 38, 39, 40, 41, 42, 43, 44, 45, 46, 47, 48, 49] (by decide +kernel) (by decide +kernel)
set_option maxRecDepth 20000 in
theorem gX9_see_X9_endGap : GoodIn wsX9_see (wsV RX9 150 RX9 yX9_endGap wsX9_endGap) := goodIn_app (goodIn_of _ (by decide +kernel)) ggX9_see_X9_endGap
theorem dX9_see_0 : decode cX9_see 0 = .ok (.aload_n 0, 1) := by decide +kernel
theorem dX9_see_1 : decode cX9_see 1 = .ok (.getfield 37, 3) := by decide +kernel
theorem dX9_see_4 : decode cX9_see 4 = .ok (.iload_n 1, 1) := by decide +kernel
theorem dX9_see_5 : decode cX9_see 5 = .ok (.dup2, 1) := by decide +kernel
theorem dX9_see_6 : decode cX9_see 6 = .ok (.iaload, 1) := by decide +kernel
theorem dX9_see_7 : decode cX9_see 7 = .ok (.iconst 1, 1) := by decide +kernel
theorem dX9_see_8 : decode cX9_see 8 = .ok (.iadd, 1) := by decide +kernel
theorem dX9_see_9 : decode cX9_see 9 = .ok (.iastore, 1) := by decide +kernel
theorem dX9_see_10 : decode cX9_see 10 = .ok (.aload_n 0, 1) := by decide +kernel
theorem dX9_see_11 : decode cX9_see 11 = .ok (.getfield 31, 3) := by decide +kernel
theorem dX9_see_14 : decode cX9_see 14 = .ok (.iload_n 1, 1) := by decide +kernel
theorem dX9_see_15 : decode cX9_see 15 = .ok (.iaload, 1) := by decide +kernel
theorem dX9_see_16 : decode cX9_see 16 = .ok (.iconst (-1), 1) := by decide +kernel
theorem dX9_see_17 : decode cX9_see 17 = .ok (.if_icmp .ne 18, 3) := by decide +kernel
theorem dX9_see_20 : decode cX9_see 20 = .ok (.aload_n 0, 1) := by decide +kernel
theorem dX9_see_21 : decode cX9_see 21 = .ok (.getfield 31, 3) := by decide +kernel
theorem dX9_see_24 : decode cX9_see 24 = .ok (.iload_n 1, 1) := by decide +kernel
theorem dX9_see_25 : decode cX9_see 25 = .ok (.iload_n 2, 1) := by decide +kernel
theorem dX9_see_26 : decode cX9_see 26 = .ok (.iastore, 1) := by decide +kernel
theorem dX9_see_27 : decode cX9_see 27 = .ok (.aload_n 0, 1) := by decide +kernel
theorem dX9_see_28 : decode cX9_see 28 = .ok (.getfield 34, 3) := by decide +kernel
theorem dX9_see_31 : decode cX9_see 31 = .ok (.iload_n 1, 1) := by decide +kernel
theorem dX9_see_32 : decode cX9_see 32 = .ok (.iload_n 2, 1) := by decide +kernel
theorem dX9_see_33 : decode cX9_see 33 = .ok (.iastore, 1) := by decide +kernel
theorem dX9_see_34 : decode cX9_see 34 = .ok (.return_, 1) := by decide +kernel
theorem dX9_see_35 : decode cX9_see 35 = .ok (.aload_n 0, 1) := by decide +kernel
theorem dX9_see_36 : decode cX9_see 36 = .ok (.iload_n 1, 1) := by decide +kernel
theorem dX9_see_37 : decode cX9_see 37 = .ok (.iload_n 2, 1) := by decide +kernel
theorem dX9_see_38 : decode cX9_see 38 = .ok (.iload_n 2, 1) := by decide +kernel
theorem dX9_see_39 : decode cX9_see 39 = .ok (.aload_n 0, 1) := by decide +kernel
theorem dX9_see_40 : decode cX9_see 40 = .ok (.getfield 34, 3) := by decide +kernel
theorem dX9_see_43 : decode cX9_see 43 = .ok (.iload_n 1, 1) := by decide +kernel
theorem dX9_see_44 : decode cX9_see 44 = .ok (.iaload, 1) := by decide +kernel
theorem dX9_see_45 : decode cX9_see 45 = .ok (.isub, 1) := by decide +kernel
theorem dX9_see_46 : decode cX9_see 46 = .ok (.iconst 1, 1) := by decide +kernel
theorem dX9_see_47 : decode cX9_see 47 = .ok (.isub, 1) := by decide +kernel
theorem dX9_see_48 : decode cX9_see 48 = .ok (.aload_n 0, 1) := by decide +kernel
theorem dX9_see_49 : decode cX9_see 49 = .ok (.getfield 34, 3) := by decide +kernel
theorem dX9_see_52 : decode cX9_see 52 = .ok (.iload_n 1, 1) := by decide +kernel
theorem dX9_see_53 : decode cX9_see 53 = .ok (.iaload, 1) := by decide +kernel
theorem dX9_see_54 : decode cX9_see 54 = .ok (.iconst 1, 1) := by decide +kernel
theorem dX9_see_55 : decode cX9_see 55 = .ok (.iadd, 1) := by decide +kernel
theorem dX9_see_56 : decode cX9_see 56 = .ok (.invokevirtual 150, 3) := by decide +kernel
theorem dX9_see_59 : decode cX9_see 59 = .ok (.return_, 1) := by decide +kernel
set_option maxRecDepth 20000 in
theorem ggX9_layCycle_X9_cycle : GoodIn wsX9_layCycle wsX9_cycle := goodIn_r _ [11, 12, 13, 14, 10, 15, 16, 17, 18, 19, 20, 21, 22, 23, 24, 25, 26, 61, 62, 63, 64, 65, 66, 67, 68, 69, 70, 71, 72, 73, 74, 75, 76, 77, 78, 79, 80, 81, 82, 83, 84, 85, 86, 87, 88, 89, 90, 91, 92, 93, 94, 95] (by decide +kernel) (by decide +kernel)
set_option maxRecDepth 20000 in
theorem gX9_layCycle_X9_cycle : GoodIn wsX9_layCycle (wsV RX9 154 RX9 yX9_cycle wsX9_cycle) := goodIn_app (goodIn_of _ (by decide +kernel)) ggX9_layCycle_X9_cycle
set_option maxRecDepth 20000 in
theorem ggX9_layCycle_X9_rooms : GoodIn wsX9_layCycle wsX9_rooms := goodIn_r _ [30, 16, 61, 62, 63, 64, 65, 66, 67, 68, 69, 70, 71, 72, 73, 74, 75, 76, 77, 78, 79, 80, 81, 82, 83, 84, 85, 86, 87, 88, 89, 90, 91, 92, 93, 94, 95] (by decide +kernel) (by decide +kernel)
set_option maxRecDepth 20000 in
theorem gX9_layCycle_X9_rooms : GoodIn wsX9_layCycle (wsV RX9 110 RX9 yX9_rooms wsX9_rooms) := goodIn_app (goodIn_of _ (by decide +kernel)) ggX9_layCycle_X9_rooms
set_option maxRecDepth 20000 in
theorem ggX9_layCycle_X9_seenAt : GoodIn wsX9_layCycle wsX9_seenAt := goodIn_r _ [34, 12, 13, 14, 10, 15, 16, 35, 36, 37, 38, 39, 17, 18, 19, 20, 21, 22, 23, 40, 41, 42, 43, 61, 62, 63, 64, 65, 66, 67, 68, 69, 70, 71, 72, 73, 74, 75, 76, 77, 78, 79, 80, 81, 82, 83, 84, 85, 86, 87, 88, 89, 90, 91, 92, 93, 94, 95] (by decide +kernel) (by decide +kernel)
set_option maxRecDepth 20000 in
theorem gX9_layCycle_X9_seenAt : GoodIn wsX9_layCycle (wsV RX9 160 RX9 yX9_seenAt wsX9_seenAt) := goodIn_app (goodIn_of _ (by decide +kernel)) ggX9_layCycle_X9_seenAt
set_option maxRecDepth 20000 in
theorem ggX9_layCycle_J6_numberOfTrailingZeros_0f7a4 : GoodIn wsX9_layCycle wsJ6_numberOfTrailingZeros_0f7a4 := goodIn_r _ [47, 48] (by decide +kernel) (by decide +kernel)
set_option maxRecDepth 20000 in
theorem gX9_layCycle_J6_numberOfTrailingZeros_0f7a4 : GoodIn wsX9_layCycle (va_wsS RX9 163 yJ6_numberOfTrailingZeros_0f7a4 wsJ6_numberOfTrailingZeros_0f7a4) := goodIn_app (goodIn_of _ (by decide +kernel)) ggX9_layCycle_J6_numberOfTrailingZeros_0f7a4
set_option maxRecDepth 20000 in
theorem ggX9_layCycle_X9_see : GoodIn wsX9_layCycle wsX9_see := goodIn_r _ [52, 3, 2, 6, 53, 54, 55, 10, 56, 4, 5, 57, 58, 59, 60, 61, 62, 63, 64, 65, 66, 67, 68, 69, 70, 71, 72, 73, 74, 75, 76, 77, 78, 79, 80, 81, 82, 83, 84, 85, 86, 87, 88, 89, 90, 91, 92, 93, 94, 95] (by decide +kernel) (by decide +kernel)
set_option maxRecDepth 20000 in
theorem gX9_layCycle_X9_see : GoodIn wsX9_layCycle (wsV RX9 168 RX9 yX9_see wsX9_see) := goodIn_app (goodIn_of _ (by decide +kernel)) ggX9_layCycle_X9_see
set_option maxRecDepth 20000 in
theorem ggX9_layCycle_X9_endGap : GoodIn wsX9_layCycle wsX9_endGap := goodIn_r _ [56, 4, 5, 57, 58, 59, 60, 6, 61, 62, 63, 64, 65, 66, 67, 68, 69, 70, 71, 72, 73, 74, 75, 76, 77, 78, 79, 80, 81, 82, 83, 84, 85, 86, 87, 88, 89, 90, 91, 92, 93, 94, 95] (by decide +kernel) (by decide +kernel)
set_option maxRecDepth 20000 in
theorem gX9_layCycle_X9_endGap : GoodIn wsX9_layCycle (wsV RX9 150 RX9 yX9_endGap wsX9_endGap) := goodIn_app (goodIn_of _ (by decide +kernel)) ggX9_layCycle_X9_endGap
theorem dX9_layCycle_0 : decode cX9_layCycle 0 = .ok (.aload_n 0, 1) := by decide +kernel
theorem dX9_layCycle_1 : decode cX9_layCycle 1 = .ok (.aload_n 0, 1) := by decide +kernel
theorem dX9_layCycle_2 : decode cX9_layCycle 2 = .ok (.invokevirtual 154, 3) := by decide +kernel
theorem dX9_layCycle_5 : decode cX9_layCycle 5 = .ok (.putfield 157, 3) := by decide +kernel
theorem dX9_layCycle_8 : decode cX9_layCycle 8 = .ok (.iconst 0, 1) := by decide +kernel
theorem dX9_layCycle_9 : decode cX9_layCycle 9 = .ok (.istore_n 1, 1) := by decide +kernel
theorem dX9_layCycle_10 : decode cX9_layCycle 10 = .ok (.iload_n 1, 1) := by decide +kernel
theorem dX9_layCycle_11 : decode cX9_layCycle 11 = .ok (.aload_n 0, 1) := by decide +kernel
theorem dX9_layCycle_12 : decode cX9_layCycle 12 = .ok (.invokevirtual 110, 3) := by decide +kernel
theorem dX9_layCycle_15 : decode cX9_layCycle 15 = .ok (.if_icmp .ge 37, 3) := by decide +kernel
theorem dX9_layCycle_18 : decode cX9_layCycle 18 = .ok (.aload_n 0, 1) := by decide +kernel
theorem dX9_layCycle_19 : decode cX9_layCycle 19 = .ok (.getfield 31, 3) := by decide +kernel
theorem dX9_layCycle_22 : decode cX9_layCycle 22 = .ok (.iload_n 1, 1) := by decide +kernel
theorem dX9_layCycle_23 : decode cX9_layCycle 23 = .ok (.iconst (-1), 1) := by decide +kernel
theorem dX9_layCycle_24 : decode cX9_layCycle 24 = .ok (.iastore, 1) := by decide +kernel
theorem dX9_layCycle_25 : decode cX9_layCycle 25 = .ok (.aload_n 0, 1) := by decide +kernel
theorem dX9_layCycle_26 : decode cX9_layCycle 26 = .ok (.getfield 37, 3) := by decide +kernel
theorem dX9_layCycle_29 : decode cX9_layCycle 29 = .ok (.iload_n 1, 1) := by decide +kernel
theorem dX9_layCycle_30 : decode cX9_layCycle 30 = .ok (.iconst 0, 1) := by decide +kernel
theorem dX9_layCycle_31 : decode cX9_layCycle 31 = .ok (.iastore, 1) := by decide +kernel
theorem dX9_layCycle_32 : decode cX9_layCycle 32 = .ok (.aload_n 0, 1) := by decide +kernel
theorem dX9_layCycle_33 : decode cX9_layCycle 33 = .ok (.getfield 40, 3) := by decide +kernel
theorem dX9_layCycle_36 : decode cX9_layCycle 36 = .ok (.iload_n 1, 1) := by decide +kernel
theorem dX9_layCycle_37 : decode cX9_layCycle 37 = .ok (.iconst (-1), 1) := by decide +kernel
theorem dX9_layCycle_38 : decode cX9_layCycle 38 = .ok (.iastore, 1) := by decide +kernel
theorem dX9_layCycle_39 : decode cX9_layCycle 39 = .ok (.aload_n 0, 1) := by decide +kernel
theorem dX9_layCycle_40 : decode cX9_layCycle 40 = .ok (.getfield 43, 3) := by decide +kernel
theorem dX9_layCycle_43 : decode cX9_layCycle 43 = .ok (.iload_n 1, 1) := by decide +kernel
theorem dX9_layCycle_44 : decode cX9_layCycle 44 = .ok (.iconst (-1), 1) := by decide +kernel
theorem dX9_layCycle_45 : decode cX9_layCycle 45 = .ok (.iastore, 1) := by decide +kernel
theorem dX9_layCycle_46 : decode cX9_layCycle 46 = .ok (.iinc 1 1, 3) := by decide +kernel
theorem dX9_layCycle_49 : decode cX9_layCycle 49 = .ok (.goto (-39), 3) := by decide +kernel
theorem dX9_layCycle_52 : decode cX9_layCycle 52 = .ok (.iconst 0, 1) := by decide +kernel
theorem dX9_layCycle_53 : decode cX9_layCycle 53 = .ok (.istore_n 1, 1) := by decide +kernel
theorem dX9_layCycle_54 : decode cX9_layCycle 54 = .ok (.iload_n 1, 1) := by decide +kernel
theorem dX9_layCycle_55 : decode cX9_layCycle 55 = .ok (.aload_n 0, 1) := by decide +kernel
theorem dX9_layCycle_56 : decode cX9_layCycle 56 = .ok (.getfield 157, 3) := by decide +kernel
theorem dX9_layCycle_59 : decode cX9_layCycle 59 = .ok (.if_icmp .ge 37, 3) := by decide +kernel
theorem dX9_layCycle_62 : decode cX9_layCycle 62 = .ok (.aload_n 0, 1) := by decide +kernel
theorem dX9_layCycle_63 : decode cX9_layCycle 63 = .ok (.iload_n 1, 1) := by decide +kernel
theorem dX9_layCycle_64 : decode cX9_layCycle 64 = .ok (.invokevirtual 160, 3) := by decide +kernel
theorem dX9_layCycle_67 : decode cX9_layCycle 67 = .ok (.istore_n 2, 1) := by decide +kernel
theorem dX9_layCycle_68 : decode cX9_layCycle 68 = .ok (.iload_n 2, 1) := by decide +kernel
theorem dX9_layCycle_69 : decode cX9_layCycle 69 = .ok (.ifCond .eq 21, 3) := by decide +kernel
theorem dX9_layCycle_72 : decode cX9_layCycle 72 = .ok (.aload_n 0, 1) := by decide +kernel
theorem dX9_layCycle_73 : decode cX9_layCycle 73 = .ok (.iload_n 2, 1) := by decide +kernel
theorem dX9_layCycle_74 : decode cX9_layCycle 74 = .ok (.invokestatic 163, 3) := by decide +kernel
theorem dX9_layCycle_77 : decode cX9_layCycle 77 = .ok (.iload_n 1, 1) := by decide +kernel
theorem dX9_layCycle_78 : decode cX9_layCycle 78 = .ok (.invokevirtual 168, 3) := by decide +kernel
theorem dX9_layCycle_81 : decode cX9_layCycle 81 = .ok (.iload_n 2, 1) := by decide +kernel
theorem dX9_layCycle_82 : decode cX9_layCycle 82 = .ok (.iload_n 2, 1) := by decide +kernel
theorem dX9_layCycle_83 : decode cX9_layCycle 83 = .ok (.iconst 1, 1) := by decide +kernel
theorem dX9_layCycle_84 : decode cX9_layCycle 84 = .ok (.isub, 1) := by decide +kernel
theorem dX9_layCycle_85 : decode cX9_layCycle 85 = .ok (.iand, 1) := by decide +kernel
theorem dX9_layCycle_86 : decode cX9_layCycle 86 = .ok (.istore_n 2, 1) := by decide +kernel
theorem dX9_layCycle_87 : decode cX9_layCycle 87 = .ok (.goto (-19), 3) := by decide +kernel
theorem dX9_layCycle_90 : decode cX9_layCycle 90 = .ok (.iinc 1 1, 3) := by decide +kernel
theorem dX9_layCycle_93 : decode cX9_layCycle 93 = .ok (.goto (-39), 3) := by decide +kernel
theorem dX9_layCycle_96 : decode cX9_layCycle 96 = .ok (.iconst 0, 1) := by decide +kernel
theorem dX9_layCycle_97 : decode cX9_layCycle 97 = .ok (.istore_n 1, 1) := by decide +kernel
theorem dX9_layCycle_98 : decode cX9_layCycle 98 = .ok (.iload_n 1, 1) := by decide +kernel
theorem dX9_layCycle_99 : decode cX9_layCycle 99 = .ok (.aload_n 0, 1) := by decide +kernel
theorem dX9_layCycle_100 : decode cX9_layCycle 100 = .ok (.invokevirtual 110, 3) := by decide +kernel
theorem dX9_layCycle_103 : decode cX9_layCycle 103 = .ok (.if_icmp .ge 65, 3) := by decide +kernel
theorem dX9_layCycle_106 : decode cX9_layCycle 106 = .ok (.aload_n 0, 1) := by decide +kernel
theorem dX9_layCycle_107 : decode cX9_layCycle 107 = .ok (.getfield 31, 3) := by decide +kernel
theorem dX9_layCycle_110 : decode cX9_layCycle 110 = .ok (.iload_n 1, 1) := by decide +kernel
theorem dX9_layCycle_111 : decode cX9_layCycle 111 = .ok (.iaload, 1) := by decide +kernel
theorem dX9_layCycle_112 : decode cX9_layCycle 112 = .ok (.iconst (-1), 1) := by decide +kernel
theorem dX9_layCycle_113 : decode cX9_layCycle 113 = .ok (.if_icmp .eq 49, 3) := by decide +kernel
theorem dX9_layCycle_116 : decode cX9_layCycle 116 = .ok (.aload_n 0, 1) := by decide +kernel
theorem dX9_layCycle_117 : decode cX9_layCycle 117 = .ok (.getfield 157, 3) := by decide +kernel
theorem dX9_layCycle_120 : decode cX9_layCycle 120 = .ok (.aload_n 0, 1) := by decide +kernel
theorem dX9_layCycle_121 : decode cX9_layCycle 121 = .ok (.getfield 34, 3) := by decide +kernel
theorem dX9_layCycle_124 : decode cX9_layCycle 124 = .ok (.iload_n 1, 1) := by decide +kernel
theorem dX9_layCycle_125 : decode cX9_layCycle 125 = .ok (.iaload, 1) := by decide +kernel
theorem dX9_layCycle_126 : decode cX9_layCycle 126 = .ok (.isub, 1) := by decide +kernel
theorem dX9_layCycle_127 : decode cX9_layCycle 127 = .ok (.iconst 1, 1) := by decide +kernel
theorem dX9_layCycle_128 : decode cX9_layCycle 128 = .ok (.isub, 1) := by decide +kernel
theorem dX9_layCycle_129 : decode cX9_layCycle 129 = .ok (.aload_n 0, 1) := by decide +kernel
theorem dX9_layCycle_130 : decode cX9_layCycle 130 = .ok (.getfield 31, 3) := by decide +kernel
theorem dX9_layCycle_133 : decode cX9_layCycle 133 = .ok (.iload_n 1, 1) := by decide +kernel
theorem dX9_layCycle_134 : decode cX9_layCycle 134 = .ok (.iaload, 1) := by decide +kernel
theorem dX9_layCycle_135 : decode cX9_layCycle 135 = .ok (.iadd, 1) := by decide +kernel
theorem dX9_layCycle_136 : decode cX9_layCycle 136 = .ok (.istore_n 2, 1) := by decide +kernel
theorem dX9_layCycle_137 : decode cX9_layCycle 137 = .ok (.aload_n 0, 1) := by decide +kernel
theorem dX9_layCycle_138 : decode cX9_layCycle 138 = .ok (.iload_n 1, 1) := by decide +kernel
theorem dX9_layCycle_139 : decode cX9_layCycle 139 = .ok (.aload_n 0, 1) := by decide +kernel
theorem dX9_layCycle_140 : decode cX9_layCycle 140 = .ok (.getfield 34, 3) := by decide +kernel
theorem dX9_layCycle_143 : decode cX9_layCycle 143 = .ok (.iload_n 1, 1) := by decide +kernel
theorem dX9_layCycle_144 : decode cX9_layCycle 144 = .ok (.iaload, 1) := by decide +kernel
theorem dX9_layCycle_145 : decode cX9_layCycle 145 = .ok (.iload_n 2, 1) := by decide +kernel
theorem dX9_layCycle_146 : decode cX9_layCycle 146 = .ok (.aload_n 0, 1) := by decide +kernel
theorem dX9_layCycle_147 : decode cX9_layCycle 147 = .ok (.getfield 34, 3) := by decide +kernel
theorem dX9_layCycle_150 : decode cX9_layCycle 150 = .ok (.iload_n 1, 1) := by decide +kernel
theorem dX9_layCycle_151 : decode cX9_layCycle 151 = .ok (.iaload, 1) := by decide +kernel
theorem dX9_layCycle_152 : decode cX9_layCycle 152 = .ok (.iconst 1, 1) := by decide +kernel
theorem dX9_layCycle_153 : decode cX9_layCycle 153 = .ok (.iadd, 1) := by decide +kernel
theorem dX9_layCycle_154 : decode cX9_layCycle 154 = .ok (.aload_n 0, 1) := by decide +kernel
theorem dX9_layCycle_155 : decode cX9_layCycle 155 = .ok (.getfield 157, 3) := by decide +kernel
theorem dX9_layCycle_158 : decode cX9_layCycle 158 = .ok (.irem, 1) := by decide +kernel
theorem dX9_layCycle_159 : decode cX9_layCycle 159 = .ok (.invokevirtual 150, 3) := by decide +kernel
theorem dX9_layCycle_162 : decode cX9_layCycle 162 = .ok (.iinc 1 1, 3) := by decide +kernel
theorem dX9_layCycle_165 : decode cX9_layCycle 165 = .ok (.goto (-67), 3) := by decide +kernel
theorem dX9_layCycle_168 : decode cX9_layCycle 168 = .ok (.return_, 1) := by decide +kernel
set_option maxRecDepth 20000 in
theorem ggX9_layNow_X9_takePhases : GoodIn wsX9_layNow wsX9_takePhases := goodIn_r _ [5, 6, 7, 8, 9, 4, 10, 11, 12, 13, 14, 15, 16, 17, 18, 73, 74, 75, 76, 77, 78, 79, 80, 81, 82, 83, 84, 85, 86, 87, 88, 89, 90, 91, 92, 93, 94, 95, 96, 97, 98, 99, 100, 101, 102, 103, 104, 105, 106, 107] (by decide +kernel) (by decide +kernel)
set_option maxRecDepth 20000 in
theorem gX9_layNow_X9_takePhases : GoodIn wsX9_layNow (wsV RX9 172 RX9 yX9_takePhases wsX9_takePhases) := goodIn_app (goodIn_of _ (by decide +kernel)) ggX9_layNow_X9_takePhases
set_option maxRecDepth 20000 in
theorem ggX9_layNow_X9_layCycle : GoodIn wsX9_layNow wsX9_layCycle := goodIn_r _ [22, 23, 24, 25, 26, 27, 28, 29, 30, 31, 4, 32, 7, 8, 9, 10, 11, 33, 34, 35, 36, 16, 17, 18, 37, 38, 39, 40, 41, 42, 43, 44, 45, 46, 47, 48, 49, 50, 51, 6, 52, 53, 54, 55, 56, 57, 58, 59, 60, 61, 62, 63, 64, 65, 66, 67, 68, 69, 70, 71, 72, 73, 74, 75, 76, 77, 78, 79, 80, 81, 82, 83, 84, 85, 86, 87, 88, 89, 90, 91, 92, 93, 94, 95, 96, 97, 98, 99, 100, 101, 102, 103, 104, 105, 106, 107] (by decide +kernel) (by decide +kernel)
set_option maxRecDepth 20000 in
theorem gX9_layNow_X9_layCycle : GoodIn wsX9_layNow (wsV RX9 175 RX9 yX9_layCycle wsX9_layCycle) := goodIn_app (goodIn_of _ (by decide +kernel)) ggX9_layNow_X9_layCycle
theorem dX9_layNow_0 : decode cX9_layNow 0 = .ok (.aload_n 0, 1) := by decide +kernel
theorem dX9_layNow_1 : decode cX9_layNow 1 = .ok (.invokevirtual 172, 3) := by decide +kernel
theorem dX9_layNow_4 : decode cX9_layNow 4 = .ok (.aload_n 0, 1) := by decide +kernel
theorem dX9_layNow_5 : decode cX9_layNow 5 = .ok (.invokevirtual 175, 3) := by decide +kernel
theorem dX9_layNow_8 : decode cX9_layNow 8 = .ok (.return_, 1) := by decide +kernel
set_option maxRecDepth 20000 in
theorem ggX9_worstLaid_X9_rooms : GoodIn wsX9_worstLaid wsX9_rooms := goodIn_r _ [10, 11, 12, 13, 14, 15, 16, 17, 18, 19, 20, 21, 22, 23, 24, 25, 26, 27, 28, 29, 30, 31, 32, 33, 34, 35, 36, 37, 38, 39, 40, 41, 42, 43, 44, 45, 46] (by decide +kernel) (by decide +kernel)
set_option maxRecDepth 20000 in
theorem gX9_worstLaid_X9_rooms : GoodIn wsX9_worstLaid (wsV RX9 110 RX9 yX9_rooms wsX9_rooms) := goodIn_app (goodIn_of _ (by decide +kernel)) ggX9_worstLaid_X9_rooms
theorem dX9_worstLaid_0 : decode cX9_worstLaid 0 = .ok (.iconst 0, 1) := by decide +kernel
theorem dX9_worstLaid_1 : decode cX9_worstLaid 1 = .ok (.istore_n 1, 1) := by decide +kernel
theorem dX9_worstLaid_2 : decode cX9_worstLaid 2 = .ok (.iconst 0, 1) := by decide +kernel
theorem dX9_worstLaid_3 : decode cX9_worstLaid 3 = .ok (.istore_n 2, 1) := by decide +kernel
theorem dX9_worstLaid_4 : decode cX9_worstLaid 4 = .ok (.iload_n 2, 1) := by decide +kernel
theorem dX9_worstLaid_5 : decode cX9_worstLaid 5 = .ok (.aload_n 0, 1) := by decide +kernel
theorem dX9_worstLaid_6 : decode cX9_worstLaid 6 = .ok (.invokevirtual 110, 3) := by decide +kernel
theorem dX9_worstLaid_9 : decode cX9_worstLaid 9 = .ok (.if_icmp .ge 20, 3) := by decide +kernel
theorem dX9_worstLaid_12 : decode cX9_worstLaid 12 = .ok (.iload_n 1, 1) := by decide +kernel
theorem dX9_worstLaid_13 : decode cX9_worstLaid 13 = .ok (.aload_n 0, 1) := by decide +kernel
theorem dX9_worstLaid_14 : decode cX9_worstLaid 14 = .ok (.getfield 40, 3) := by decide +kernel
theorem dX9_worstLaid_17 : decode cX9_worstLaid 17 = .ok (.iload_n 2, 1) := by decide +kernel
theorem dX9_worstLaid_18 : decode cX9_worstLaid 18 = .ok (.iaload, 1) := by decide +kernel
theorem dX9_worstLaid_19 : decode cX9_worstLaid 19 = .ok (.invokestatic 145, 3) := by decide +kernel
theorem dX9_worstLaid_22 : decode cX9_worstLaid 22 = .ok (.istore_n 1, 1) := by decide +kernel
theorem dX9_worstLaid_23 : decode cX9_worstLaid 23 = .ok (.iinc 2 1, 3) := by decide +kernel
theorem dX9_worstLaid_26 : decode cX9_worstLaid 26 = .ok (.goto (-22), 3) := by decide +kernel
theorem dX9_worstLaid_29 : decode cX9_worstLaid 29 = .ok (.iload_n 1, 1) := by decide +kernel
theorem dX9_worstLaid_30 : decode cX9_worstLaid 30 = .ok (.ireturn, 1) := by decide +kernel
set_option maxRecDepth 20000 in
theorem ggX9_isLate_X9_ofRoom : GoodIn wsX9_isLate wsX9_ofRoom := goodIn_r _ [6, 7, 8, 9, 5, 10, 11, 12, 13, 14, 15, 16, 17, 18, 19, 20, 21, 22, 23, 24, 25, 26, 27, 28, 29, 30, 31, 32, 33, 34, 35, 36, 37, 38, 39, 40, 41, 42, 43, 44, 45] (by decide +kernel) (by decide +kernel)
set_option maxRecDepth 20000 in
theorem gX9_isLate_X9_ofRoom : GoodIn wsX9_isLate (wsV RX9 178 RX9 yX9_ofRoom wsX9_ofRoom) := goodIn_app (goodIn_of _ (by decide +kernel)) ggX9_isLate_X9_ofRoom
theorem dX9_isLate_0 : decode cX9_isLate 0 = .ok (.aload_n 0, 1) := by decide +kernel
theorem dX9_isLate_1 : decode cX9_isLate 1 = .ok (.getfield 40, 3) := by decide +kernel
theorem dX9_isLate_4 : decode cX9_isLate 4 = .ok (.iload_n 1, 1) := by decide +kernel
theorem dX9_isLate_5 : decode cX9_isLate 5 = .ok (.iaload, 1) := by decide +kernel
theorem dX9_isLate_6 : decode cX9_isLate 6 = .ok (.iconst (-1), 1) := by decide +kernel
theorem dX9_isLate_7 : decode cX9_isLate 7 = .ok (.if_icmp .eq 18, 3) := by decide +kernel
theorem dX9_isLate_10 : decode cX9_isLate 10 = .ok (.aload_n 0, 1) := by decide +kernel
theorem dX9_isLate_11 : decode cX9_isLate 11 = .ok (.getfield 40, 3) := by decide +kernel
theorem dX9_isLate_14 : decode cX9_isLate 14 = .ok (.iload_n 1, 1) := by decide +kernel
theorem dX9_isLate_15 : decode cX9_isLate 15 = .ok (.iaload, 1) := by decide +kernel
theorem dX9_isLate_16 : decode cX9_isLate 16 = .ok (.aload_n 0, 1) := by decide +kernel
theorem dX9_isLate_17 : decode cX9_isLate 17 = .ok (.iload_n 1, 1) := by decide +kernel
theorem dX9_isLate_18 : decode cX9_isLate 18 = .ok (.iconst 0, 1) := by decide +kernel
theorem dX9_isLate_19 : decode cX9_isLate 19 = .ok (.invokevirtual 178, 3) := by decide +kernel
theorem dX9_isLate_22 : decode cX9_isLate 22 = .ok (.if_icmp .le 7, 3) := by decide +kernel
theorem dX9_isLate_25 : decode cX9_isLate 25 = .ok (.iconst 1, 1) := by decide +kernel
theorem dX9_isLate_26 : decode cX9_isLate 26 = .ok (.goto 4, 3) := by decide +kernel
theorem dX9_isLate_29 : decode cX9_isLate 29 = .ok (.iconst 0, 1) := by decide +kernel
theorem dX9_isLate_30 : decode cX9_isLate 30 = .ok (.ireturn, 1) := by decide +kernel
set_option maxRecDepth 20000 in
theorem ggX9_lateLaid_X9_rooms : GoodIn wsX9_lateLaid wsX9_rooms := goodIn_r _ [5, 6, 19, 20, 21, 22, 23, 24, 25, 26, 27, 28, 29, 30, 31, 32, 33, 34, 35, 36, 37, 38, 39, 40, 41, 42, 43, 44, 45, 46, 47, 48, 49, 50, 51, 52, 53] (by decide +kernel) (by decide +kernel)
set_option maxRecDepth 20000 in
theorem gX9_lateLaid_X9_rooms : GoodIn wsX9_lateLaid (wsV RX9 110 RX9 yX9_rooms wsX9_rooms) := goodIn_app (goodIn_of _ (by decide +kernel)) ggX9_lateLaid_X9_rooms
set_option maxRecDepth 20000 in
theorem ggX9_lateLaid_X9_isLate : GoodIn wsX9_lateLaid wsX9_isLate := goodIn_r _ [10, 11, 12, 13, 14, 4, 15, 6, 16, 17, 18, 19, 20, 21, 22, 23, 24, 25, 26, 27, 28, 29, 30, 31, 32, 33, 34, 35, 36, 37, 38, 39, 40, 41, 42, 43, 44, 45, 46, 47, 48, 49, 50, 51, 52, 53] (by decide +kernel) (by decide +kernel)
set_option maxRecDepth 20000 in
theorem gX9_lateLaid_X9_isLate : GoodIn wsX9_lateLaid (wsV RX9 181 RX9 yX9_isLate wsX9_isLate) := goodIn_app (goodIn_of _ (by decide +kernel)) ggX9_lateLaid_X9_isLate
theorem dX9_lateLaid_0 : decode cX9_lateLaid 0 = .ok (.iconst 0, 1) := by decide +kernel
theorem dX9_lateLaid_1 : decode cX9_lateLaid 1 = .ok (.istore_n 1, 1) := by decide +kernel
theorem dX9_lateLaid_2 : decode cX9_lateLaid 2 = .ok (.iconst 0, 1) := by decide +kernel
theorem dX9_lateLaid_3 : decode cX9_lateLaid 3 = .ok (.istore_n 2, 1) := by decide +kernel
theorem dX9_lateLaid_4 : decode cX9_lateLaid 4 = .ok (.iload_n 2, 1) := by decide +kernel
theorem dX9_lateLaid_5 : decode cX9_lateLaid 5 = .ok (.aload_n 0, 1) := by decide +kernel
theorem dX9_lateLaid_6 : decode cX9_lateLaid 6 = .ok (.invokevirtual 110, 3) := by decide +kernel
theorem dX9_lateLaid_9 : decode cX9_lateLaid 9 = .ok (.if_icmp .ge 25, 3) := by decide +kernel
theorem dX9_lateLaid_12 : decode cX9_lateLaid 12 = .ok (.iload_n 1, 1) := by decide +kernel
theorem dX9_lateLaid_13 : decode cX9_lateLaid 13 = .ok (.aload_n 0, 1) := by decide +kernel
theorem dX9_lateLaid_14 : decode cX9_lateLaid 14 = .ok (.iload_n 2, 1) := by decide +kernel
theorem dX9_lateLaid_15 : decode cX9_lateLaid 15 = .ok (.invokevirtual 181, 3) := by decide +kernel
theorem dX9_lateLaid_18 : decode cX9_lateLaid 18 = .ok (.ifCond .eq 7, 3) := by decide +kernel
theorem dX9_lateLaid_21 : decode cX9_lateLaid 21 = .ok (.iconst 1, 1) := by decide +kernel
theorem dX9_lateLaid_22 : decode cX9_lateLaid 22 = .ok (.goto 4, 3) := by decide +kernel
theorem dX9_lateLaid_25 : decode cX9_lateLaid 25 = .ok (.iconst 0, 1) := by decide +kernel
theorem dX9_lateLaid_26 : decode cX9_lateLaid 26 = .ok (.iadd, 1) := by decide +kernel
theorem dX9_lateLaid_27 : decode cX9_lateLaid 27 = .ok (.istore_n 1, 1) := by decide +kernel
theorem dX9_lateLaid_28 : decode cX9_lateLaid 28 = .ok (.iinc 2 1, 3) := by decide +kernel
theorem dX9_lateLaid_31 : decode cX9_lateLaid 31 = .ok (.goto (-27), 3) := by decide +kernel
theorem dX9_lateLaid_34 : decode cX9_lateLaid 34 = .ok (.iload_n 1, 1) := by decide +kernel
theorem dX9_lateLaid_35 : decode cX9_lateLaid 35 = .ok (.ireturn, 1) := by decide +kernel
set_option maxRecDepth 20000 in
theorem ggX9_seenInCycle_X9_rooms : GoodIn wsX9_seenInCycle wsX9_rooms := goodIn_r _ [6, 7, 8, 9, 10, 11, 12, 13, 14, 15, 16, 17, 18, 19, 20, 21, 22, 23, 24, 25, 26, 27, 28, 29, 30, 31, 32, 33, 34, 35, 36, 37, 38, 39, 40, 41, 42] (by decide +kernel) (by decide +kernel)
set_option maxRecDepth 20000 in
theorem gX9_seenInCycle_X9_rooms : GoodIn wsX9_seenInCycle (wsV RX9 110 RX9 yX9_rooms wsX9_rooms) := goodIn_app (goodIn_of _ (by decide +kernel)) ggX9_seenInCycle_X9_rooms
theorem dX9_seenInCycle_0 : decode cX9_seenInCycle 0 = .ok (.iconst 0, 1) := by decide +kernel
theorem dX9_seenInCycle_1 : decode cX9_seenInCycle 1 = .ok (.istore_n 1, 1) := by decide +kernel
theorem dX9_seenInCycle_2 : decode cX9_seenInCycle 2 = .ok (.iconst 0, 1) := by decide +kernel
theorem dX9_seenInCycle_3 : decode cX9_seenInCycle 3 = .ok (.istore_n 2, 1) := by decide +kernel
theorem dX9_seenInCycle_4 : decode cX9_seenInCycle 4 = .ok (.iload_n 2, 1) := by decide +kernel
theorem dX9_seenInCycle_5 : decode cX9_seenInCycle 5 = .ok (.aload_n 0, 1) := by decide +kernel
theorem dX9_seenInCycle_6 : decode cX9_seenInCycle 6 = .ok (.invokevirtual 110, 3) := by decide +kernel
theorem dX9_seenInCycle_9 : decode cX9_seenInCycle 9 = .ok (.if_icmp .ge 18, 3) := by decide +kernel
theorem dX9_seenInCycle_12 : decode cX9_seenInCycle 12 = .ok (.iload_n 1, 1) := by decide +kernel
theorem dX9_seenInCycle_13 : decode cX9_seenInCycle 13 = .ok (.aload_n 0, 1) := by decide +kernel
theorem dX9_seenInCycle_14 : decode cX9_seenInCycle 14 = .ok (.getfield 37, 3) := by decide +kernel
theorem dX9_seenInCycle_17 : decode cX9_seenInCycle 17 = .ok (.iload_n 2, 1) := by decide +kernel
theorem dX9_seenInCycle_18 : decode cX9_seenInCycle 18 = .ok (.iaload, 1) := by decide +kernel
theorem dX9_seenInCycle_19 : decode cX9_seenInCycle 19 = .ok (.iadd, 1) := by decide +kernel
theorem dX9_seenInCycle_20 : decode cX9_seenInCycle 20 = .ok (.istore_n 1, 1) := by decide +kernel
theorem dX9_seenInCycle_21 : decode cX9_seenInCycle 21 = .ok (.iinc 2 1, 3) := by decide +kernel
theorem dX9_seenInCycle_24 : decode cX9_seenInCycle 24 = .ok (.goto (-20), 3) := by decide +kernel
theorem dX9_seenInCycle_27 : decode cX9_seenInCycle 27 = .ok (.iload_n 1, 1) := by decide +kernel
theorem dX9_seenInCycle_28 : decode cX9_seenInCycle 28 = .ok (.ireturn, 1) := by decide +kernel
set_option maxRecDepth 20000 in
theorem ggX9_meet_X9_place : GoodIn wsX9_meet wsX9_place := goodIn_r _ [5, 6, 7, 8, 9, 4, 10, 11, 12, 13, 14, 15, 16, 17, 18, 19, 20, 21, 22, 23, 24, 25, 26, 27, 28, 29, 30, 31, 32, 33, 34, 35, 36, 37, 38, 39, 40, 41, 42, 43, 44, 45, 46, 47, 48, 49, 50, 51, 52, 53] (by decide +kernel) (by decide +kernel)
set_option maxRecDepth 20000 in
theorem gX9_meet_X9_place : GoodIn wsX9_meet (wsV RX9 139 RX9 yX9_place wsX9_place) := goodIn_app (goodIn_of _ (by decide +kernel)) ggX9_meet_X9_place
theorem dX9_meet_0 : decode cX9_meet 0 = .ok (.aload_n 0, 1) := by decide +kernel
theorem dX9_meet_1 : decode cX9_meet 1 = .ok (.iload_n 1, 1) := by decide +kernel
theorem dX9_meet_2 : decode cX9_meet 2 = .ok (.iload_n 3, 1) := by decide +kernel
theorem dX9_meet_3 : decode cX9_meet 3 = .ok (.invokevirtual 139, 3) := by decide +kernel
theorem dX9_meet_6 : decode cX9_meet 6 = .ok (.aload_n 0, 1) := by decide +kernel
theorem dX9_meet_7 : decode cX9_meet 7 = .ok (.iload_n 2, 1) := by decide +kernel
theorem dX9_meet_8 : decode cX9_meet 8 = .ok (.iload_n 3, 1) := by decide +kernel
theorem dX9_meet_9 : decode cX9_meet 9 = .ok (.invokevirtual 139, 3) := by decide +kernel
theorem dX9_meet_12 : decode cX9_meet 12 = .ok (.if_icmp .ne 7, 3) := by decide +kernel
theorem dX9_meet_15 : decode cX9_meet 15 = .ok (.iconst 1, 1) := by decide +kernel
theorem dX9_meet_16 : decode cX9_meet 16 = .ok (.goto 4, 3) := by decide +kernel
theorem dX9_meet_19 : decode cX9_meet 19 = .ok (.iconst 0, 1) := by decide +kernel
theorem dX9_meet_20 : decode cX9_meet 20 = .ok (.ireturn, 1) := by decide +kernel
set_option maxRecDepth 20000 in
theorem ggX9_passBy_X9_place : GoodIn wsX9_passBy wsX9_place := goodIn_r _ [5, 6, 7, 8, 9, 4, 10, 11, 12, 13, 14, 15, 16, 17, 18, 23, 24, 25, 26, 27, 28, 29, 30, 31, 32, 33, 34, 35, 36, 37, 38, 39, 40, 41, 42, 43, 44, 45, 46, 47, 48, 49, 50, 51, 52, 53, 54, 55, 56, 57] (by decide +kernel) (by decide +kernel)
set_option maxRecDepth 20000 in
theorem gX9_passBy_X9_place : GoodIn wsX9_passBy (wsV RX9 139 RX9 yX9_place wsX9_place) := goodIn_app (goodIn_of _ (by decide +kernel)) ggX9_passBy_X9_place
set_option maxRecDepth 20000 in
theorem ggX9_passBy_X9_meet : GoodIn wsX9_passBy wsX9_meet := goodIn_r _ [22, 1, 2, 3, 4, 5, 6, 7, 8, 9, 10, 11, 12, 13, 14, 15, 16, 17, 18, 23, 24, 25, 26, 27, 28, 29, 30, 31, 32, 33, 34, 35, 36, 37, 38, 39, 40, 41, 42, 43, 44, 45, 46, 47, 48, 49, 50, 51, 52, 53, 54, 55, 56, 57] (by decide +kernel) (by decide +kernel)
set_option maxRecDepth 20000 in
theorem gX9_passBy_X9_meet : GoodIn wsX9_passBy (wsV RX9 185 RX9 yX9_meet wsX9_meet) := goodIn_app (goodIn_of _ (by decide +kernel)) ggX9_passBy_X9_meet
theorem dX9_passBy_0 : decode cX9_passBy 0 = .ok (.aload_n 0, 1) := by decide +kernel
theorem dX9_passBy_1 : decode cX9_passBy 1 = .ok (.iload_n 1, 1) := by decide +kernel
theorem dX9_passBy_2 : decode cX9_passBy 2 = .ok (.iload_n 3, 1) := by decide +kernel
theorem dX9_passBy_3 : decode cX9_passBy 3 = .ok (.iconst 1, 1) := by decide +kernel
theorem dX9_passBy_4 : decode cX9_passBy 4 = .ok (.iadd, 1) := by decide +kernel
theorem dX9_passBy_5 : decode cX9_passBy 5 = .ok (.invokevirtual 139, 3) := by decide +kernel
theorem dX9_passBy_8 : decode cX9_passBy 8 = .ok (.aload_n 0, 1) := by decide +kernel
theorem dX9_passBy_9 : decode cX9_passBy 9 = .ok (.iload_n 2, 1) := by decide +kernel
theorem dX9_passBy_10 : decode cX9_passBy 10 = .ok (.iload_n 3, 1) := by decide +kernel
theorem dX9_passBy_11 : decode cX9_passBy 11 = .ok (.invokevirtual 139, 3) := by decide +kernel
theorem dX9_passBy_14 : decode cX9_passBy 14 = .ok (.if_icmp .ne 7, 3) := by decide +kernel
theorem dX9_passBy_17 : decode cX9_passBy 17 = .ok (.iconst 1, 1) := by decide +kernel
theorem dX9_passBy_18 : decode cX9_passBy 18 = .ok (.goto 4, 3) := by decide +kernel
theorem dX9_passBy_21 : decode cX9_passBy 21 = .ok (.iconst 0, 1) := by decide +kernel
theorem dX9_passBy_22 : decode cX9_passBy 22 = .ok (.istore 4, 2) := by decide +kernel
theorem dX9_passBy_24 : decode cX9_passBy 24 = .ok (.aload_n 0, 1) := by decide +kernel
theorem dX9_passBy_25 : decode cX9_passBy 25 = .ok (.iload_n 1, 1) := by decide +kernel
theorem dX9_passBy_26 : decode cX9_passBy 26 = .ok (.iload_n 2, 1) := by decide +kernel
theorem dX9_passBy_27 : decode cX9_passBy 27 = .ok (.iload_n 3, 1) := by decide +kernel
theorem dX9_passBy_28 : decode cX9_passBy 28 = .ok (.invokevirtual 185, 3) := by decide +kernel
theorem dX9_passBy_31 : decode cX9_passBy 31 = .ok (.ifCond .ne 29, 3) := by decide +kernel
theorem dX9_passBy_34 : decode cX9_passBy 34 = .ok (.iload 4, 2) := by decide +kernel
theorem dX9_passBy_36 : decode cX9_passBy 36 = .ok (.ifCond .eq 24, 3) := by decide +kernel
theorem dX9_passBy_39 : decode cX9_passBy 39 = .ok (.aload_n 0, 1) := by decide +kernel
theorem dX9_passBy_40 : decode cX9_passBy 40 = .ok (.iload_n 2, 1) := by decide +kernel
theorem dX9_passBy_41 : decode cX9_passBy 41 = .ok (.iload_n 3, 1) := by decide +kernel
theorem dX9_passBy_42 : decode cX9_passBy 42 = .ok (.iconst 1, 1) := by decide +kernel
theorem dX9_passBy_43 : decode cX9_passBy 43 = .ok (.iadd, 1) := by decide +kernel
theorem dX9_passBy_44 : decode cX9_passBy 44 = .ok (.invokevirtual 139, 3) := by decide +kernel
theorem dX9_passBy_47 : decode cX9_passBy 47 = .ok (.aload_n 0, 1) := by decide +kernel
theorem dX9_passBy_48 : decode cX9_passBy 48 = .ok (.iload_n 1, 1) := by decide +kernel
theorem dX9_passBy_49 : decode cX9_passBy 49 = .ok (.iload_n 3, 1) := by decide +kernel
theorem dX9_passBy_50 : decode cX9_passBy 50 = .ok (.invokevirtual 139, 3) := by decide +kernel
theorem dX9_passBy_53 : decode cX9_passBy 53 = .ok (.if_icmp .ne 7, 3) := by decide +kernel
theorem dX9_passBy_56 : decode cX9_passBy 56 = .ok (.iconst 1, 1) := by decide +kernel
theorem dX9_passBy_57 : decode cX9_passBy 57 = .ok (.goto 4, 3) := by decide +kernel
theorem dX9_passBy_60 : decode cX9_passBy 60 = .ok (.iconst 0, 1) := by decide +kernel
theorem dX9_passBy_61 : decode cX9_passBy 61 = .ok (.ireturn, 1) := by decide +kernel
set_option maxRecDepth 20000 in
theorem ggX9_meetingsOf_X9_meet : GoodIn wsX9_meetingsOf wsX9_meet := goodIn_r _ [6, 7, 8, 9, 5, 10, 11, 12, 13, 14, 15, 16, 17, 18, 19, 20, 21, 22, 23, 24, 25, 26, 27, 28, 29, 30, 31, 32, 33, 34, 35, 36, 37, 38, 39, 40, 41, 42, 43, 44, 45, 46, 47, 48, 49, 50, 51, 52, 53, 54, 55, 56, 57, 58] (by decide +kernel) (by decide +kernel)
set_option maxRecDepth 20000 in
theorem gX9_meetingsOf_X9_meet : GoodIn wsX9_meetingsOf (wsV RX9 185 RX9 yX9_meet wsX9_meet) := goodIn_app (goodIn_of _ (by decide +kernel)) ggX9_meetingsOf_X9_meet
theorem dX9_meetingsOf_0 : decode cX9_meetingsOf 0 = .ok (.iconst 0, 1) := by decide +kernel
theorem dX9_meetingsOf_1 : decode cX9_meetingsOf 1 = .ok (.istore_n 3, 1) := by decide +kernel
theorem dX9_meetingsOf_2 : decode cX9_meetingsOf 2 = .ok (.iconst 0, 1) := by decide +kernel
theorem dX9_meetingsOf_3 : decode cX9_meetingsOf 3 = .ok (.istore 4, 2) := by decide +kernel
theorem dX9_meetingsOf_5 : decode cX9_meetingsOf 5 = .ok (.iload 4, 2) := by decide +kernel
theorem dX9_meetingsOf_7 : decode cX9_meetingsOf 7 = .ok (.aload_n 0, 1) := by decide +kernel
theorem dX9_meetingsOf_8 : decode cX9_meetingsOf 8 = .ok (.getfield 157, 3) := by decide +kernel
theorem dX9_meetingsOf_11 : decode cX9_meetingsOf 11 = .ok (.if_icmp .ge 28, 3) := by decide +kernel
theorem dX9_meetingsOf_14 : decode cX9_meetingsOf 14 = .ok (.iload_n 3, 1) := by decide +kernel
theorem dX9_meetingsOf_15 : decode cX9_meetingsOf 15 = .ok (.aload_n 0, 1) := by decide +kernel
theorem dX9_meetingsOf_16 : decode cX9_meetingsOf 16 = .ok (.iload_n 1, 1) := by decide +kernel
theorem dX9_meetingsOf_17 : decode cX9_meetingsOf 17 = .ok (.iload_n 2, 1) := by decide +kernel
theorem dX9_meetingsOf_18 : decode cX9_meetingsOf 18 = .ok (.iload 4, 2) := by decide +kernel
theorem dX9_meetingsOf_20 : decode cX9_meetingsOf 20 = .ok (.invokevirtual 185, 3) := by decide +kernel
theorem dX9_meetingsOf_23 : decode cX9_meetingsOf 23 = .ok (.ifCond .eq 7, 3) := by decide +kernel
theorem dX9_meetingsOf_26 : decode cX9_meetingsOf 26 = .ok (.iconst 1, 1) := by decide +kernel
theorem dX9_meetingsOf_27 : decode cX9_meetingsOf 27 = .ok (.goto 4, 3) := by decide +kernel
theorem dX9_meetingsOf_30 : decode cX9_meetingsOf 30 = .ok (.iconst 0, 1) := by decide +kernel
theorem dX9_meetingsOf_31 : decode cX9_meetingsOf 31 = .ok (.iadd, 1) := by decide +kernel
theorem dX9_meetingsOf_32 : decode cX9_meetingsOf 32 = .ok (.istore_n 3, 1) := by decide +kernel
theorem dX9_meetingsOf_33 : decode cX9_meetingsOf 33 = .ok (.iinc 4 1, 3) := by decide +kernel
theorem dX9_meetingsOf_36 : decode cX9_meetingsOf 36 = .ok (.goto (-31), 3) := by decide +kernel
theorem dX9_meetingsOf_39 : decode cX9_meetingsOf 39 = .ok (.iload_n 3, 1) := by decide +kernel
theorem dX9_meetingsOf_40 : decode cX9_meetingsOf 40 = .ok (.ireturn, 1) := by decide +kernel
set_option maxRecDepth 20000 in
theorem ggX9_passingsOf_X9_passBy : GoodIn wsX9_passingsOf wsX9_passBy := goodIn_r _ [6, 7, 8, 9, 5, 10, 11, 12, 13, 14, 15, 16, 17, 18, 19, 20, 21, 22, 23, 24, 25, 26, 27, 28, 29, 30, 31, 32, 33, 34, 35, 36, 37, 38, 39, 40, 41, 42, 43, 44, 45, 46, 47, 48, 49, 50, 51, 52, 53, 54, 55, 56, 57, 58, 59, 60, 61, 62] (by decide +kernel) (by decide +kernel)
set_option maxRecDepth 20000 in
theorem gX9_passingsOf_X9_passBy : GoodIn wsX9_passingsOf (wsV RX9 188 RX9 yX9_passBy wsX9_passBy) := goodIn_app (goodIn_of _ (by decide +kernel)) ggX9_passingsOf_X9_passBy
theorem dX9_passingsOf_0 : decode cX9_passingsOf 0 = .ok (.iconst 0, 1) := by decide +kernel
theorem dX9_passingsOf_1 : decode cX9_passingsOf 1 = .ok (.istore_n 3, 1) := by decide +kernel
theorem dX9_passingsOf_2 : decode cX9_passingsOf 2 = .ok (.iconst 0, 1) := by decide +kernel
theorem dX9_passingsOf_3 : decode cX9_passingsOf 3 = .ok (.istore 4, 2) := by decide +kernel
theorem dX9_passingsOf_5 : decode cX9_passingsOf 5 = .ok (.iload 4, 2) := by decide +kernel
theorem dX9_passingsOf_7 : decode cX9_passingsOf 7 = .ok (.aload_n 0, 1) := by decide +kernel
theorem dX9_passingsOf_8 : decode cX9_passingsOf 8 = .ok (.getfield 157, 3) := by decide +kernel
theorem dX9_passingsOf_11 : decode cX9_passingsOf 11 = .ok (.if_icmp .ge 28, 3) := by decide +kernel
theorem dX9_passingsOf_14 : decode cX9_passingsOf 14 = .ok (.iload_n 3, 1) := by decide +kernel
theorem dX9_passingsOf_15 : decode cX9_passingsOf 15 = .ok (.aload_n 0, 1) := by decide +kernel
theorem dX9_passingsOf_16 : decode cX9_passingsOf 16 = .ok (.iload_n 1, 1) := by decide +kernel
theorem dX9_passingsOf_17 : decode cX9_passingsOf 17 = .ok (.iload_n 2, 1) := by decide +kernel
theorem dX9_passingsOf_18 : decode cX9_passingsOf 18 = .ok (.iload 4, 2) := by decide +kernel
theorem dX9_passingsOf_20 : decode cX9_passingsOf 20 = .ok (.invokevirtual 188, 3) := by decide +kernel
theorem dX9_passingsOf_23 : decode cX9_passingsOf 23 = .ok (.ifCond .eq 7, 3) := by decide +kernel
theorem dX9_passingsOf_26 : decode cX9_passingsOf 26 = .ok (.iconst 1, 1) := by decide +kernel
theorem dX9_passingsOf_27 : decode cX9_passingsOf 27 = .ok (.goto 4, 3) := by decide +kernel
theorem dX9_passingsOf_30 : decode cX9_passingsOf 30 = .ok (.iconst 0, 1) := by decide +kernel
theorem dX9_passingsOf_31 : decode cX9_passingsOf 31 = .ok (.iadd, 1) := by decide +kernel
theorem dX9_passingsOf_32 : decode cX9_passingsOf 32 = .ok (.istore_n 3, 1) := by decide +kernel
theorem dX9_passingsOf_33 : decode cX9_passingsOf 33 = .ok (.iinc 4 1, 3) := by decide +kernel
theorem dX9_passingsOf_36 : decode cX9_passingsOf 36 = .ok (.goto (-31), 3) := by decide +kernel
theorem dX9_passingsOf_39 : decode cX9_passingsOf 39 = .ok (.iload_n 3, 1) := by decide +kernel
theorem dX9_passingsOf_40 : decode cX9_passingsOf 40 = .ok (.ireturn, 1) := by decide +kernel
set_option maxRecDepth 20000 in
theorem ggX9_crossingsLaid_X9_guards : GoodIn wsX9_crossingsLaid wsX9_guards := goodIn_r _ [5, 6, 40, 41, 42, 43, 44, 45, 46, 47, 48, 49, 50, 51, 52, 53, 54, 55, 56, 57, 58, 59, 60, 61, 62, 63, 64, 65, 66, 67, 68, 69, 70, 71, 72, 73, 74] (by decide +kernel) (by decide +kernel)
set_option maxRecDepth 20000 in
theorem gX9_crossingsLaid_X9_guards : GoodIn wsX9_crossingsLaid (wsV RX9 118 RX9 yX9_guards wsX9_guards) := goodIn_app (goodIn_of _ (by decide +kernel)) ggX9_crossingsLaid_X9_guards
set_option maxRecDepth 20000 in
theorem ggX9_crossingsLaid_X9_meetingsOf : GoodIn wsX9_crossingsLaid wsX9_meetingsOf := goodIn_r _ [10, 11, 12, 13, 14, 4, 15, 16, 17, 18, 19, 20, 21, 22, 23, 24, 6, 25, 26, 27, 28, 29, 30, 31, 40, 41, 42, 43, 44, 45, 46, 47, 48, 49, 50, 51, 52, 53, 54, 55, 56, 57, 58, 59, 60, 61, 62, 63, 64, 65, 66, 67, 68, 69, 70, 71, 72, 73, 74] (by decide +kernel) (by decide +kernel)
set_option maxRecDepth 20000 in
theorem gX9_crossingsLaid_X9_meetingsOf : GoodIn wsX9_crossingsLaid (wsV RX9 191 RX9 yX9_meetingsOf wsX9_meetingsOf) := goodIn_app (goodIn_of _ (by decide +kernel)) ggX9_crossingsLaid_X9_meetingsOf
set_option maxRecDepth 20000 in
theorem ggX9_crossingsLaid_X9_passingsOf : GoodIn wsX9_crossingsLaid wsX9_passingsOf := goodIn_r _ [35, 11, 36, 37, 38, 4, 39, 16, 17, 18, 19, 20, 21, 22, 23, 24, 6, 25, 26, 27, 28, 29, 30, 31, 12, 13, 14, 15, 40, 41, 42, 43, 44, 45, 46, 47, 48, 49, 50, 51, 52, 53, 54, 55, 56, 57, 58, 59, 60, 61, 62, 63, 64, 65, 66, 67, 68, 69, 70, 71, 72, 73, 74] (by decide +kernel) (by decide +kernel)
set_option maxRecDepth 20000 in
theorem gX9_crossingsLaid_X9_passingsOf : GoodIn wsX9_crossingsLaid (wsV RX9 194 RX9 yX9_passingsOf wsX9_passingsOf) := goodIn_app (goodIn_of _ (by decide +kernel)) ggX9_crossingsLaid_X9_passingsOf
theorem dX9_crossingsLaid_0 : decode cX9_crossingsLaid 0 = .ok (.iconst 0, 1) := by decide +kernel
theorem dX9_crossingsLaid_1 : decode cX9_crossingsLaid 1 = .ok (.istore_n 1, 1) := by decide +kernel
theorem dX9_crossingsLaid_2 : decode cX9_crossingsLaid 2 = .ok (.iconst 0, 1) := by decide +kernel
theorem dX9_crossingsLaid_3 : decode cX9_crossingsLaid 3 = .ok (.istore_n 2, 1) := by decide +kernel
theorem dX9_crossingsLaid_4 : decode cX9_crossingsLaid 4 = .ok (.iload_n 2, 1) := by decide +kernel
theorem dX9_crossingsLaid_5 : decode cX9_crossingsLaid 5 = .ok (.aload_n 0, 1) := by decide +kernel
theorem dX9_crossingsLaid_6 : decode cX9_crossingsLaid 6 = .ok (.invokevirtual 118, 3) := by decide +kernel
theorem dX9_crossingsLaid_9 : decode cX9_crossingsLaid 9 = .ok (.if_icmp .ge 38, 3) := by decide +kernel
theorem dX9_crossingsLaid_12 : decode cX9_crossingsLaid 12 = .ok (.iconst 0, 1) := by decide +kernel
theorem dX9_crossingsLaid_13 : decode cX9_crossingsLaid 13 = .ok (.istore_n 3, 1) := by decide +kernel
theorem dX9_crossingsLaid_14 : decode cX9_crossingsLaid 14 = .ok (.iload_n 3, 1) := by decide +kernel
theorem dX9_crossingsLaid_15 : decode cX9_crossingsLaid 15 = .ok (.iload_n 2, 1) := by decide +kernel
theorem dX9_crossingsLaid_16 : decode cX9_crossingsLaid 16 = .ok (.if_icmp .ge 25, 3) := by decide +kernel
theorem dX9_crossingsLaid_19 : decode cX9_crossingsLaid 19 = .ok (.iload_n 1, 1) := by decide +kernel
theorem dX9_crossingsLaid_20 : decode cX9_crossingsLaid 20 = .ok (.aload_n 0, 1) := by decide +kernel
theorem dX9_crossingsLaid_21 : decode cX9_crossingsLaid 21 = .ok (.iload_n 2, 1) := by decide +kernel
theorem dX9_crossingsLaid_22 : decode cX9_crossingsLaid 22 = .ok (.iload_n 3, 1) := by decide +kernel
theorem dX9_crossingsLaid_23 : decode cX9_crossingsLaid 23 = .ok (.invokevirtual 191, 3) := by decide +kernel
theorem dX9_crossingsLaid_26 : decode cX9_crossingsLaid 26 = .ok (.aload_n 0, 1) := by decide +kernel
theorem dX9_crossingsLaid_27 : decode cX9_crossingsLaid 27 = .ok (.iload_n 2, 1) := by decide +kernel
theorem dX9_crossingsLaid_28 : decode cX9_crossingsLaid 28 = .ok (.iload_n 3, 1) := by decide +kernel
theorem dX9_crossingsLaid_29 : decode cX9_crossingsLaid 29 = .ok (.invokevirtual 194, 3) := by decide +kernel
theorem dX9_crossingsLaid_32 : decode cX9_crossingsLaid 32 = .ok (.iadd, 1) := by decide +kernel
theorem dX9_crossingsLaid_33 : decode cX9_crossingsLaid 33 = .ok (.iadd, 1) := by decide +kernel
theorem dX9_crossingsLaid_34 : decode cX9_crossingsLaid 34 = .ok (.istore_n 1, 1) := by decide +kernel
theorem dX9_crossingsLaid_35 : decode cX9_crossingsLaid 35 = .ok (.iinc 3 1, 3) := by decide +kernel
theorem dX9_crossingsLaid_38 : decode cX9_crossingsLaid 38 = .ok (.goto (-24), 3) := by decide +kernel
theorem dX9_crossingsLaid_41 : decode cX9_crossingsLaid 41 = .ok (.iinc 2 1, 3) := by decide +kernel
theorem dX9_crossingsLaid_44 : decode cX9_crossingsLaid 44 = .ok (.goto (-40), 3) := by decide +kernel
theorem dX9_crossingsLaid_47 : decode cX9_crossingsLaid 47 = .ok (.iload_n 1, 1) := by decide +kernel
theorem dX9_crossingsLaid_48 : decode cX9_crossingsLaid 48 = .ok (.ireturn, 1) := by decide +kernel
set_option maxRecDepth 20000 in
theorem ggX9_nextPhases_X9_guards : GoodIn wsX9_nextPhases wsX9_guards := goodIn_r _ [6, 7, 15, 16, 17, 18, 19, 20, 21, 22, 23, 24, 25, 26, 27, 28, 29, 30, 31, 32, 33, 34, 35, 36, 37, 38, 39, 40, 41, 42, 43, 44, 45, 46, 47, 48, 49] (by decide +kernel) (by decide +kernel)
set_option maxRecDepth 20000 in
theorem gX9_nextPhases_X9_guards : GoodIn wsX9_nextPhases (wsV RX9 118 RX9 yX9_guards wsX9_guards) := goodIn_app (goodIn_of _ (by decide +kernel)) ggX9_nextPhases_X9_guards
set_option maxRecDepth 20000 in
theorem ggX9_nextPhases_X9_period : GoodIn wsX9_nextPhases wsX9_period := goodIn_r _ [11, 7, 12, 13, 5, 14, 15, 16, 17, 18, 19, 20, 21, 22, 23, 24, 25, 26, 27, 28, 29, 30, 31, 32, 33, 34, 35, 36, 37, 38, 39, 40, 41, 42, 43, 44, 45, 46, 47, 48, 49] (by decide +kernel) (by decide +kernel)
set_option maxRecDepth 20000 in
theorem gX9_nextPhases_X9_period : GoodIn wsX9_nextPhases (wsV RX9 126 RX9 yX9_period wsX9_period) := goodIn_app (goodIn_of _ (by decide +kernel)) ggX9_nextPhases_X9_period
theorem dX9_nextPhases_0 : decode cX9_nextPhases 0 = .ok (.aload_n 0, 1) := by decide +kernel
theorem dX9_nextPhases_1 : decode cX9_nextPhases 1 = .ok (.invokevirtual 118, 3) := by decide +kernel
theorem dX9_nextPhases_4 : decode cX9_nextPhases 4 = .ok (.iconst 1, 1) := by decide +kernel
theorem dX9_nextPhases_5 : decode cX9_nextPhases 5 = .ok (.isub, 1) := by decide +kernel
theorem dX9_nextPhases_6 : decode cX9_nextPhases 6 = .ok (.istore_n 1, 1) := by decide +kernel
theorem dX9_nextPhases_7 : decode cX9_nextPhases 7 = .ok (.iload_n 1, 1) := by decide +kernel
theorem dX9_nextPhases_8 : decode cX9_nextPhases 8 = .ok (.ifCond .le 42, 3) := by decide +kernel
theorem dX9_nextPhases_11 : decode cX9_nextPhases 11 = .ok (.aload_n 0, 1) := by decide +kernel
theorem dX9_nextPhases_12 : decode cX9_nextPhases 12 = .ok (.getfield 28, 3) := by decide +kernel
theorem dX9_nextPhases_15 : decode cX9_nextPhases 15 = .ok (.iload_n 1, 1) := by decide +kernel
theorem dX9_nextPhases_16 : decode cX9_nextPhases 16 = .ok (.dup2, 1) := by decide +kernel
theorem dX9_nextPhases_17 : decode cX9_nextPhases 17 = .ok (.iaload, 1) := by decide +kernel
theorem dX9_nextPhases_18 : decode cX9_nextPhases 18 = .ok (.iconst 1, 1) := by decide +kernel
theorem dX9_nextPhases_19 : decode cX9_nextPhases 19 = .ok (.iadd, 1) := by decide +kernel
theorem dX9_nextPhases_20 : decode cX9_nextPhases 20 = .ok (.iastore, 1) := by decide +kernel
theorem dX9_nextPhases_21 : decode cX9_nextPhases 21 = .ok (.aload_n 0, 1) := by decide +kernel
theorem dX9_nextPhases_22 : decode cX9_nextPhases 22 = .ok (.getfield 28, 3) := by decide +kernel
theorem dX9_nextPhases_25 : decode cX9_nextPhases 25 = .ok (.iload_n 1, 1) := by decide +kernel
theorem dX9_nextPhases_26 : decode cX9_nextPhases 26 = .ok (.iaload, 1) := by decide +kernel
theorem dX9_nextPhases_27 : decode cX9_nextPhases 27 = .ok (.aload_n 0, 1) := by decide +kernel
theorem dX9_nextPhases_28 : decode cX9_nextPhases 28 = .ok (.iload_n 1, 1) := by decide +kernel
theorem dX9_nextPhases_29 : decode cX9_nextPhases 29 = .ok (.invokevirtual 126, 3) := by decide +kernel
theorem dX9_nextPhases_32 : decode cX9_nextPhases 32 = .ok (.if_icmp .ge 5, 3) := by decide +kernel
theorem dX9_nextPhases_35 : decode cX9_nextPhases 35 = .ok (.iconst 1, 1) := by decide +kernel
theorem dX9_nextPhases_36 : decode cX9_nextPhases 36 = .ok (.ireturn, 1) := by decide +kernel
theorem dX9_nextPhases_37 : decode cX9_nextPhases 37 = .ok (.aload_n 0, 1) := by decide +kernel
theorem dX9_nextPhases_38 : decode cX9_nextPhases 38 = .ok (.getfield 28, 3) := by decide +kernel
theorem dX9_nextPhases_41 : decode cX9_nextPhases 41 = .ok (.iload_n 1, 1) := by decide +kernel
theorem dX9_nextPhases_42 : decode cX9_nextPhases 42 = .ok (.iconst 0, 1) := by decide +kernel
theorem dX9_nextPhases_43 : decode cX9_nextPhases 43 = .ok (.iastore, 1) := by decide +kernel
theorem dX9_nextPhases_44 : decode cX9_nextPhases 44 = .ok (.iinc 1 (-1), 3) := by decide +kernel
theorem dX9_nextPhases_47 : decode cX9_nextPhases 47 = .ok (.goto (-40), 3) := by decide +kernel
theorem dX9_nextPhases_50 : decode cX9_nextPhases 50 = .ok (.iconst 0, 1) := by decide +kernel
theorem dX9_nextPhases_51 : decode cX9_nextPhases 51 = .ok (.ireturn, 1) := by decide +kernel
set_option maxRecDepth 20000 in
theorem ggX9_judgePhases_X9_layCycle : GoodIn wsX9_judgePhases wsX9_layCycle := goodIn_r _ [9, 10, 11, 12, 13, 14, 15, 16, 17, 18, 8, 19, 20, 21, 22, 23, 24, 25, 26, 27, 28, 29, 30, 31, 32, 33, 34, 35, 36, 37, 38, 39, 40, 41, 42, 43, 44, 45, 46, 4, 47, 48, 49, 50, 51, 52, 53, 54, 55, 56, 57, 58, 59, 60, 61, 62, 63, 64, 65, 66, 67, 92, 93, 94, 95, 96, 97, 98, 99, 100, 101, 102, 103, 104, 105, 106, 107, 108, 109, 110, 111, 112, 113, 114, 115, 116, 117, 118, 119, 120, 121, 122, 123, 124, 125, 126] (by decide +kernel) (by decide +kernel)
set_option maxRecDepth 20000 in
theorem gX9_judgePhases_X9_layCycle : GoodIn wsX9_judgePhases (wsV RX9 175 RX9 yX9_layCycle wsX9_layCycle) := goodIn_app (goodIn_of _ (by decide +kernel)) ggX9_judgePhases_X9_layCycle
set_option maxRecDepth 20000 in
theorem ggX9_judgePhases_X9_worstLaid : GoodIn wsX9_judgePhases wsX9_worstLaid := goodIn_r _ [71, 13, 64, 65, 66, 67, 35, 36, 37, 8, 38, 24, 92, 93, 94, 95, 96, 97, 98, 99, 100, 101, 102, 103, 104, 105, 106, 107, 108, 109, 110, 111, 112, 113, 114, 115, 116, 117, 118, 119, 120, 121, 122, 123, 124, 125, 126] (by decide +kernel) (by decide +kernel)
set_option maxRecDepth 20000 in
theorem gX9_judgePhases_X9_worstLaid : GoodIn wsX9_judgePhases (wsV RX9 197 RX9 yX9_worstLaid wsX9_worstLaid) := goodIn_app (goodIn_of _ (by decide +kernel)) ggX9_judgePhases_X9_worstLaid
set_option maxRecDepth 20000 in
theorem ggX9_judgePhases_X9_crossingsLaid : GoodIn wsX9_judgePhases wsX9_crossingsLaid := goodIn_r _ [75, 20, 21, 22, 8, 23, 24, 76, 77, 78, 79, 10, 80, 81, 82, 83, 43, 44, 45, 46, 4, 25, 26, 27, 28, 29, 30, 31, 47, 48, 49, 50, 84, 85, 86, 87, 88, 89, 90, 91, 92, 93, 94, 95, 96, 97, 98, 99, 100, 101, 102, 103, 104, 105, 106, 107, 108, 109, 110, 111, 112, 113, 114, 115, 116, 117, 118, 119, 120, 121, 122, 123, 124, 125, 126] (by decide +kernel) (by decide +kernel)
set_option maxRecDepth 20000 in
theorem gX9_judgePhases_X9_crossingsLaid : GoodIn wsX9_judgePhases (wsV RX9 203 RX9 yX9_crossingsLaid wsX9_crossingsLaid) := goodIn_app (goodIn_of _ (by decide +kernel)) ggX9_judgePhases_X9_crossingsLaid
set_option maxRecDepth 20000 in
theorem ggX9_judgePhases_X9_guards : GoodIn wsX9_judgePhases wsX9_guards := goodIn_r _ [23, 24, 92, 93, 94, 95, 96, 97, 98, 99, 100, 101, 102, 103, 104, 105, 106, 107, 108, 109, 110, 111, 112, 113, 114, 115, 116, 117, 118, 119, 120, 121, 122, 123, 124, 125, 126] (by decide +kernel) (by decide +kernel)
set_option maxRecDepth 20000 in
theorem gX9_judgePhases_X9_guards : GoodIn wsX9_judgePhases (wsV RX9 118 RX9 yX9_guards wsX9_guards) := goodIn_app (goodIn_of _ (by decide +kernel)) ggX9_judgePhases_X9_guards
theorem dX9_judgePhases_0 : decode cX9_judgePhases 0 = .ok (.aload_n 0, 1) := by decide +kernel
theorem dX9_judgePhases_1 : decode cX9_judgePhases 1 = .ok (.invokevirtual 175, 3) := by decide +kernel
theorem dX9_judgePhases_4 : decode cX9_judgePhases 4 = .ok (.aload_n 0, 1) := by decide +kernel
theorem dX9_judgePhases_5 : decode cX9_judgePhases 5 = .ok (.invokevirtual 197, 3) := by decide +kernel
theorem dX9_judgePhases_8 : decode cX9_judgePhases 8 = .ok (.istore_n 1, 1) := by decide +kernel
theorem dX9_judgePhases_9 : decode cX9_judgePhases 9 = .ok (.aload_n 0, 1) := by decide +kernel
theorem dX9_judgePhases_10 : decode cX9_judgePhases 10 = .ok (.getfield 200, 3) := by decide +kernel
theorem dX9_judgePhases_13 : decode cX9_judgePhases 13 = .ok (.iconst (-1), 1) := by decide +kernel
theorem dX9_judgePhases_14 : decode cX9_judgePhases 14 = .ok (.if_icmp .eq 12, 3) := by decide +kernel
theorem dX9_judgePhases_17 : decode cX9_judgePhases 17 = .ok (.iload_n 1, 1) := by decide +kernel
theorem dX9_judgePhases_18 : decode cX9_judgePhases 18 = .ok (.aload_n 0, 1) := by decide +kernel
theorem dX9_judgePhases_19 : decode cX9_judgePhases 19 = .ok (.getfield 200, 3) := by decide +kernel
theorem dX9_judgePhases_22 : decode cX9_judgePhases 22 = .ok (.if_icmp .le 4, 3) := by decide +kernel
theorem dX9_judgePhases_25 : decode cX9_judgePhases 25 = .ok (.return_, 1) := by decide +kernel
theorem dX9_judgePhases_26 : decode cX9_judgePhases 26 = .ok (.aload_n 0, 1) := by decide +kernel
theorem dX9_judgePhases_27 : decode cX9_judgePhases 27 = .ok (.invokevirtual 203, 3) := by decide +kernel
theorem dX9_judgePhases_30 : decode cX9_judgePhases 30 = .ok (.istore_n 2, 1) := by decide +kernel
theorem dX9_judgePhases_31 : decode cX9_judgePhases 31 = .ok (.aload_n 0, 1) := by decide +kernel
theorem dX9_judgePhases_32 : decode cX9_judgePhases 32 = .ok (.getfield 200, 3) := by decide +kernel
theorem dX9_judgePhases_35 : decode cX9_judgePhases 35 = .ok (.iconst (-1), 1) := by decide +kernel
theorem dX9_judgePhases_36 : decode cX9_judgePhases 36 = .ok (.if_icmp .eq 19, 3) := by decide +kernel
theorem dX9_judgePhases_39 : decode cX9_judgePhases 39 = .ok (.iload_n 1, 1) := by decide +kernel
theorem dX9_judgePhases_40 : decode cX9_judgePhases 40 = .ok (.aload_n 0, 1) := by decide +kernel
theorem dX9_judgePhases_41 : decode cX9_judgePhases 41 = .ok (.getfield 200, 3) := by decide +kernel
theorem dX9_judgePhases_44 : decode cX9_judgePhases 44 = .ok (.if_icmp .lt 11, 3) := by decide +kernel
theorem dX9_judgePhases_47 : decode cX9_judgePhases 47 = .ok (.iload_n 2, 1) := by decide +kernel
theorem dX9_judgePhases_48 : decode cX9_judgePhases 48 = .ok (.aload_n 0, 1) := by decide +kernel
theorem dX9_judgePhases_49 : decode cX9_judgePhases 49 = .ok (.getfield 206, 3) := by decide +kernel
theorem dX9_judgePhases_52 : decode cX9_judgePhases 52 = .ok (.if_icmp .ge 41, 3) := by decide +kernel
theorem dX9_judgePhases_55 : decode cX9_judgePhases 55 = .ok (.aload_n 0, 1) := by decide +kernel
theorem dX9_judgePhases_56 : decode cX9_judgePhases 56 = .ok (.iload_n 1, 1) := by decide +kernel
theorem dX9_judgePhases_57 : decode cX9_judgePhases 57 = .ok (.putfield 200, 3) := by decide +kernel
theorem dX9_judgePhases_60 : decode cX9_judgePhases 60 = .ok (.aload_n 0, 1) := by decide +kernel
theorem dX9_judgePhases_61 : decode cX9_judgePhases 61 = .ok (.iload_n 2, 1) := by decide +kernel
theorem dX9_judgePhases_62 : decode cX9_judgePhases 62 = .ok (.putfield 206, 3) := by decide +kernel
theorem dX9_judgePhases_65 : decode cX9_judgePhases 65 = .ok (.iconst 0, 1) := by decide +kernel
theorem dX9_judgePhases_66 : decode cX9_judgePhases 66 = .ok (.istore_n 3, 1) := by decide +kernel
theorem dX9_judgePhases_67 : decode cX9_judgePhases 67 = .ok (.iload_n 3, 1) := by decide +kernel
theorem dX9_judgePhases_68 : decode cX9_judgePhases 68 = .ok (.aload_n 0, 1) := by decide +kernel
theorem dX9_judgePhases_69 : decode cX9_judgePhases 69 = .ok (.invokevirtual 118, 3) := by decide +kernel
theorem dX9_judgePhases_72 : decode cX9_judgePhases 72 = .ok (.if_icmp .ge 21, 3) := by decide +kernel
theorem dX9_judgePhases_75 : decode cX9_judgePhases 75 = .ok (.aload_n 0, 1) := by decide +kernel
theorem dX9_judgePhases_76 : decode cX9_judgePhases 76 = .ok (.getfield 46, 3) := by decide +kernel
theorem dX9_judgePhases_79 : decode cX9_judgePhases 79 = .ok (.iload_n 3, 1) := by decide +kernel
theorem dX9_judgePhases_80 : decode cX9_judgePhases 80 = .ok (.aload_n 0, 1) := by decide +kernel
theorem dX9_judgePhases_81 : decode cX9_judgePhases 81 = .ok (.getfield 28, 3) := by decide +kernel
theorem dX9_judgePhases_84 : decode cX9_judgePhases 84 = .ok (.iload_n 3, 1) := by decide +kernel
theorem dX9_judgePhases_85 : decode cX9_judgePhases 85 = .ok (.iaload, 1) := by decide +kernel
theorem dX9_judgePhases_86 : decode cX9_judgePhases 86 = .ok (.iastore, 1) := by decide +kernel
theorem dX9_judgePhases_87 : decode cX9_judgePhases 87 = .ok (.iinc 3 1, 3) := by decide +kernel
theorem dX9_judgePhases_90 : decode cX9_judgePhases 90 = .ok (.goto (-23), 3) := by decide +kernel
theorem dX9_judgePhases_93 : decode cX9_judgePhases 93 = .ok (.return_, 1) := by decide +kernel
set_option maxRecDepth 20000 in
theorem ggX9_layBest_X9_guards : GoodIn wsX9_layBest wsX9_guards := goodIn_r _ [7, 8, 100, 101, 102, 103, 104, 105, 106, 107, 108, 109, 110, 111, 112, 113, 114, 115, 116, 117, 118, 119, 120, 121, 122, 123, 124, 125, 126, 127, 128, 129, 130, 131, 132, 133, 134] (by decide +kernel) (by decide +kernel)
set_option maxRecDepth 20000 in
theorem gX9_layBest_X9_guards : GoodIn wsX9_layBest (wsV RX9 118 RX9 yX9_guards wsX9_guards) := goodIn_app (goodIn_of _ (by decide +kernel)) ggX9_layBest_X9_guards
set_option maxRecDepth 20000 in
theorem ggX9_layBest_X9_judgePhases : GoodIn wsX9_layBest wsX9_judgePhases := goodIn_r _ [12, 1, 13, 14, 2, 15, 16, 17, 6, 18, 19, 20, 21, 22, 23, 24, 25, 26, 27, 28, 3, 4, 5, 7, 8, 29, 30, 31, 32, 33, 34, 35, 36, 37, 38, 39, 40, 41, 42, 43, 44, 45, 46, 47, 48, 49, 50, 51, 52, 53, 54, 55, 56, 57, 58, 59, 60, 61, 62, 63, 64, 65, 66, 67, 68, 69, 70, 71, 72, 73, 74, 75, 76, 77, 78, 79, 80, 81, 82, 83, 84, 85, 86, 87, 88, 89, 90, 91, 92, 93, 94, 95, 100, 101, 102, 103, 104, 105, 106, 107, 108, 109, 110, 111, 112, 113, 114, 115, 116, 117, 118, 119, 120, 121, 122, 123, 124, 125, 126, 127, 128, 129, 130, 131, 132, 133, 134] (by decide +kernel) (by decide +kernel)
set_option maxRecDepth 20000 in
theorem gX9_layBest_X9_judgePhases : GoodIn wsX9_layBest (wsV RX9 209 RX9 yX9_judgePhases wsX9_judgePhases) := goodIn_app (goodIn_of _ (by decide +kernel)) ggX9_layBest_X9_judgePhases
set_option maxRecDepth 20000 in
theorem ggX9_layBest_X9_nextPhases : GoodIn wsX9_layBest wsX9_nextPhases := goodIn_r _ [99, 2, 3, 4, 5, 6, 7, 8, 29, 30, 31, 32, 33, 34, 35, 100, 101, 102, 103, 104, 105, 106, 107, 108, 109, 110, 111, 112, 113, 114, 115, 116, 117, 118, 119, 120, 121, 122, 123, 124, 125, 126, 127, 128, 129, 130, 131, 132, 133, 134] (by decide +kernel) (by decide +kernel)
set_option maxRecDepth 20000 in
theorem gX9_layBest_X9_nextPhases : GoodIn wsX9_layBest (wsV RX9 212 RX9 yX9_nextPhases wsX9_nextPhases) := goodIn_app (goodIn_of _ (by decide +kernel)) ggX9_layBest_X9_nextPhases
theorem dX9_layBest_0 : decode cX9_layBest 0 = .ok (.aload_n 0, 1) := by decide +kernel
theorem dX9_layBest_1 : decode cX9_layBest 1 = .ok (.iconst (-1), 1) := by decide +kernel
theorem dX9_layBest_2 : decode cX9_layBest 2 = .ok (.putfield 200, 3) := by decide +kernel
theorem dX9_layBest_5 : decode cX9_layBest 5 = .ok (.iconst 0, 1) := by decide +kernel
theorem dX9_layBest_6 : decode cX9_layBest 6 = .ok (.istore_n 1, 1) := by decide +kernel
theorem dX9_layBest_7 : decode cX9_layBest 7 = .ok (.iload_n 1, 1) := by decide +kernel
theorem dX9_layBest_8 : decode cX9_layBest 8 = .ok (.aload_n 0, 1) := by decide +kernel
theorem dX9_layBest_9 : decode cX9_layBest 9 = .ok (.invokevirtual 118, 3) := by decide +kernel
theorem dX9_layBest_12 : decode cX9_layBest 12 = .ok (.if_icmp .ge 16, 3) := by decide +kernel
theorem dX9_layBest_15 : decode cX9_layBest 15 = .ok (.aload_n 0, 1) := by decide +kernel
theorem dX9_layBest_16 : decode cX9_layBest 16 = .ok (.getfield 28, 3) := by decide +kernel
theorem dX9_layBest_19 : decode cX9_layBest 19 = .ok (.iload_n 1, 1) := by decide +kernel
theorem dX9_layBest_20 : decode cX9_layBest 20 = .ok (.iconst 0, 1) := by decide +kernel
theorem dX9_layBest_21 : decode cX9_layBest 21 = .ok (.iastore, 1) := by decide +kernel
theorem dX9_layBest_22 : decode cX9_layBest 22 = .ok (.iinc 1 1, 3) := by decide +kernel
theorem dX9_layBest_25 : decode cX9_layBest 25 = .ok (.goto (-18), 3) := by decide +kernel
theorem dX9_layBest_28 : decode cX9_layBest 28 = .ok (.aload_n 0, 1) := by decide +kernel
theorem dX9_layBest_29 : decode cX9_layBest 29 = .ok (.invokevirtual 209, 3) := by decide +kernel
theorem dX9_layBest_32 : decode cX9_layBest 32 = .ok (.aload_n 0, 1) := by decide +kernel
theorem dX9_layBest_33 : decode cX9_layBest 33 = .ok (.invokevirtual 212, 3) := by decide +kernel
theorem dX9_layBest_36 : decode cX9_layBest 36 = .ok (.ifCond .eq 10, 3) := by decide +kernel
theorem dX9_layBest_39 : decode cX9_layBest 39 = .ok (.aload_n 0, 1) := by decide +kernel
theorem dX9_layBest_40 : decode cX9_layBest 40 = .ok (.invokevirtual 209, 3) := by decide +kernel
theorem dX9_layBest_43 : decode cX9_layBest 43 = .ok (.goto (-11), 3) := by decide +kernel
theorem dX9_layBest_46 : decode cX9_layBest 46 = .ok (.return_, 1) := by decide +kernel
set_option maxRecDepth 20000 in
theorem ggX9_reachFrom_X9_guards : GoodIn wsX9_reachFrom wsX9_guards := goodIn_r _ [6, 7, 28, 29, 30, 31, 32, 33, 34, 35, 36, 37, 38, 39, 40, 41, 42, 43, 44, 45, 46, 47, 48, 49, 50, 51, 52, 53, 54, 55, 56, 57, 58, 59, 60, 61, 62] (by decide +kernel) (by decide +kernel)
set_option maxRecDepth 20000 in
theorem gX9_reachFrom_X9_guards : GoodIn wsX9_reachFrom (wsV RX9 118 RX9 yX9_guards wsX9_guards) := goodIn_app (goodIn_of _ (by decide +kernel)) ggX9_reachFrom_X9_guards
set_option maxRecDepth 20000 in
theorem ggX9_reachFrom_X9_place : GoodIn wsX9_reachFrom wsX9_place := goodIn_r _ [11, 12, 13, 14, 15, 5, 16, 7, 17, 18, 19, 20, 21, 22, 23, 28, 29, 30, 31, 32, 33, 34, 35, 36, 37, 38, 39, 40, 41, 42, 43, 44, 45, 46, 47, 48, 49, 50, 51, 52, 53, 54, 55, 56, 57, 58, 59, 60, 61, 62] (by decide +kernel) (by decide +kernel)
set_option maxRecDepth 20000 in
theorem gX9_reachFrom_X9_place : GoodIn wsX9_reachFrom (wsV RX9 139 RX9 yX9_place wsX9_place) := goodIn_app (goodIn_of _ (by decide +kernel)) ggX9_reachFrom_X9_place
set_option maxRecDepth 20000 in
theorem ggX9_reachFrom_X9_seenAt : GoodIn wsX9_reachFrom wsX9_seenAt := goodIn_r _ [27, 2, 3, 4, 5, 6, 7, 8, 9, 10, 11, 12, 13, 14, 15, 16, 17, 18, 19, 20, 21, 22, 23, 28, 29, 30, 31, 32, 33, 34, 35, 36, 37, 38, 39, 40, 41, 42, 43, 44, 45, 46, 47, 48, 49, 50, 51, 52, 53, 54, 55, 56, 57, 58, 59, 60, 61, 62] (by decide +kernel) (by decide +kernel)
set_option maxRecDepth 20000 in
theorem gX9_reachFrom_X9_seenAt : GoodIn wsX9_reachFrom (wsV RX9 160 RX9 yX9_seenAt wsX9_seenAt) := goodIn_app (goodIn_of _ (by decide +kernel)) ggX9_reachFrom_X9_seenAt
theorem dX9_reachFrom_0 : decode cX9_reachFrom 0 = .ok (.aload_n 0, 1) := by decide +kernel
theorem dX9_reachFrom_1 : decode cX9_reachFrom 1 = .ok (.getfield 25, 3) := by decide +kernel
theorem dX9_reachFrom_4 : decode cX9_reachFrom 4 = .ok (.iload_n 1, 1) := by decide +kernel
theorem dX9_reachFrom_5 : decode cX9_reachFrom 5 = .ok (.iaload, 1) := by decide +kernel
theorem dX9_reachFrom_6 : decode cX9_reachFrom 6 = .ok (.iconst 1, 1) := by decide +kernel
theorem dX9_reachFrom_7 : decode cX9_reachFrom 7 = .ok (.iload_n 1, 1) := by decide +kernel
theorem dX9_reachFrom_8 : decode cX9_reachFrom 8 = .ok (.ishl, 1) := by decide +kernel
theorem dX9_reachFrom_9 : decode cX9_reachFrom 9 = .ok (.ior, 1) := by decide +kernel
theorem dX9_reachFrom_10 : decode cX9_reachFrom 10 = .ok (.istore_n 3, 1) := by decide +kernel
theorem dX9_reachFrom_11 : decode cX9_reachFrom 11 = .ok (.iconst 0, 1) := by decide +kernel
theorem dX9_reachFrom_12 : decode cX9_reachFrom 12 = .ok (.istore 4, 2) := by decide +kernel
theorem dX9_reachFrom_14 : decode cX9_reachFrom 14 = .ok (.iload 4, 2) := by decide +kernel
theorem dX9_reachFrom_16 : decode cX9_reachFrom 16 = .ok (.aload_n 0, 1) := by decide +kernel
theorem dX9_reachFrom_17 : decode cX9_reachFrom 17 = .ok (.invokevirtual 118, 3) := by decide +kernel
theorem dX9_reachFrom_20 : decode cX9_reachFrom 20 = .ok (.if_icmp .ge 62, 3) := by decide +kernel
theorem dX9_reachFrom_23 : decode cX9_reachFrom 23 = .ok (.aload_n 0, 1) := by decide +kernel
theorem dX9_reachFrom_24 : decode cX9_reachFrom 24 = .ok (.iload 4, 2) := by decide +kernel
theorem dX9_reachFrom_26 : decode cX9_reachFrom 26 = .ok (.iload_n 2, 1) := by decide +kernel
theorem dX9_reachFrom_27 : decode cX9_reachFrom 27 = .ok (.invokevirtual 139, 3) := by decide +kernel
theorem dX9_reachFrom_30 : decode cX9_reachFrom 30 = .ok (.istore 5, 2) := by decide +kernel
theorem dX9_reachFrom_32 : decode cX9_reachFrom 32 = .ok (.iload 5, 2) := by decide +kernel
theorem dX9_reachFrom_34 : decode cX9_reachFrom 34 = .ok (.iload_n 1, 1) := by decide +kernel
theorem dX9_reachFrom_35 : decode cX9_reachFrom 35 = .ok (.if_icmp .eq 20, 3) := by decide +kernel
theorem dX9_reachFrom_38 : decode cX9_reachFrom 38 = .ok (.aload_n 0, 1) := by decide +kernel
theorem dX9_reachFrom_39 : decode cX9_reachFrom 39 = .ok (.iload 4, 2) := by decide +kernel
theorem dX9_reachFrom_41 : decode cX9_reachFrom 41 = .ok (.iload_n 2, 1) := by decide +kernel
theorem dX9_reachFrom_42 : decode cX9_reachFrom 42 = .ok (.iconst 1, 1) := by decide +kernel
theorem dX9_reachFrom_43 : decode cX9_reachFrom 43 = .ok (.iadd, 1) := by decide +kernel
theorem dX9_reachFrom_44 : decode cX9_reachFrom 44 = .ok (.invokevirtual 139, 3) := by decide +kernel
theorem dX9_reachFrom_47 : decode cX9_reachFrom 47 = .ok (.iload_n 1, 1) := by decide +kernel
theorem dX9_reachFrom_48 : decode cX9_reachFrom 48 = .ok (.if_icmp .ne 7, 3) := by decide +kernel
theorem dX9_reachFrom_51 : decode cX9_reachFrom 51 = .ok (.iconst 1, 1) := by decide +kernel
theorem dX9_reachFrom_52 : decode cX9_reachFrom 52 = .ok (.goto 4, 3) := by decide +kernel
theorem dX9_reachFrom_55 : decode cX9_reachFrom 55 = .ok (.iconst 0, 1) := by decide +kernel
theorem dX9_reachFrom_56 : decode cX9_reachFrom 56 = .ok (.istore 6, 2) := by decide +kernel
theorem dX9_reachFrom_58 : decode cX9_reachFrom 58 = .ok (.iload_n 3, 1) := by decide +kernel
theorem dX9_reachFrom_59 : decode cX9_reachFrom 59 = .ok (.iload 6, 2) := by decide +kernel
theorem dX9_reachFrom_61 : decode cX9_reachFrom 61 = .ok (.ifCond .eq 12, 3) := by decide +kernel
theorem dX9_reachFrom_64 : decode cX9_reachFrom 64 = .ok (.iconst 1, 1) := by decide +kernel
theorem dX9_reachFrom_65 : decode cX9_reachFrom 65 = .ok (.iload 5, 2) := by decide +kernel
theorem dX9_reachFrom_67 : decode cX9_reachFrom 67 = .ok (.ishl, 1) := by decide +kernel
theorem dX9_reachFrom_68 : decode cX9_reachFrom 68 = .ok (.iconst (-1), 1) := by decide +kernel
theorem dX9_reachFrom_69 : decode cX9_reachFrom 69 = .ok (.ixor, 1) := by decide +kernel
theorem dX9_reachFrom_70 : decode cX9_reachFrom 70 = .ok (.goto 4, 3) := by decide +kernel
theorem dX9_reachFrom_73 : decode cX9_reachFrom 73 = .ok (.iconst (-1), 1) := by decide +kernel
theorem dX9_reachFrom_74 : decode cX9_reachFrom 74 = .ok (.iand, 1) := by decide +kernel
theorem dX9_reachFrom_75 : decode cX9_reachFrom 75 = .ok (.istore_n 3, 1) := by decide +kernel
theorem dX9_reachFrom_76 : decode cX9_reachFrom 76 = .ok (.iinc 4 1, 3) := by decide +kernel
theorem dX9_reachFrom_79 : decode cX9_reachFrom 79 = .ok (.goto (-65), 3) := by decide +kernel
theorem dX9_reachFrom_82 : decode cX9_reachFrom 82 = .ok (.iload_n 3, 1) := by decide +kernel
theorem dX9_reachFrom_83 : decode cX9_reachFrom 83 = .ok (.aload_n 0, 1) := by decide +kernel
theorem dX9_reachFrom_84 : decode cX9_reachFrom 84 = .ok (.iload_n 2, 1) := by decide +kernel
theorem dX9_reachFrom_85 : decode cX9_reachFrom 85 = .ok (.iconst 1, 1) := by decide +kernel
theorem dX9_reachFrom_86 : decode cX9_reachFrom 86 = .ok (.iadd, 1) := by decide +kernel
theorem dX9_reachFrom_87 : decode cX9_reachFrom 87 = .ok (.invokevirtual 160, 3) := by decide +kernel
theorem dX9_reachFrom_90 : decode cX9_reachFrom 90 = .ok (.iconst (-1), 1) := by decide +kernel
theorem dX9_reachFrom_91 : decode cX9_reachFrom 91 = .ok (.ixor, 1) := by decide +kernel
theorem dX9_reachFrom_92 : decode cX9_reachFrom 92 = .ok (.iand, 1) := by decide +kernel
theorem dX9_reachFrom_93 : decode cX9_reachFrom 93 = .ok (.ireturn, 1) := by decide +kernel
set_option maxRecDepth 20000 in
theorem ggX9_nextRooms_X9_rooms : GoodIn wsX9_nextRooms wsX9_rooms := goodIn_r _ [5, 6, 39, 40, 41, 42, 43, 44, 45, 46, 47, 48, 49, 50, 51, 52, 53, 54, 55, 56, 57, 58, 59, 60, 61, 62, 63, 64, 65, 66, 67, 68, 69, 70, 71, 72, 73] (by decide +kernel) (by decide +kernel)
set_option maxRecDepth 20000 in
theorem gX9_nextRooms_X9_rooms : GoodIn wsX9_nextRooms (wsV RX9 110 RX9 yX9_rooms wsX9_rooms) := goodIn_app (goodIn_of _ (by decide +kernel)) ggX9_nextRooms_X9_rooms
set_option maxRecDepth 20000 in
theorem ggX9_nextRooms_X9_has : GoodIn wsX9_nextRooms wsX9_has := goodIn_r _ [9] (by decide +kernel) (by decide +kernel)
set_option maxRecDepth 20000 in
theorem gX9_nextRooms_X9_has : GoodIn wsX9_nextRooms (va_wsS RX9 216 yX9_has wsX9_has) := goodIn_app (goodIn_of _ (by decide +kernel)) ggX9_nextRooms_X9_has
set_option maxRecDepth 20000 in
theorem ggX9_nextRooms_X9_reachFrom : GoodIn wsX9_nextRooms wsX9_reachFrom := goodIn_r _ [13, 14, 15, 16, 17, 4, 18, 6, 19, 20, 21, 22, 23, 24, 25, 26, 27, 28, 29, 30, 31, 32, 33, 34, 35, 36, 37, 38, 39, 40, 41, 42, 43, 44, 45, 46, 47, 48, 49, 50, 51, 52, 53, 54, 55, 56, 57, 58, 59, 60, 61, 62, 63, 64, 65, 66, 67, 68, 69, 70, 71, 72, 73] (by decide +kernel) (by decide +kernel)
set_option maxRecDepth 20000 in
theorem gX9_nextRooms_X9_reachFrom : GoodIn wsX9_nextRooms (wsV RX9 220 RX9 yX9_reachFrom wsX9_reachFrom) := goodIn_app (goodIn_of _ (by decide +kernel)) ggX9_nextRooms_X9_reachFrom
theorem dX9_nextRooms_0 : decode cX9_nextRooms 0 = .ok (.iconst 0, 1) := by decide +kernel
theorem dX9_nextRooms_1 : decode cX9_nextRooms 1 = .ok (.istore_n 3, 1) := by decide +kernel
theorem dX9_nextRooms_2 : decode cX9_nextRooms 2 = .ok (.iconst 0, 1) := by decide +kernel
theorem dX9_nextRooms_3 : decode cX9_nextRooms 3 = .ok (.istore 4, 2) := by decide +kernel
theorem dX9_nextRooms_5 : decode cX9_nextRooms 5 = .ok (.iload 4, 2) := by decide +kernel
theorem dX9_nextRooms_7 : decode cX9_nextRooms 7 = .ok (.aload_n 0, 1) := by decide +kernel
theorem dX9_nextRooms_8 : decode cX9_nextRooms 8 = .ok (.invokevirtual 110, 3) := by decide +kernel
theorem dX9_nextRooms_11 : decode cX9_nextRooms 11 = .ok (.if_icmp .ge 32, 3) := by decide +kernel
theorem dX9_nextRooms_14 : decode cX9_nextRooms 14 = .ok (.iload_n 3, 1) := by decide +kernel
theorem dX9_nextRooms_15 : decode cX9_nextRooms 15 = .ok (.iload_n 1, 1) := by decide +kernel
theorem dX9_nextRooms_16 : decode cX9_nextRooms 16 = .ok (.iload 4, 2) := by decide +kernel
theorem dX9_nextRooms_18 : decode cX9_nextRooms 18 = .ok (.invokestatic 216, 3) := by decide +kernel
theorem dX9_nextRooms_21 : decode cX9_nextRooms 21 = .ok (.ifCond .eq 13, 3) := by decide +kernel
theorem dX9_nextRooms_24 : decode cX9_nextRooms 24 = .ok (.aload_n 0, 1) := by decide +kernel
theorem dX9_nextRooms_25 : decode cX9_nextRooms 25 = .ok (.iload 4, 2) := by decide +kernel
theorem dX9_nextRooms_27 : decode cX9_nextRooms 27 = .ok (.iload_n 2, 1) := by decide +kernel
theorem dX9_nextRooms_28 : decode cX9_nextRooms 28 = .ok (.invokevirtual 220, 3) := by decide +kernel
theorem dX9_nextRooms_31 : decode cX9_nextRooms 31 = .ok (.goto 4, 3) := by decide +kernel
theorem dX9_nextRooms_34 : decode cX9_nextRooms 34 = .ok (.iconst 0, 1) := by decide +kernel
theorem dX9_nextRooms_35 : decode cX9_nextRooms 35 = .ok (.ior, 1) := by decide +kernel
theorem dX9_nextRooms_36 : decode cX9_nextRooms 36 = .ok (.istore_n 3, 1) := by decide +kernel
theorem dX9_nextRooms_37 : decode cX9_nextRooms 37 = .ok (.iinc 4 1, 3) := by decide +kernel
theorem dX9_nextRooms_40 : decode cX9_nextRooms 40 = .ok (.goto (-35), 3) := by decide +kernel
theorem dX9_nextRooms_43 : decode cX9_nextRooms 43 = .ok (.iload_n 3, 1) := by decide +kernel
theorem dX9_nextRooms_44 : decode cX9_nextRooms 44 = .ok (.ireturn, 1) := by decide +kernel
set_option maxRecDepth 20000 in
theorem ggX9_firstRooms_X9_takePhases : GoodIn wsX9_firstRooms wsX9_takePhases := goodIn_r _ [5, 6, 7, 8, 9, 4, 10, 11, 12, 13, 14, 15, 16, 17, 18, 51, 52, 53, 54, 55, 56, 57, 58, 59, 60, 61, 62, 63, 64, 65, 66, 67, 68, 69, 70, 71, 72, 73, 74, 75, 76, 77, 78, 79, 80, 81, 82, 83, 84, 85] (by decide +kernel) (by decide +kernel)
set_option maxRecDepth 20000 in
theorem gX9_firstRooms_X9_takePhases : GoodIn wsX9_firstRooms (wsV RX9 172 RX9 yX9_takePhases wsX9_takePhases) := goodIn_app (goodIn_of _ (by decide +kernel)) ggX9_firstRooms_X9_takePhases
set_option maxRecDepth 20000 in
theorem ggX9_firstRooms_X9_layJoined : GoodIn wsX9_firstRooms wsX9_layJoined := goodIn_r _ [22, 23, 11, 24, 25, 26, 4, 27, 28, 29, 30, 31, 32, 33, 34, 51, 52, 53, 54, 55, 56, 57, 58, 59, 60, 61, 62, 63, 64, 65, 66, 67, 68, 69, 70, 71, 72, 73, 74, 75, 76, 77, 78, 79, 80, 81, 82, 83, 84, 85] (by decide +kernel) (by decide +kernel)
set_option maxRecDepth 20000 in
theorem gX9_firstRooms_X9_layJoined : GoodIn wsX9_firstRooms (wsV RX9 223 RX9 yX9_layJoined wsX9_layJoined) := goodIn_app (goodIn_of _ (by decide +kernel)) ggX9_firstRooms_X9_layJoined
set_option maxRecDepth 20000 in
theorem ggX9_firstRooms_X9_seenAt : GoodIn wsX9_firstRooms wsX9_seenAt := goodIn_r _ [38, 7, 8, 9, 4, 10, 11, 39, 40, 41, 42, 6, 43, 44, 45, 46, 16, 17, 18, 47, 48, 49, 50, 51, 52, 53, 54, 55, 56, 57, 58, 59, 60, 61, 62, 63, 64, 65, 66, 67, 68, 69, 70, 71, 72, 73, 74, 75, 76, 77, 78, 79, 80, 81, 82, 83, 84, 85] (by decide +kernel) (by decide +kernel)
set_option maxRecDepth 20000 in
theorem gX9_firstRooms_X9_seenAt : GoodIn wsX9_firstRooms (wsV RX9 160 RX9 yX9_seenAt wsX9_seenAt) := goodIn_app (goodIn_of _ (by decide +kernel)) ggX9_firstRooms_X9_seenAt
theorem dX9_firstRooms_0 : decode cX9_firstRooms 0 = .ok (.aload_n 0, 1) := by decide +kernel
theorem dX9_firstRooms_1 : decode cX9_firstRooms 1 = .ok (.invokevirtual 172, 3) := by decide +kernel
theorem dX9_firstRooms_4 : decode cX9_firstRooms 4 = .ok (.aload_n 0, 1) := by decide +kernel
theorem dX9_firstRooms_5 : decode cX9_firstRooms 5 = .ok (.invokevirtual 223, 3) := by decide +kernel
theorem dX9_firstRooms_8 : decode cX9_firstRooms 8 = .ok (.iconst 1, 1) := by decide +kernel
theorem dX9_firstRooms_9 : decode cX9_firstRooms 9 = .ok (.iload_n 1, 1) := by decide +kernel
theorem dX9_firstRooms_10 : decode cX9_firstRooms 10 = .ok (.ishl, 1) := by decide +kernel
theorem dX9_firstRooms_11 : decode cX9_firstRooms 11 = .ok (.aload_n 0, 1) := by decide +kernel
theorem dX9_firstRooms_12 : decode cX9_firstRooms 12 = .ok (.iload_n 2, 1) := by decide +kernel
theorem dX9_firstRooms_13 : decode cX9_firstRooms 13 = .ok (.invokevirtual 160, 3) := by decide +kernel
theorem dX9_firstRooms_16 : decode cX9_firstRooms 16 = .ok (.iconst (-1), 1) := by decide +kernel
theorem dX9_firstRooms_17 : decode cX9_firstRooms 17 = .ok (.ixor, 1) := by decide +kernel
theorem dX9_firstRooms_18 : decode cX9_firstRooms 18 = .ok (.iand, 1) := by decide +kernel
theorem dX9_firstRooms_19 : decode cX9_firstRooms 19 = .ok (.ireturn, 1) := by decide +kernel
set_option maxRecDepth 20000 in
theorem ggX9_sightings_X9_rooms : GoodIn wsX9_sightings wsX9_rooms := goodIn_r _ [5, 6, 14, 15, 16, 17, 18, 19, 20, 21, 22, 23, 24, 25, 26, 27, 28, 29, 30, 31, 32, 33, 34, 35, 36, 37, 38, 39, 40, 41, 42, 43, 44, 45, 46, 47, 48] (by decide +kernel) (by decide +kernel)
set_option maxRecDepth 20000 in
theorem gX9_sightings_X9_rooms : GoodIn wsX9_sightings (wsV RX9 110 RX9 yX9_rooms wsX9_rooms) := goodIn_app (goodIn_of _ (by decide +kernel)) ggX9_sightings_X9_rooms
set_option maxRecDepth 20000 in
theorem ggX9_sightings_X9_ofRoom : GoodIn wsX9_sightings wsX9_ofRoom := goodIn_r _ [10, 6, 11, 12, 4, 13, 14, 15, 16, 17, 18, 19, 20, 21, 22, 23, 24, 25, 26, 27, 28, 29, 30, 31, 32, 33, 34, 35, 36, 37, 38, 39, 40, 41, 42, 43, 44, 45, 46, 47, 48] (by decide +kernel) (by decide +kernel)
set_option maxRecDepth 20000 in
theorem gX9_sightings_X9_ofRoom : GoodIn wsX9_sightings (wsV RX9 178 RX9 yX9_ofRoom wsX9_ofRoom) := goodIn_app (goodIn_of _ (by decide +kernel)) ggX9_sightings_X9_ofRoom
theorem dX9_sightings_0 : decode cX9_sightings 0 = .ok (.iconst 0, 1) := by decide +kernel
theorem dX9_sightings_1 : decode cX9_sightings 1 = .ok (.istore_n 1, 1) := by decide +kernel
theorem dX9_sightings_2 : decode cX9_sightings 2 = .ok (.iconst 0, 1) := by decide +kernel
theorem dX9_sightings_3 : decode cX9_sightings 3 = .ok (.istore_n 2, 1) := by decide +kernel
theorem dX9_sightings_4 : decode cX9_sightings 4 = .ok (.iload_n 2, 1) := by decide +kernel
theorem dX9_sightings_5 : decode cX9_sightings 5 = .ok (.aload_n 0, 1) := by decide +kernel
theorem dX9_sightings_6 : decode cX9_sightings 6 = .ok (.invokevirtual 110, 3) := by decide +kernel
theorem dX9_sightings_9 : decode cX9_sightings 9 = .ok (.if_icmp .ge 18, 3) := by decide +kernel
theorem dX9_sightings_12 : decode cX9_sightings 12 = .ok (.iload_n 1, 1) := by decide +kernel
theorem dX9_sightings_13 : decode cX9_sightings 13 = .ok (.aload_n 0, 1) := by decide +kernel
theorem dX9_sightings_14 : decode cX9_sightings 14 = .ok (.iload_n 2, 1) := by decide +kernel
theorem dX9_sightings_15 : decode cX9_sightings 15 = .ok (.iconst 1, 1) := by decide +kernel
theorem dX9_sightings_16 : decode cX9_sightings 16 = .ok (.invokevirtual 178, 3) := by decide +kernel
theorem dX9_sightings_19 : decode cX9_sightings 19 = .ok (.iadd, 1) := by decide +kernel
theorem dX9_sightings_20 : decode cX9_sightings 20 = .ok (.istore_n 1, 1) := by decide +kernel
theorem dX9_sightings_21 : decode cX9_sightings 21 = .ok (.iinc 2 1, 3) := by decide +kernel
theorem dX9_sightings_24 : decode cX9_sightings 24 = .ok (.goto (-20), 3) := by decide +kernel
theorem dX9_sightings_27 : decode cX9_sightings 27 = .ok (.iload_n 1, 1) := by decide +kernel
theorem dX9_sightings_28 : decode cX9_sightings 28 = .ok (.ireturn, 1) := by decide +kernel
set_option maxRecDepth 20000 in
theorem ggX9_size_X9_layNow : GoodIn wsX9_size wsX9_layNow := goodIn_r _ [8, 9, 10, 11, 7, 12, 13, 14, 15, 16, 17, 18, 19, 20, 21, 22, 23, 24, 25, 26, 27, 28, 29, 3, 30, 31, 32, 33, 34, 35, 36, 37, 38, 39, 40, 41, 42, 43, 44, 45, 46, 47, 48, 49, 50, 51, 52, 53, 54, 55, 56, 57, 58, 59, 60, 61, 62, 63, 64, 65, 66, 67, 68, 69, 70, 71, 72, 73, 74, 75, 76, 77, 78, 137, 138, 139, 140, 141, 142, 143, 144, 145, 146, 147, 148, 149, 150, 151, 152, 153, 154, 155, 156, 157, 158, 159, 160, 161, 162, 163, 164, 165, 166, 167, 168, 169, 170, 171] (by decide +kernel) (by decide +kernel)
set_option maxRecDepth 20000 in
theorem gX9_size_X9_layNow : GoodIn wsX9_size (wsV RX9 226 RX9 yX9_layNow wsX9_layNow) := goodIn_app (goodIn_of _ (by decide +kernel)) ggX9_size_X9_layNow
set_option maxRecDepth 20000 in
theorem ggX9_size_X9_worstLaid : GoodIn wsX9_size wsX9_worstLaid := goodIn_r _ [82, 32, 75, 76, 77, 78, 46, 47, 48, 7, 49, 18, 137, 138, 139, 140, 141, 142, 143, 144, 145, 146, 147, 148, 149, 150, 151, 152, 153, 154, 155, 156, 157, 158, 159, 160, 161, 162, 163, 164, 165, 166, 167, 168, 169, 170, 171] (by decide +kernel) (by decide +kernel)
set_option maxRecDepth 20000 in
theorem gX9_size_X9_worstLaid : GoodIn wsX9_size (wsV RX9 197 RX9 yX9_worstLaid wsX9_worstLaid) := goodIn_app (goodIn_of _ (by decide +kernel)) ggX9_size_X9_worstLaid
set_option maxRecDepth 20000 in
theorem ggX9_size_X9_lateLaid : GoodIn wsX9_size wsX9_lateLaid := goodIn_r _ [86, 46, 47, 48, 7, 49, 18, 87, 88, 89, 90, 32, 91, 92, 93, 94, 95, 96, 97, 137, 138, 139, 140, 141, 142, 143, 144, 145, 146, 147, 148, 149, 150, 151, 152, 153, 154, 155, 156, 157, 158, 159, 160, 161, 162, 163, 164, 165, 166, 167, 168, 169, 170, 171] (by decide +kernel) (by decide +kernel)
set_option maxRecDepth 20000 in
theorem gX9_size_X9_lateLaid : GoodIn wsX9_size (wsV RX9 229 RX9 yX9_lateLaid wsX9_lateLaid) := goodIn_app (goodIn_of _ (by decide +kernel)) ggX9_size_X9_lateLaid
set_option maxRecDepth 20000 in
theorem ggX9_size_X9_crossingsLaid : GoodIn wsX9_size wsX9_crossingsLaid := goodIn_r _ [101, 14, 15, 16, 7, 17, 18, 102, 103, 104, 105, 3, 106, 107, 108, 109, 54, 55, 56, 57, 13, 39, 40, 41, 42, 23, 24, 25, 58, 59, 60, 61, 110, 111, 112, 113, 114, 115, 116, 117, 137, 138, 139, 140, 141, 142, 143, 144, 145, 146, 147, 148, 149, 150, 151, 152, 153, 154, 155, 156, 157, 158, 159, 160, 161, 162, 163, 164, 165, 166, 167, 168, 169, 170, 171] (by decide +kernel) (by decide +kernel)
set_option maxRecDepth 20000 in
theorem gX9_size_X9_crossingsLaid : GoodIn wsX9_size (wsV RX9 203 RX9 yX9_crossingsLaid wsX9_crossingsLaid) := goodIn_app (goodIn_of _ (by decide +kernel)) ggX9_size_X9_crossingsLaid
set_option maxRecDepth 20000 in
theorem ggX9_size_X9_openAt : GoodIn wsX9_size wsX9_openAt := goodIn_r _ [121, 18, 122, 123, 124, 7, 125, 126, 127, 128, 137, 138, 139, 140, 141, 142, 143, 144, 145, 146, 147, 148, 149, 150, 151, 152, 153, 154, 155, 156, 157, 158, 159, 160, 161, 162, 163, 164, 165, 166, 167, 168, 169, 170, 171] (by decide +kernel) (by decide +kernel)
set_option maxRecDepth 20000 in
theorem gX9_size_X9_openAt : GoodIn wsX9_size (wsV RX9 232 RX9 yX9_openAt wsX9_openAt) := goodIn_app (goodIn_of _ (by decide +kernel)) ggX9_size_X9_openAt
set_option maxRecDepth 20000 in
theorem ggX9_size_X9_sightings : GoodIn wsX9_size wsX9_sightings := goodIn_r _ [132, 46, 47, 48, 7, 49, 18, 91, 92, 93, 94, 95, 96, 97, 137, 138, 139, 140, 141, 142, 143, 144, 145, 146, 147, 148, 149, 150, 151, 152, 153, 154, 155, 156, 157, 158, 159, 160, 161, 162, 163, 164, 165, 166, 167, 168, 169, 170, 171] (by decide +kernel) (by decide +kernel)
set_option maxRecDepth 20000 in
theorem gX9_size_X9_sightings : GoodIn wsX9_size (wsV RX9 235 RX9 yX9_sightings wsX9_sightings) := goodIn_app (goodIn_of _ (by decide +kernel)) ggX9_size_X9_sightings
set_option maxRecDepth 20000 in
theorem ggX9_size_X9_raise : GoodIn wsX9_size wsX9_raise := goodIn_r _ [136, 1, 137, 138, 139, 140, 141, 142, 143, 144, 145, 146, 147, 148, 149, 150, 151, 152, 153, 154, 155, 156, 157, 158, 159, 160, 161, 162, 163, 164, 165, 166, 167, 168, 169, 170, 171] (by decide +kernel) (by decide +kernel)
set_option maxRecDepth 20000 in
theorem gX9_size_X9_raise : GoodIn wsX9_size (wsV RX9 237 RX9 yX9_raise wsX9_raise) := goodIn_app (goodIn_of _ (by decide +kernel)) ggX9_size_X9_raise
theorem dX9_size_0 : decode cX9_size 0 = .ok (.aload_n 0, 1) := by decide +kernel
theorem dX9_size_1 : decode cX9_size 1 = .ok (.iconst 0, 1) := by decide +kernel
theorem dX9_size_2 : decode cX9_size 2 = .ok (.putfield 97, 3) := by decide +kernel
theorem dX9_size_5 : decode cX9_size 5 = .ok (.aload_n 0, 1) := by decide +kernel
theorem dX9_size_6 : decode cX9_size 6 = .ok (.invokevirtual 226, 3) := by decide +kernel
theorem dX9_size_9 : decode cX9_size 9 = .ok (.iload_n 1, 1) := by decide +kernel
theorem dX9_size_10 : decode cX9_size 10 = .ok (.tableswitch 99 0 9 #[54, 54, 54, 61, 66, 73, 78, 83, 88, 94], 54) := by decide +kernel
theorem dX9_size_64 : decode cX9_size 64 = .ok (.aload_n 0, 1) := by decide +kernel
theorem dX9_size_65 : decode cX9_size 65 = .ok (.getfield 9, 3) := by decide +kernel
theorem dX9_size_68 : decode cX9_size 68 = .ok (.iload_n 1, 1) := by decide +kernel
theorem dX9_size_69 : decode cX9_size 69 = .ok (.iaload, 1) := by decide +kernel
theorem dX9_size_70 : decode cX9_size 70 = .ok (.ireturn, 1) := by decide +kernel
theorem dX9_size_71 : decode cX9_size 71 = .ok (.aload_n 0, 1) := by decide +kernel
theorem dX9_size_72 : decode cX9_size 72 = .ok (.getfield 157, 3) := by decide +kernel
theorem dX9_size_75 : decode cX9_size 75 = .ok (.ireturn, 1) := by decide +kernel
theorem dX9_size_76 : decode cX9_size 76 = .ok (.aload_n 0, 1) := by decide +kernel
theorem dX9_size_77 : decode cX9_size 77 = .ok (.getfield 9, 3) := by decide +kernel
theorem dX9_size_80 : decode cX9_size 80 = .ok (.iconst 3, 1) := by decide +kernel
theorem dX9_size_81 : decode cX9_size 81 = .ok (.iaload, 1) := by decide +kernel
theorem dX9_size_82 : decode cX9_size 82 = .ok (.ireturn, 1) := by decide +kernel
theorem dX9_size_83 : decode cX9_size 83 = .ok (.aload_n 0, 1) := by decide +kernel
theorem dX9_size_84 : decode cX9_size 84 = .ok (.invokevirtual 197, 3) := by decide +kernel
theorem dX9_size_87 : decode cX9_size 87 = .ok (.ireturn, 1) := by decide +kernel
theorem dX9_size_88 : decode cX9_size 88 = .ok (.aload_n 0, 1) := by decide +kernel
theorem dX9_size_89 : decode cX9_size 89 = .ok (.invokevirtual 229, 3) := by decide +kernel
theorem dX9_size_92 : decode cX9_size 92 = .ok (.ireturn, 1) := by decide +kernel
theorem dX9_size_93 : decode cX9_size 93 = .ok (.aload_n 0, 1) := by decide +kernel
theorem dX9_size_94 : decode cX9_size 94 = .ok (.invokevirtual 203, 3) := by decide +kernel
theorem dX9_size_97 : decode cX9_size 97 = .ok (.ireturn, 1) := by decide +kernel
theorem dX9_size_98 : decode cX9_size 98 = .ok (.aload_n 0, 1) := by decide +kernel
theorem dX9_size_99 : decode cX9_size 99 = .ok (.iconst (-1), 1) := by decide +kernel
theorem dX9_size_100 : decode cX9_size 100 = .ok (.invokevirtual 232, 3) := by decide +kernel
theorem dX9_size_103 : decode cX9_size 103 = .ok (.ireturn, 1) := by decide +kernel
theorem dX9_size_104 : decode cX9_size 104 = .ok (.aload_n 0, 1) := by decide +kernel
theorem dX9_size_105 : decode cX9_size 105 = .ok (.invokevirtual 235, 3) := by decide +kernel
theorem dX9_size_108 : decode cX9_size 108 = .ok (.ireturn, 1) := by decide +kernel
theorem dX9_size_109 : decode cX9_size 109 = .ok (.aload_n 0, 1) := by decide +kernel
theorem dX9_size_110 : decode cX9_size 110 = .ok (.iconst 1, 1) := by decide +kernel
theorem dX9_size_111 : decode cX9_size 111 = .ok (.invokevirtual 237, 3) := by decide +kernel
theorem dX9_size_114 : decode cX9_size 114 = .ok (.ireturn, 1) := by decide +kernel
set_option maxRecDepth 20000 in
theorem ggX9_door_X9_isDoor : GoodIn wsX9_door wsX9_isDoor := goodIn_r _ [6, 7, 8, 9, 5, 10, 45, 46, 47, 48, 49, 50, 51, 52, 53, 54, 55, 56, 57, 58, 59, 60, 61, 62, 63, 64, 65, 66, 67, 68, 69, 70, 71, 72, 73, 74, 75, 76, 77, 78, 79] (by decide +kernel) (by decide +kernel)
set_option maxRecDepth 20000 in
theorem gX9_door_X9_isDoor : GoodIn wsX9_door (wsV RX9 240 RX9 yX9_isDoor wsX9_isDoor) := goodIn_app (goodIn_of _ (by decide +kernel)) ggX9_door_X9_isDoor
set_option maxRecDepth 20000 in
theorem ggX9_door_X9_inRange : GoodIn wsX9_door wsX9_inRange := goodIn_r _ [10] (by decide +kernel) (by decide +kernel)
set_option maxRecDepth 20000 in
theorem gX9_door_X9_inRange : GoodIn wsX9_door (va_wsS RX9 114 yX9_inRange wsX9_inRange) := goodIn_app (goodIn_of _ (by decide +kernel)) ggX9_door_X9_inRange
set_option maxRecDepth 20000 in
theorem ggX9_door_X9_raise : GoodIn wsX9_door wsX9_raise := goodIn_r _ [14, 1, 45, 46, 47, 48, 49, 50, 51, 52, 53, 54, 55, 56, 57, 58, 59, 60, 61, 62, 63, 64, 65, 66, 67, 68, 69, 70, 71, 72, 73, 74, 75, 76, 77, 78, 79] (by decide +kernel) (by decide +kernel)
set_option maxRecDepth 20000 in
theorem gX9_door_X9_raise : GoodIn wsX9_door (wsV RX9 237 RX9 yX9_raise wsX9_raise) := goodIn_app (goodIn_of _ (by decide +kernel)) ggX9_door_X9_raise
set_option maxRecDepth 20000 in
theorem ggX9_door_X9_walksThrough : GoodIn wsX9_door wsX9_walksThrough := goodIn_r _ [18, 19, 20, 21, 5, 22, 7, 23, 24, 25, 26, 27, 28, 29, 30, 31, 32, 33, 34, 35, 36, 37, 38, 39, 40, 41, 42, 43, 44, 45, 46, 47, 48, 49, 50, 51, 52, 53, 54, 55, 56, 57, 58, 59, 60, 61, 62, 63, 64, 65, 66, 67, 68, 69, 70, 71, 72, 73, 74, 75, 76, 77, 78, 79] (by decide +kernel) (by decide +kernel)
set_option maxRecDepth 20000 in
theorem gX9_door_X9_walksThrough : GoodIn wsX9_door (wsV RX9 243 RX9 yX9_walksThrough wsX9_walksThrough) := goodIn_app (goodIn_of _ (by decide +kernel)) ggX9_door_X9_walksThrough
set_option maxRecDepth 20000 in
theorem ggX9_door_X9_ofDoor : GoodIn wsX9_door wsX9_ofDoor := goodIn_r _ [26, 7, 27, 28, 5, 29, 45, 46, 47, 48, 49, 50, 51, 52, 53, 54, 55, 56, 57, 58, 59, 60, 61, 62, 63, 64, 65, 66, 67, 68, 69, 70, 71, 72, 73, 74, 75, 76, 77, 78, 79] (by decide +kernel) (by decide +kernel)
set_option maxRecDepth 20000 in
theorem gX9_door_X9_ofDoor : GoodIn wsX9_door (wsV RX9 120 RX9 yX9_ofDoor wsX9_ofDoor) := goodIn_app (goodIn_of _ (by decide +kernel)) ggX9_door_X9_ofDoor
theorem dX9_door_0 : decode cX9_door 0 = .ok (.aload_n 0, 1) := by decide +kernel
theorem dX9_door_1 : decode cX9_door 1 = .ok (.iconst 0, 1) := by decide +kernel
theorem dX9_door_2 : decode cX9_door 2 = .ok (.putfield 97, 3) := by decide +kernel
theorem dX9_door_5 : decode cX9_door 5 = .ok (.aload_n 0, 1) := by decide +kernel
theorem dX9_door_6 : decode cX9_door 6 = .ok (.iload_n 1, 1) := by decide +kernel
theorem dX9_door_7 : decode cX9_door 7 = .ok (.invokevirtual 240, 3) := by decide +kernel
theorem dX9_door_10 : decode cX9_door 10 = .ok (.ifCond .eq 12, 3) := by decide +kernel
theorem dX9_door_13 : decode cX9_door 13 = .ok (.iload_n 2, 1) := by decide +kernel
theorem dX9_door_14 : decode cX9_door 14 = .ok (.iconst 0, 1) := by decide +kernel
theorem dX9_door_15 : decode cX9_door 15 = .ok (.iconst 3, 1) := by decide +kernel
theorem dX9_door_16 : decode cX9_door 16 = .ok (.invokestatic 114, 3) := by decide +kernel
theorem dX9_door_19 : decode cX9_door 19 = .ok (.ifCond .ne 9, 3) := by decide +kernel
theorem dX9_door_22 : decode cX9_door 22 = .ok (.aload_n 0, 1) := by decide +kernel
theorem dX9_door_23 : decode cX9_door 23 = .ok (.iconst 1, 1) := by decide +kernel
theorem dX9_door_24 : decode cX9_door 24 = .ok (.invokevirtual 237, 3) := by decide +kernel
theorem dX9_door_27 : decode cX9_door 27 = .ok (.ireturn, 1) := by decide +kernel
theorem dX9_door_28 : decode cX9_door 28 = .ok (.iload_n 2, 1) := by decide +kernel
theorem dX9_door_29 : decode cX9_door 29 = .ok (.iconst 3, 1) := by decide +kernel
theorem dX9_door_30 : decode cX9_door 30 = .ok (.if_icmp .ne 11, 3) := by decide +kernel
theorem dX9_door_33 : decode cX9_door 33 = .ok (.aload_n 0, 1) := by decide +kernel
theorem dX9_door_34 : decode cX9_door 34 = .ok (.iload_n 1, 1) := by decide +kernel
theorem dX9_door_35 : decode cX9_door 35 = .ok (.invokevirtual 243, 3) := by decide +kernel
theorem dX9_door_38 : decode cX9_door 38 = .ok (.goto 9, 3) := by decide +kernel
theorem dX9_door_41 : decode cX9_door 41 = .ok (.aload_n 0, 1) := by decide +kernel
theorem dX9_door_42 : decode cX9_door 42 = .ok (.iload_n 1, 1) := by decide +kernel
theorem dX9_door_43 : decode cX9_door 43 = .ok (.iload_n 2, 1) := by decide +kernel
theorem dX9_door_44 : decode cX9_door 44 = .ok (.invokevirtual 120, 3) := by decide +kernel
theorem dX9_door_47 : decode cX9_door 47 = .ok (.ireturn, 1) := by decide +kernel
set_option maxRecDepth 20000 in
theorem ggX9_room_X9_isRoom : GoodIn wsX9_room wsX9_isRoom := goodIn_r _ [8, 9, 10, 11, 7, 12, 13, 14, 15, 16, 100, 101, 102, 103, 104, 105, 106, 107, 108, 109, 110, 111, 112, 113, 114, 115, 116, 117, 118, 119, 120, 121, 122, 123, 124, 125, 126, 127, 128, 129, 130, 131, 132, 133, 134] (by decide +kernel) (by decide +kernel)
set_option maxRecDepth 20000 in
theorem gX9_room_X9_isRoom : GoodIn wsX9_room (wsV RX9 246 RX9 yX9_isRoom wsX9_isRoom) := goodIn_app (goodIn_of _ (by decide +kernel)) ggX9_room_X9_isRoom
set_option maxRecDepth 20000 in
theorem ggX9_room_X9_raise : GoodIn wsX9_room wsX9_raise := goodIn_r _ [20, 1, 100, 101, 102, 103, 104, 105, 106, 107, 108, 109, 110, 111, 112, 113, 114, 115, 116, 117, 118, 119, 120, 121, 122, 123, 124, 125, 126, 127, 128, 129, 130, 131, 132, 133, 134] (by decide +kernel) (by decide +kernel)
set_option maxRecDepth 20000 in
theorem gX9_room_X9_raise : GoodIn wsX9_room (wsV RX9 237 RX9 yX9_raise wsX9_raise) := goodIn_app (goodIn_of _ (by decide +kernel)) ggX9_room_X9_raise
set_option maxRecDepth 20000 in
theorem ggX9_room_X9_layNow : GoodIn wsX9_room wsX9_layNow := goodIn_r _ [24, 25, 26, 27, 7, 28, 29, 30, 31, 32, 33, 13, 34, 35, 36, 37, 38, 39, 40, 41, 42, 43, 44, 45, 46, 3, 2, 47, 48, 49, 50, 51, 52, 53, 54, 55, 56, 57, 58, 59, 9, 10, 11, 12, 60, 61, 62, 63, 64, 65, 66, 67, 68, 69, 70, 71, 72, 73, 74, 75, 76, 77, 78, 79, 80, 81, 82, 83, 84, 85, 86, 87, 88, 100, 101, 102, 103, 104, 105, 106, 107, 108, 109, 110, 111, 112, 113, 114, 115, 116, 117, 118, 119, 120, 121, 122, 123, 124, 125, 126, 127, 128, 129, 130, 131, 132, 133, 134] (by decide +kernel) (by decide +kernel)
set_option maxRecDepth 20000 in
theorem gX9_room_X9_layNow : GoodIn wsX9_room (wsV RX9 226 RX9 yX9_layNow wsX9_layNow) := goodIn_app (goodIn_of _ (by decide +kernel)) ggX9_room_X9_layNow
set_option maxRecDepth 20000 in
theorem ggX9_room_X9_ofRoom : GoodIn wsX9_room wsX9_ofRoom := goodIn_r _ [92, 13, 93, 94, 7, 95, 100, 101, 102, 103, 104, 105, 106, 107, 108, 109, 110, 111, 112, 113, 114, 115, 116, 117, 118, 119, 120, 121, 122, 123, 124, 125, 126, 127, 128, 129, 130, 131, 132, 133, 134] (by decide +kernel) (by decide +kernel)
set_option maxRecDepth 20000 in
theorem gX9_room_X9_ofRoom : GoodIn wsX9_room (wsV RX9 178 RX9 yX9_ofRoom wsX9_ofRoom) := goodIn_app (goodIn_of _ (by decide +kernel)) ggX9_room_X9_ofRoom
set_option maxRecDepth 20000 in
theorem ggX9_room_X9_isLate : GoodIn wsX9_room wsX9_isLate := goodIn_r _ [99, 2, 89, 90, 91, 7, 92, 13, 93, 94, 95, 100, 101, 102, 103, 104, 105, 106, 107, 108, 109, 110, 111, 112, 113, 114, 115, 116, 117, 118, 119, 120, 121, 122, 123, 124, 125, 126, 127, 128, 129, 130, 131, 132, 133, 134] (by decide +kernel) (by decide +kernel)
set_option maxRecDepth 20000 in
theorem gX9_room_X9_isLate : GoodIn wsX9_room (wsV RX9 181 RX9 yX9_isLate wsX9_isLate) := goodIn_app (goodIn_of _ (by decide +kernel)) ggX9_room_X9_isLate
theorem dX9_room_0 : decode cX9_room 0 = .ok (.aload_n 0, 1) := by decide +kernel
theorem dX9_room_1 : decode cX9_room 1 = .ok (.iconst 0, 1) := by decide +kernel
theorem dX9_room_2 : decode cX9_room 2 = .ok (.putfield 97, 3) := by decide +kernel
theorem dX9_room_5 : decode cX9_room 5 = .ok (.aload_n 0, 1) := by decide +kernel
theorem dX9_room_6 : decode cX9_room 6 = .ok (.iload_n 1, 1) := by decide +kernel
theorem dX9_room_7 : decode cX9_room 7 = .ok (.invokevirtual 246, 3) := by decide +kernel
theorem dX9_room_10 : decode cX9_room 10 = .ok (.ifCond .ne 9, 3) := by decide +kernel
theorem dX9_room_13 : decode cX9_room 13 = .ok (.aload_n 0, 1) := by decide +kernel
theorem dX9_room_14 : decode cX9_room 14 = .ok (.iconst 1, 1) := by decide +kernel

set_option maxRecDepth 20000 in
theorem ggX8_roomOf_X8_needNotNegative : GoodIn wsX8_roomOf wsX8_needNotNegative := goodIn_ca (goodIn_r _ [17, 18, 19] (by decide +kernel) (by decide +kernel)) (goodIn_sub (fun _ h => List.mem_cons_of_mem _ (List.mem_append_right _ h)) (by decide +kernel))
set_option maxRecDepth 20000 in
theorem gX8_roomOf_X8_needNotNegative : GoodIn wsX8_roomOf (va_wsS RX8 235 yX8_needNotNegative wsX8_needNotNegative) := goodIn_app (goodIn_of _ (by decide +kernel)) ggX8_roomOf_X8_needNotNegative
set_option maxRecDepth 20000 in
theorem ggX8_roomOf_X2_roomAt : GoodIn wsX8_roomOf wsX2_roomAt := goodIn_r _ [23, 24, 25, 26, 27, 10, 11, 12, 13, 14, 42, 43, 44, 45, 46, 47, 48, 49, 50, 51, 52, 53, 54, 55, 56, 57, 58, 59, 60] (by decide +kernel) (by decide +kernel)
set_option maxRecDepth 20000 in
theorem gX8_roomOf_X2_roomAt : GoodIn wsX8_roomOf (wsV RX8 218 RX2 yX2_roomAt wsX2_roomAt) := goodIn_app (goodIn_of _ (by decide +kernel)) ggX8_roomOf_X2_roomAt
theorem dX8_roomOf_0 : decode cX8_roomOf 0 = .ok (.aload_n 0, 1) := by decide +kernel
theorem dX8_roomOf_1 : decode cX8_roomOf 1 = .ok (.iload_n 1, 1) := by decide +kernel
theorem dX8_roomOf_2 : decode cX8_roomOf 2 = .ok (.invokevirtual 209, 3) := by decide +kernel
theorem dX8_roomOf_5 : decode cX8_roomOf 5 = .ok (.iload_n 2, 1) := by decide +kernel
theorem dX8_roomOf_6 : decode cX8_roomOf 6 = .ok (.invokestatic 235, 3) := by decide +kernel
theorem dX8_roomOf_9 : decode cX8_roomOf 9 = .ok (.aload_n 0, 1) := by decide +kernel
theorem dX8_roomOf_10 : decode cX8_roomOf 10 = .ok (.getfield 10, 3) := by decide +kernel
theorem dX8_roomOf_13 : decode cX8_roomOf 13 = .ok (.iload_n 1, 1) := by decide +kernel
theorem dX8_roomOf_14 : decode cX8_roomOf 14 = .ok (.iload_n 2, 1) := by decide +kernel
theorem dX8_roomOf_15 : decode cX8_roomOf 15 = .ok (.invokevirtual 218, 3) := by decide +kernel
theorem dX8_roomOf_18 : decode cX8_roomOf 18 = .ok (.ireturn, 1) := by decide +kernel
set_option maxRecDepth 20000 in
theorem ggX8_guardsIn_X8_needRoom : GoodIn wsX8_guardsIn wsX8_needRoom := goodIn_ca (goodIn_r _ [6, 7, 8, 1, 9, 10, 11, 12, 13, 14, 36, 37, 38, 39, 40, 41, 42, 43, 44, 45, 46, 47, 48, 49, 50, 51, 52, 53, 54, 55, 56, 57, 58, 59, 60, 61, 62, 63, 64, 65, 66, 67, 68] (by decide +kernel) (by decide +kernel)) (goodIn_sub (fun _ h => List.mem_cons_of_mem _ (List.mem_append_left _ (List.mem_append_right _ h))) (by decide +kernel))
set_option maxRecDepth 20000 in
theorem gX8_guardsIn_X8_needRoom : GoodIn wsX8_guardsIn (wsV RX8 180 RX8 yX8_needRoom wsX8_needRoom) := goodIn_app (goodIn_of _ (by decide +kernel)) ggX8_guardsIn_X8_needRoom
set_option maxRecDepth 20000 in
theorem ggX8_guardsIn_X8_needNotNegative : GoodIn wsX8_guardsIn wsX8_needNotNegative := goodIn_ca (goodIn_r _ [17, 18, 19] (by decide +kernel) (by decide +kernel)) (goodIn_sub (fun _ h => List.mem_cons_of_mem _ (List.mem_append_right _ h)) (by decide +kernel))
set_option maxRecDepth 20000 in
theorem gX8_guardsIn_X8_needNotNegative : GoodIn wsX8_guardsIn (va_wsS RX8 235 yX8_needNotNegative wsX8_needNotNegative) := goodIn_app (goodIn_of _ (by decide +kernel)) ggX8_guardsIn_X8_needNotNegative
set_option maxRecDepth 20000 in
theorem ggX8_guardsIn_X2_guardsAt : GoodIn wsX8_guardsIn wsX2_guardsAt := goodIn_r _ [23, 24, 25, 26, 27, 12, 28, 29, 30, 31, 32, 33, 34, 35, 50, 51, 52, 53, 54, 55, 56, 57, 58, 59, 60, 61, 62, 63, 64, 65, 66, 67, 68] (by decide +kernel) (by decide +kernel)
set_option maxRecDepth 20000 in
theorem gX8_guardsIn_X2_guardsAt : GoodIn wsX8_guardsIn (wsV RX8 238 RX2 yX2_guardsAt wsX2_guardsAt) := goodIn_app (goodIn_of _ (by decide +kernel)) ggX8_guardsIn_X2_guardsAt
theorem dX8_guardsIn_0 : decode cX8_guardsIn 0 = .ok (.aload_n 0, 1) := by decide +kernel
theorem dX8_guardsIn_1 : decode cX8_guardsIn 1 = .ok (.iload_n 1, 1) := by decide +kernel
theorem dX8_guardsIn_2 : decode cX8_guardsIn 2 = .ok (.invokevirtual 180, 3) := by decide +kernel
theorem dX8_guardsIn_5 : decode cX8_guardsIn 5 = .ok (.iload_n 2, 1) := by decide +kernel
theorem dX8_guardsIn_6 : decode cX8_guardsIn 6 = .ok (.invokestatic 235, 3) := by decide +kernel
theorem dX8_guardsIn_9 : decode cX8_guardsIn 9 = .ok (.aload_n 0, 1) := by decide +kernel
theorem dX8_guardsIn_10 : decode cX8_guardsIn 10 = .ok (.getfield 10, 3) := by decide +kernel
theorem dX8_guardsIn_13 : decode cX8_guardsIn 13 = .ok (.iload_n 1, 1) := by decide +kernel
theorem dX8_guardsIn_14 : decode cX8_guardsIn 14 = .ok (.iload_n 2, 1) := by decide +kernel
theorem dX8_guardsIn_15 : decode cX8_guardsIn 15 = .ok (.invokevirtual 238, 3) := by decide +kernel
theorem dX8_guardsIn_18 : decode cX8_guardsIn 18 = .ok (.ireturn, 1) := by decide +kernel
set_option maxRecDepth 20000 in
theorem ggX8_nextSeen_X8_needRoom : GoodIn wsX8_nextSeen wsX8_needRoom := goodIn_ca (goodIn_r _ [7, 8, 9, 2, 10, 11, 12, 13, 14, 15, 43, 44, 45, 46, 47, 48, 49, 50, 51, 52, 53, 54, 55, 56, 57, 58, 59, 60, 61, 62, 63, 64, 65, 66, 67, 68, 69, 70, 71, 72, 73, 74, 75] (by decide +kernel) (by decide +kernel)) (goodIn_sub (fun _ h => List.mem_cons_of_mem _ (List.mem_append_left _ (List.mem_append_right _ h))) (by decide +kernel))
set_option maxRecDepth 20000 in
theorem gX8_nextSeen_X8_needRoom : GoodIn wsX8_nextSeen (wsV RX8 180 RX8 yX8_needRoom wsX8_needRoom) := goodIn_app (goodIn_of _ (by decide +kernel)) ggX8_nextSeen_X8_needRoom
set_option maxRecDepth 20000 in
theorem ggX8_nextSeen_X8_needRange : GoodIn wsX8_nextSeen wsX8_needRange := goodIn_ca (goodIn_r _ [18, 19, 20] (by decide +kernel) (by decide +kernel)) (goodIn_sub (fun _ h => List.mem_cons_of_mem _ (List.mem_append_right _ h)) (by decide +kernel))
set_option maxRecDepth 20000 in
theorem gX8_nextSeen_X8_needRange : GoodIn wsX8_nextSeen (va_wsS RX8 97 yX8_needRange wsX8_needRange) := goodIn_app (goodIn_of _ (by decide +kernel)) ggX8_nextSeen_X8_needRange
set_option maxRecDepth 20000 in
theorem ggX8_nextSeen_X2_cycleLength : GoodIn wsX8_nextSeen wsX2_cycleLength := goodIn_r _ [24, 25, 26, 27, 6, 28, 57, 58, 59, 60, 61, 62, 63, 64, 65, 66, 67, 68, 69, 70, 71, 72, 73, 74, 75] (by decide +kernel) (by decide +kernel)
set_option maxRecDepth 20000 in
theorem gX8_nextSeen_X2_cycleLength : GoodIn wsX8_nextSeen (wsV RX8 128 RX2 yX2_cycleLength wsX2_cycleLength) := goodIn_app (goodIn_of _ (by decide +kernel)) ggX8_nextSeen_X2_cycleLength
set_option maxRecDepth 20000 in
theorem ggX8_nextSeen_X2_guardsAt : GoodIn wsX8_nextSeen wsX2_guardsAt := goodIn_r _ [32, 25, 33, 34, 35, 13, 36, 26, 37, 38, 39, 40, 41, 42, 57, 58, 59, 60, 61, 62, 63, 64, 65, 66, 67, 68, 69, 70, 71, 72, 73, 74, 75] (by decide +kernel) (by decide +kernel)
set_option maxRecDepth 20000 in
theorem gX8_nextSeen_X2_guardsAt : GoodIn wsX8_nextSeen (wsV RX8 238 RX2 yX2_guardsAt wsX2_guardsAt) := goodIn_app (goodIn_of _ (by decide +kernel)) ggX8_nextSeen_X2_guardsAt
theorem dX8_nextSeen_0 : decode cX8_nextSeen 0 = .ok (.aload_n 0, 1) := by decide +kernel
theorem dX8_nextSeen_1 : decode cX8_nextSeen 1 = .ok (.iload_n 1, 1) := by decide +kernel
theorem dX8_nextSeen_2 : decode cX8_nextSeen 2 = .ok (.invokevirtual 180, 3) := by decide +kernel
theorem dX8_nextSeen_5 : decode cX8_nextSeen 5 = .ok (.iload_n 2, 1) := by decide +kernel
theorem dX8_nextSeen_6 : decode cX8_nextSeen 6 = .ok (.iconst 0, 1) := by decide +kernel
theorem dX8_nextSeen_7 : decode cX8_nextSeen 7 = .ok (.ldc 241, 2) := by decide +kernel
theorem dX8_nextSeen_9 : decode cX8_nextSeen 9 = .ok (.invokestatic 97, 3) := by decide +kernel
theorem dX8_nextSeen_12 : decode cX8_nextSeen 12 = .ok (.aload_n 0, 1) := by decide +kernel
theorem dX8_nextSeen_13 : decode cX8_nextSeen 13 = .ok (.getfield 10, 3) := by decide +kernel
theorem dX8_nextSeen_16 : decode cX8_nextSeen 16 = .ok (.invokevirtual 128, 3) := by decide +kernel
theorem dX8_nextSeen_19 : decode cX8_nextSeen 19 = .ok (.istore_n 3, 1) := by decide +kernel
theorem dX8_nextSeen_20 : decode cX8_nextSeen 20 = .ok (.iconst 0, 1) := by decide +kernel
theorem dX8_nextSeen_21 : decode cX8_nextSeen 21 = .ok (.istore 4, 2) := by decide +kernel
theorem dX8_nextSeen_23 : decode cX8_nextSeen 23 = .ok (.iload 4, 2) := by decide +kernel
theorem dX8_nextSeen_25 : decode cX8_nextSeen 25 = .ok (.iload_n 3, 1) := by decide +kernel
theorem dX8_nextSeen_26 : decode cX8_nextSeen 26 = .ok (.if_icmp .ge 29, 3) := by decide +kernel
theorem dX8_nextSeen_29 : decode cX8_nextSeen 29 = .ok (.aload_n 0, 1) := by decide +kernel
theorem dX8_nextSeen_30 : decode cX8_nextSeen 30 = .ok (.getfield 10, 3) := by decide +kernel
theorem dX8_nextSeen_33 : decode cX8_nextSeen 33 = .ok (.iload_n 1, 1) := by decide +kernel
theorem dX8_nextSeen_34 : decode cX8_nextSeen 34 = .ok (.iload_n 2, 1) := by decide +kernel
theorem dX8_nextSeen_35 : decode cX8_nextSeen 35 = .ok (.iload 4, 2) := by decide +kernel
theorem dX8_nextSeen_37 : decode cX8_nextSeen 37 = .ok (.iadd, 1) := by decide +kernel
theorem dX8_nextSeen_38 : decode cX8_nextSeen 38 = .ok (.invokevirtual 238, 3) := by decide +kernel
theorem dX8_nextSeen_41 : decode cX8_nextSeen 41 = .ok (.ifCond .eq 8, 3) := by decide +kernel
theorem dX8_nextSeen_44 : decode cX8_nextSeen 44 = .ok (.iload_n 2, 1) := by decide +kernel
theorem dX8_nextSeen_45 : decode cX8_nextSeen 45 = .ok (.iload 4, 2) := by decide +kernel
theorem dX8_nextSeen_47 : decode cX8_nextSeen 47 = .ok (.iadd, 1) := by decide +kernel
theorem dX8_nextSeen_48 : decode cX8_nextSeen 48 = .ok (.ireturn, 1) := by decide +kernel
theorem dX8_nextSeen_49 : decode cX8_nextSeen 49 = .ok (.iinc 4 1, 3) := by decide +kernel
theorem dX8_nextSeen_52 : decode cX8_nextSeen 52 = .ok (.goto (-29), 3) := by decide +kernel
theorem dX8_nextSeen_55 : decode cX8_nextSeen 55 = .ok (.iconst (-1), 1) := by decide +kernel
theorem dX8_nextSeen_56 : decode cX8_nextSeen 56 = .ok (.ireturn, 1) := by decide +kernel
set_option maxRecDepth 20000 in
theorem ggX8_gapFrom_X8_needRoom : GoodIn wsX8_gapFrom wsX8_needRoom := goodIn_ca (goodIn_r _ [6, 7, 8, 9, 10, 11, 12, 13, 14, 15, 90, 91, 92, 93, 94, 95, 96, 97, 98, 99, 100, 101, 102, 103, 104, 105, 106, 107, 108, 109, 110, 111, 112, 113, 114, 115, 116, 117, 118, 119, 120, 121, 122] (by decide +kernel) (by decide +kernel)) (goodIn_sub (fun _ h => List.mem_cons_of_mem _ (List.mem_append_right _ h)) (by decide +kernel))
set_option maxRecDepth 20000 in
theorem gX8_gapFrom_X8_needRoom : GoodIn wsX8_gapFrom (wsV RX8 180 RX8 yX8_needRoom wsX8_needRoom) := goodIn_app (goodIn_of _ (by decide +kernel)) ggX8_gapFrom_X8_needRoom
set_option maxRecDepth 20000 in
theorem ggX8_gapFrom_X8_measured : GoodIn wsX8_gapFrom wsX8_measured := goodIn_r _ [19, 20, 21, 9, 22, 23, 24, 25, 26, 27, 28, 29, 30, 31, 32, 33, 34, 35, 36, 37, 38, 39, 40, 41, 42, 43, 44, 45, 46, 47, 48, 49, 50, 51, 52, 53, 13, 54, 55, 56, 57, 5, 58, 59, 60, 61, 62, 63, 64, 65, 66, 67, 68, 69, 70, 71, 72, 73, 74, 75, 76, 77, 78, 79, 80, 81, 90, 91, 92, 93, 94, 95, 96, 97, 98, 99, 100, 101, 102, 103, 82, 83, 84, 85, 86, 87, 88, 89, 104, 105, 106, 107, 108, 109, 110, 111, 112, 113, 114, 115, 116, 117, 118, 119, 120, 121, 122] (by decide +kernel) (by decide +kernel)
set_option maxRecDepth 20000 in
theorem gX8_gapFrom_X8_measured : GoodIn wsX8_gapFrom (wsV RX8 135 RX8 yX8_measured wsX8_measured) := goodIn_app (goodIn_of _ (by decide +kernel)) ggX8_gapFrom_X8_measured
theorem dX8_gapFrom_0 : decode cX8_gapFrom 0 = .ok (.aload_n 0, 1) := by decide +kernel
theorem dX8_gapFrom_1 : decode cX8_gapFrom 1 = .ok (.iload_n 1, 1) := by decide +kernel
theorem dX8_gapFrom_2 : decode cX8_gapFrom 2 = .ok (.invokevirtual 180, 3) := by decide +kernel
theorem dX8_gapFrom_5 : decode cX8_gapFrom 5 = .ok (.aload_n 0, 1) := by decide +kernel
theorem dX8_gapFrom_6 : decode cX8_gapFrom 6 = .ok (.invokevirtual 135, 3) := by decide +kernel
theorem dX8_gapFrom_9 : decode cX8_gapFrom 9 = .ok (.getfield 242, 3) := by decide +kernel
theorem dX8_gapFrom_12 : decode cX8_gapFrom 12 = .ok (.iload_n 1, 1) := by decide +kernel
theorem dX8_gapFrom_13 : decode cX8_gapFrom 13 = .ok (.iaload, 1) := by decide +kernel
theorem dX8_gapFrom_14 : decode cX8_gapFrom 14 = .ok (.ireturn, 1) := by decide +kernel
set_option maxRecDepth 20000 in
theorem ggX8_isJoined_X8_needRoom : GoodIn wsX8_isJoined wsX8_needRoom := goodIn_ca (goodIn_r _ [6, 7, 8, 1, 9, 10, 11, 12, 13, 14, 23, 24, 25, 26, 27, 28, 29, 30, 31, 32, 33, 34, 35, 36, 37, 38, 39, 40, 41, 42, 43, 44, 45, 46, 47, 48, 49, 50, 51, 52, 53, 54, 55] (by decide +kernel) (by decide +kernel)) (goodIn_sub (fun _ h => List.mem_cons_of_mem _ (List.mem_append_right _ h)) (by decide +kernel))
set_option maxRecDepth 20000 in
theorem gX8_isJoined_X8_needRoom : GoodIn wsX8_isJoined (wsV RX8 180 RX8 yX8_needRoom wsX8_needRoom) := goodIn_app (goodIn_of _ (by decide +kernel)) ggX8_isJoined_X8_needRoom
set_option maxRecDepth 20000 in
theorem ggX8_isJoined_X2_areJoined : GoodIn wsX8_isJoined wsX2_areJoined := goodIn_r _ [18, 19, 20, 10, 11, 12, 13, 14, 21, 5, 22, 37, 38, 39, 40, 41, 42, 43, 44, 45, 46, 47, 48, 49, 50, 51, 52, 53, 54, 55] (by decide +kernel) (by decide +kernel)
set_option maxRecDepth 20000 in
theorem gX8_isJoined_X2_areJoined : GoodIn wsX8_isJoined (wsV RX8 245 RX2 yX2_areJoined wsX2_areJoined) := goodIn_app (goodIn_of _ (by decide +kernel)) ggX8_isJoined_X2_areJoined
theorem dX8_isJoined_0 : decode cX8_isJoined 0 = .ok (.aload_n 0, 1) := by decide +kernel
theorem dX8_isJoined_1 : decode cX8_isJoined 1 = .ok (.iload_n 1, 1) := by decide +kernel
theorem dX8_isJoined_2 : decode cX8_isJoined 2 = .ok (.invokevirtual 180, 3) := by decide +kernel
theorem dX8_isJoined_5 : decode cX8_isJoined 5 = .ok (.aload_n 0, 1) := by decide +kernel
theorem dX8_isJoined_6 : decode cX8_isJoined 6 = .ok (.iload_n 2, 1) := by decide +kernel
theorem dX8_isJoined_7 : decode cX8_isJoined 7 = .ok (.invokevirtual 180, 3) := by decide +kernel
theorem dX8_isJoined_10 : decode cX8_isJoined 10 = .ok (.aload_n 0, 1) := by decide +kernel
theorem dX8_isJoined_11 : decode cX8_isJoined 11 = .ok (.getfield 10, 3) := by decide +kernel
theorem dX8_isJoined_14 : decode cX8_isJoined 14 = .ok (.iload_n 1, 1) := by decide +kernel
theorem dX8_isJoined_15 : decode cX8_isJoined 15 = .ok (.iload_n 2, 1) := by decide +kernel
theorem dX8_isJoined_16 : decode cX8_isJoined 16 = .ok (.invokevirtual 245, 3) := by decide +kernel
theorem dX8_isJoined_19 : decode cX8_isJoined 19 = .ok (.ireturn, 1) := by decide +kernel
set_option maxRecDepth 20000 in
theorem ggX8_distance_X8_needRoom : GoodIn wsX8_distance wsX8_needRoom := goodIn_ca (goodIn_r _ [6, 7, 8, 1, 9, 10, 11, 12, 13, 14, 22, 23, 24, 25, 26, 27, 28, 29, 30, 31, 32, 33, 34, 35, 36, 37, 38, 39, 40, 41, 42, 43, 44, 45, 46, 47, 48, 49, 50, 51, 52, 53, 54] (by decide +kernel) (by decide +kernel)) (goodIn_sub (fun _ h => List.mem_cons_of_mem _ (List.mem_append_right _ h)) (by decide +kernel))
set_option maxRecDepth 20000 in
theorem gX8_distance_X8_needRoom : GoodIn wsX8_distance (wsV RX8 180 RX8 yX8_needRoom wsX8_needRoom) := goodIn_app (goodIn_of _ (by decide +kernel)) ggX8_distance_X8_needRoom
set_option maxRecDepth 20000 in
theorem ggX8_distance_X2_doorsBetween : GoodIn wsX8_distance wsX2_doorsBetween := goodIn_r _ [18, 14, 19, 20, 5, 21, 36, 37, 38, 39, 40, 41, 42, 43, 44, 45, 46, 47, 48, 49, 50, 51, 52, 53, 54] (by decide +kernel) (by decide +kernel)
set_option maxRecDepth 20000 in
theorem gX8_distance_X2_doorsBetween : GoodIn wsX8_distance (wsV RX8 249 RX2 yX2_doorsBetween wsX2_doorsBetween) := goodIn_app (goodIn_of _ (by decide +kernel)) ggX8_distance_X2_doorsBetween
theorem dX8_distance_0 : decode cX8_distance 0 = .ok (.aload_n 0, 1) := by decide +kernel
theorem dX8_distance_1 : decode cX8_distance 1 = .ok (.iload_n 1, 1) := by decide +kernel
theorem dX8_distance_2 : decode cX8_distance 2 = .ok (.invokevirtual 180, 3) := by decide +kernel
theorem dX8_distance_5 : decode cX8_distance 5 = .ok (.aload_n 0, 1) := by decide +kernel
theorem dX8_distance_6 : decode cX8_distance 6 = .ok (.iload_n 2, 1) := by decide +kernel
theorem dX8_distance_7 : decode cX8_distance 7 = .ok (.invokevirtual 180, 3) := by decide +kernel
theorem dX8_distance_10 : decode cX8_distance 10 = .ok (.aload_n 0, 1) := by decide +kernel
theorem dX8_distance_11 : decode cX8_distance 11 = .ok (.getfield 10, 3) := by decide +kernel
theorem dX8_distance_14 : decode cX8_distance 14 = .ok (.iload_n 1, 1) := by decide +kernel
theorem dX8_distance_15 : decode cX8_distance 15 = .ok (.iload_n 2, 1) := by decide +kernel
theorem dX8_distance_16 : decode cX8_distance 16 = .ok (.invokevirtual 249, 3) := by decide +kernel
theorem dX8_distance_19 : decode cX8_distance 19 = .ok (.ireturn, 1) := by decide +kernel
set_option maxRecDepth 20000 in
theorem ggX8_meetings_X8_needGuard : GoodIn wsX8_meetings wsX8_needGuard := goodIn_ca (goodIn_r _ [6, 7, 8, 1, 9, 10, 11, 12, 13, 14, 33, 34, 35, 36, 37, 38, 39, 40, 41, 42, 43, 44, 45, 46, 47, 48, 49, 50, 51, 52, 53, 54, 55, 56, 57, 58, 59, 60, 61, 62, 63, 64, 65] (by decide +kernel) (by decide +kernel)) (goodIn_sub (fun _ h => List.mem_cons_of_mem _ (List.mem_append_right _ h)) (by decide +kernel))
set_option maxRecDepth 20000 in
theorem gX8_meetings_X8_needGuard : GoodIn wsX8_meetings (wsV RX8 209 RX8 yX8_needGuard wsX8_needGuard) := goodIn_app (goodIn_of _ (by decide +kernel)) ggX8_meetings_X8_needGuard
set_option maxRecDepth 20000 in
theorem ggX8_meetings_X2_countPair : GoodIn wsX8_meetings wsX2_countPair := goodIn_r _ [18, 19, 20, 21, 12, 22, 14, 23, 24, 5, 25, 26, 27, 28, 29, 30, 31, 32, 10, 11, 13, 47, 48, 49, 50, 51, 52, 53, 54, 55, 56, 57, 58, 59, 60, 61, 62, 63, 64, 65] (by decide +kernel) (by decide +kernel)
set_option maxRecDepth 20000 in
theorem gX8_meetings_X2_countPair : GoodIn wsX8_meetings (wsV RX8 252 RX2 yX2_countPair wsX2_countPair) := goodIn_app (goodIn_of _ (by decide +kernel)) ggX8_meetings_X2_countPair
theorem dX8_meetings_0 : decode cX8_meetings 0 = .ok (.aload_n 0, 1) := by decide +kernel
theorem dX8_meetings_1 : decode cX8_meetings 1 = .ok (.iload_n 1, 1) := by decide +kernel
theorem dX8_meetings_2 : decode cX8_meetings 2 = .ok (.invokevirtual 209, 3) := by decide +kernel
theorem dX8_meetings_5 : decode cX8_meetings 5 = .ok (.aload_n 0, 1) := by decide +kernel
theorem dX8_meetings_6 : decode cX8_meetings 6 = .ok (.iload_n 2, 1) := by decide +kernel
theorem dX8_meetings_7 : decode cX8_meetings 7 = .ok (.invokevirtual 209, 3) := by decide +kernel
theorem dX8_meetings_10 : decode cX8_meetings 10 = .ok (.aload_n 0, 1) := by decide +kernel
theorem dX8_meetings_11 : decode cX8_meetings 11 = .ok (.getfield 10, 3) := by decide +kernel
theorem dX8_meetings_14 : decode cX8_meetings 14 = .ok (.iload_n 1, 1) := by decide +kernel
theorem dX8_meetings_15 : decode cX8_meetings 15 = .ok (.iload_n 2, 1) := by decide +kernel
theorem dX8_meetings_16 : decode cX8_meetings 16 = .ok (.iconst 1, 1) := by decide +kernel
theorem dX8_meetings_17 : decode cX8_meetings 17 = .ok (.iconst 0, 1) := by decide +kernel
theorem dX8_meetings_18 : decode cX8_meetings 18 = .ok (.invokevirtual 252, 3) := by decide +kernel
theorem dX8_meetings_21 : decode cX8_meetings 21 = .ok (.ireturn, 1) := by decide +kernel
set_option maxRecDepth 20000 in
theorem ggX8_passings_X8_needGuard : GoodIn wsX8_passings wsX8_needGuard := goodIn_ca (goodIn_r _ [6, 7, 8, 1, 9, 10, 11, 12, 13, 14, 33, 34, 35, 36, 37, 38, 39, 40, 41, 42, 43, 44, 45, 46, 47, 48, 49, 50, 51, 52, 53, 54, 55, 56, 57, 58, 59, 60, 61, 62, 63, 64, 65] (by decide +kernel) (by decide +kernel)) (goodIn_sub (fun _ h => List.mem_cons_of_mem _ (List.mem_append_right _ h)) (by decide +kernel))
set_option maxRecDepth 20000 in
theorem gX8_passings_X8_needGuard : GoodIn wsX8_passings (wsV RX8 209 RX8 yX8_needGuard wsX8_needGuard) := goodIn_app (goodIn_of _ (by decide +kernel)) ggX8_passings_X8_needGuard
set_option maxRecDepth 20000 in
theorem ggX8_passings_X2_countPair : GoodIn wsX8_passings wsX2_countPair := goodIn_r _ [18, 19, 20, 21, 12, 22, 14, 23, 24, 5, 25, 26, 27, 28, 29, 30, 31, 32, 10, 11, 13, 47, 48, 49, 50, 51, 52, 53, 54, 55, 56, 57, 58, 59, 60, 61, 62, 63, 64, 65] (by decide +kernel) (by decide +kernel)
set_option maxRecDepth 20000 in
theorem gX8_passings_X2_countPair : GoodIn wsX8_passings (wsV RX8 252 RX2 yX2_countPair wsX2_countPair) := goodIn_app (goodIn_of _ (by decide +kernel)) ggX8_passings_X2_countPair
theorem dX8_passings_0 : decode cX8_passings 0 = .ok (.aload_n 0, 1) := by decide +kernel
theorem dX8_passings_1 : decode cX8_passings 1 = .ok (.iload_n 1, 1) := by decide +kernel
theorem dX8_passings_2 : decode cX8_passings 2 = .ok (.invokevirtual 209, 3) := by decide +kernel
theorem dX8_passings_5 : decode cX8_passings 5 = .ok (.aload_n 0, 1) := by decide +kernel
theorem dX8_passings_6 : decode cX8_passings 6 = .ok (.iload_n 2, 1) := by decide +kernel
theorem dX8_passings_7 : decode cX8_passings 7 = .ok (.invokevirtual 209, 3) := by decide +kernel
theorem dX8_passings_10 : decode cX8_passings 10 = .ok (.aload_n 0, 1) := by decide +kernel
theorem dX8_passings_11 : decode cX8_passings 11 = .ok (.getfield 10, 3) := by decide +kernel
theorem dX8_passings_14 : decode cX8_passings 14 = .ok (.iload_n 1, 1) := by decide +kernel
theorem dX8_passings_15 : decode cX8_passings 15 = .ok (.iload_n 2, 1) := by decide +kernel
theorem dX8_passings_16 : decode cX8_passings 16 = .ok (.iconst 0, 1) := by decide +kernel
theorem dX8_passings_17 : decode cX8_passings 17 = .ok (.iconst 1, 1) := by decide +kernel
theorem dX8_passings_18 : decode cX8_passings 18 = .ok (.invokevirtual 252, 3) := by decide +kernel
theorem dX8_passings_21 : decode cX8_passings 21 = .ok (.ireturn, 1) := by decide +kernel
set_option maxRecDepth 20000 in
theorem ggX8_nextMeeting_X8_needGuard : GoodIn wsX8_nextMeeting wsX8_needGuard := goodIn_ca (goodIn_r _ [7, 8, 9, 2, 10, 11, 12, 13, 14, 15, 35, 36, 37, 38, 39, 40, 41, 42, 43, 44, 45, 46, 47, 48, 49, 50, 51, 52, 53, 54, 55, 56, 57, 58, 59, 60, 61, 62, 63, 64, 65, 66, 67] (by decide +kernel) (by decide +kernel)) (goodIn_sub (fun _ h => List.mem_cons_of_mem _ (List.mem_append_left _ (List.mem_append_right _ h))) (by decide +kernel))
set_option maxRecDepth 20000 in
theorem gX8_nextMeeting_X8_needGuard : GoodIn wsX8_nextMeeting (wsV RX8 209 RX8 yX8_needGuard wsX8_needGuard) := goodIn_app (goodIn_of _ (by decide +kernel)) ggX8_nextMeeting_X8_needGuard
set_option maxRecDepth 20000 in
theorem ggX8_nextMeeting_X8_needRange : GoodIn wsX8_nextMeeting wsX8_needRange := goodIn_ca (goodIn_r _ [18, 19, 20] (by decide +kernel) (by decide +kernel)) (goodIn_sub (fun _ h => List.mem_cons_of_mem _ (List.mem_append_right _ h)) (by decide +kernel))
set_option maxRecDepth 20000 in
theorem gX8_nextMeeting_X8_needRange : GoodIn wsX8_nextMeeting (va_wsS RX8 97 yX8_needRange wsX8_needRange) := goodIn_app (goodIn_of _ (by decide +kernel)) ggX8_nextMeeting_X8_needRange
set_option maxRecDepth 20000 in
theorem ggX8_nextMeeting_X2_cycleLength : GoodIn wsX8_nextMeeting wsX2_cycleLength := goodIn_r _ [24, 15, 25, 26, 6, 27, 49, 50, 51, 52, 53, 54, 55, 56, 57, 58, 59, 60, 61, 62, 63, 64, 65, 66, 67] (by decide +kernel) (by decide +kernel)
set_option maxRecDepth 20000 in
theorem gX8_nextMeeting_X2_cycleLength : GoodIn wsX8_nextMeeting (wsV RX8 128 RX2 yX2_cycleLength wsX2_cycleLength) := goodIn_app (goodIn_of _ (by decide +kernel)) ggX8_nextMeeting_X2_cycleLength
set_option maxRecDepth 20000 in
theorem ggX8_nextMeeting_X2_roomAt : GoodIn wsX8_nextMeeting wsX2_roomAt := goodIn_r _ [31, 25, 32, 33, 34, 11, 12, 13, 14, 15, 49, 50, 51, 52, 53, 54, 55, 56, 57, 58, 59, 60, 61, 62, 63, 64, 65, 66, 67] (by decide +kernel) (by decide +kernel)
set_option maxRecDepth 20000 in
theorem gX8_nextMeeting_X2_roomAt : GoodIn wsX8_nextMeeting (wsV RX8 218 RX2 yX2_roomAt wsX2_roomAt) := goodIn_app (goodIn_of _ (by decide +kernel)) ggX8_nextMeeting_X2_roomAt
theorem dX8_nextMeeting_0 : decode cX8_nextMeeting 0 = .ok (.aload_n 0, 1) := by decide +kernel
theorem dX8_nextMeeting_1 : decode cX8_nextMeeting 1 = .ok (.iload_n 1, 1) := by decide +kernel
theorem dX8_nextMeeting_2 : decode cX8_nextMeeting 2 = .ok (.invokevirtual 209, 3) := by decide +kernel
theorem dX8_nextMeeting_5 : decode cX8_nextMeeting 5 = .ok (.aload_n 0, 1) := by decide +kernel
theorem dX8_nextMeeting_6 : decode cX8_nextMeeting 6 = .ok (.iload_n 2, 1) := by decide +kernel
theorem dX8_nextMeeting_7 : decode cX8_nextMeeting 7 = .ok (.invokevirtual 209, 3) := by decide +kernel
theorem dX8_nextMeeting_10 : decode cX8_nextMeeting 10 = .ok (.iload_n 3, 1) := by decide +kernel
theorem dX8_nextMeeting_11 : decode cX8_nextMeeting 11 = .ok (.iconst 0, 1) := by decide +kernel
theorem dX8_nextMeeting_12 : decode cX8_nextMeeting 12 = .ok (.ldc 241, 2) := by decide +kernel
theorem dX8_nextMeeting_14 : decode cX8_nextMeeting 14 = .ok (.invokestatic 97, 3) := by decide +kernel
theorem dX8_nextMeeting_17 : decode cX8_nextMeeting 17 = .ok (.iload_n 1, 1) := by decide +kernel
theorem dX8_nextMeeting_18 : decode cX8_nextMeeting 18 = .ok (.iload_n 2, 1) := by decide +kernel
theorem dX8_nextMeeting_19 : decode cX8_nextMeeting 19 = .ok (.if_icmp .ne 5, 3) := by decide +kernel
theorem dX8_nextMeeting_22 : decode cX8_nextMeeting 22 = .ok (.iconst (-1), 1) := by decide +kernel
theorem dX8_nextMeeting_23 : decode cX8_nextMeeting 23 = .ok (.ireturn, 1) := by decide +kernel
theorem dX8_nextMeeting_24 : decode cX8_nextMeeting 24 = .ok (.aload_n 0, 1) := by decide +kernel
theorem dX8_nextMeeting_25 : decode cX8_nextMeeting 25 = .ok (.getfield 10, 3) := by decide +kernel
theorem dX8_nextMeeting_28 : decode cX8_nextMeeting 28 = .ok (.invokevirtual 128, 3) := by decide +kernel
theorem dX8_nextMeeting_31 : decode cX8_nextMeeting 31 = .ok (.istore 4, 2) := by decide +kernel
theorem dX8_nextMeeting_33 : decode cX8_nextMeeting 33 = .ok (.iconst 0, 1) := by decide +kernel
theorem dX8_nextMeeting_34 : decode cX8_nextMeeting 34 = .ok (.istore 5, 2) := by decide +kernel
theorem dX8_nextMeeting_36 : decode cX8_nextMeeting 36 = .ok (.iload 5, 2) := by decide +kernel
theorem dX8_nextMeeting_38 : decode cX8_nextMeeting 38 = .ok (.iload 4, 2) := by decide +kernel
theorem dX8_nextMeeting_40 : decode cX8_nextMeeting 40 = .ok (.if_icmp .ge 41, 3) := by decide +kernel
theorem dX8_nextMeeting_43 : decode cX8_nextMeeting 43 = .ok (.aload_n 0, 1) := by decide +kernel
theorem dX8_nextMeeting_44 : decode cX8_nextMeeting 44 = .ok (.getfield 10, 3) := by decide +kernel
theorem dX8_nextMeeting_47 : decode cX8_nextMeeting 47 = .ok (.iload_n 1, 1) := by decide +kernel
theorem dX8_nextMeeting_48 : decode cX8_nextMeeting 48 = .ok (.iload_n 3, 1) := by decide +kernel
theorem dX8_nextMeeting_49 : decode cX8_nextMeeting 49 = .ok (.iload 5, 2) := by decide +kernel
theorem dX8_nextMeeting_51 : decode cX8_nextMeeting 51 = .ok (.iadd, 1) := by decide +kernel
theorem dX8_nextMeeting_52 : decode cX8_nextMeeting 52 = .ok (.invokevirtual 218, 3) := by decide +kernel
theorem dX8_nextMeeting_55 : decode cX8_nextMeeting 55 = .ok (.aload_n 0, 1) := by decide +kernel
theorem dX8_nextMeeting_56 : decode cX8_nextMeeting 56 = .ok (.getfield 10, 3) := by decide +kernel
theorem dX8_nextMeeting_59 : decode cX8_nextMeeting 59 = .ok (.iload_n 2, 1) := by decide +kernel
theorem dX8_nextMeeting_60 : decode cX8_nextMeeting 60 = .ok (.iload_n 3, 1) := by decide +kernel
theorem dX8_nextMeeting_61 : decode cX8_nextMeeting 61 = .ok (.iload 5, 2) := by decide +kernel
theorem dX8_nextMeeting_63 : decode cX8_nextMeeting 63 = .ok (.iadd, 1) := by decide +kernel
theorem dX8_nextMeeting_64 : decode cX8_nextMeeting 64 = .ok (.invokevirtual 218, 3) := by decide +kernel
theorem dX8_nextMeeting_67 : decode cX8_nextMeeting 67 = .ok (.if_icmp .ne 8, 3) := by decide +kernel
theorem dX8_nextMeeting_70 : decode cX8_nextMeeting 70 = .ok (.iload_n 3, 1) := by decide +kernel
theorem dX8_nextMeeting_71 : decode cX8_nextMeeting 71 = .ok (.iload 5, 2) := by decide +kernel
theorem dX8_nextMeeting_73 : decode cX8_nextMeeting 73 = .ok (.iadd, 1) := by decide +kernel
theorem dX8_nextMeeting_74 : decode cX8_nextMeeting 74 = .ok (.ireturn, 1) := by decide +kernel
theorem dX8_nextMeeting_75 : decode cX8_nextMeeting 75 = .ok (.iinc 5 1, 3) := by decide +kernel
theorem dX8_nextMeeting_78 : decode cX8_nextMeeting 78 = .ok (.goto (-42), 3) := by decide +kernel
theorem dX8_nextMeeting_81 : decode cX8_nextMeeting 81 = .ok (.iconst (-1), 1) := by decide +kernel
theorem dX8_nextMeeting_82 : decode cX8_nextMeeting 82 = .ok (.ireturn, 1) := by decide +kernel
set_option maxRecDepth 20000 in
theorem ggX8_worstWith_X8_needGuard : GoodIn wsX8_worstWith wsX8_needGuard := goodIn_ca (goodIn_r _ [11, 12, 13, 1, 14, 15, 16, 17, 18, 19, 101, 102, 103, 104, 105, 106, 107, 108, 109, 110, 111, 112, 113, 114, 115, 116, 117, 118, 119, 120, 121, 122, 123, 124, 125, 126, 127, 128, 129, 130, 131, 132, 133] (by decide +kernel) (by decide +kernel)) (goodIn_sub (fun _ h => List.mem_cons_of_mem _ (List.mem_append_left _ (List.mem_append_right _ h))) (by decide +kernel))
set_option maxRecDepth 20000 in
theorem gX8_worstWith_X8_needGuard : GoodIn wsX8_worstWith (wsV RX8 209 RX8 yX8_needGuard wsX8_needGuard) := goodIn_app (goodIn_of _ (by decide +kernel)) ggX8_worstWith_X8_needGuard
set_option maxRecDepth 20000 in
theorem ggX8_worstWith_X8_needRange : GoodIn wsX8_worstWith wsX8_needRange := goodIn_ca (goodIn_r _ [22, 23, 24] (by decide +kernel) (by decide +kernel)) (goodIn_sub (fun _ h => List.mem_cons_of_mem _ (List.mem_append_right _ h)) (by decide +kernel))
set_option maxRecDepth 20000 in
theorem gX8_worstWith_X8_needRange : GoodIn wsX8_worstWith (va_wsS RX8 97 yX8_needRange wsX8_needRange) := goodIn_app (goodIn_of _ (by decide +kernel)) ggX8_worstWith_X8_needRange
set_option maxRecDepth 20000 in
theorem ggX8_worstWith_X2_copyFrom : GoodIn wsX8_worstWith wsX2_copyFrom := goodIn_r _ [28, 29, 30, 19, 31, 32, 33, 34, 35, 36, 37, 38, 39, 40, 41, 42, 43, 44, 45, 46, 47, 48, 49, 50, 115, 116, 117, 118, 119, 120, 121, 122, 123, 124, 125, 126, 127, 128, 129, 130, 131, 132, 133] (by decide +kernel) (by decide +kernel)
set_option maxRecDepth 20000 in
theorem gX8_worstWith_X2_copyFrom : GoodIn wsX8_worstWith (wsV RX8 109 RX2 yX2_copyFrom wsX2_copyFrom) := goodIn_app (goodIn_of _ (by decide +kernel)) ggX8_worstWith_X2_copyFrom
set_option maxRecDepth 20000 in
theorem ggX8_worstWith_X6_measure : GoodIn wsX8_worstWith wsX6_measure := goodIn_r _ [55, 56, 57, 58, 59, 60, 61, 62, 63, 37, 38, 39, 64, 65, 66, 67, 68, 69, 70, 71, 72, 73, 74, 75, 76, 77, 78, 17, 79, 19, 43, 80, 10, 81, 82, 83, 84, 54, 85, 86, 87, 88, 89, 90, 91, 45, 92, 15, 16, 18, 93, 94, 95, 96, 97, 98, 99, 100, 134, 135, 136, 137, 138, 139, 140, 141, 115, 116, 117, 118, 119, 120, 121, 122, 123, 124, 125, 126, 127, 128, 129, 130, 131, 132, 133] (by decide +kernel) (by decide +kernel)
set_option maxRecDepth 20000 in
theorem gX8_worstWith_X6_measure : GoodIn wsX8_worstWith (wsV RX8 256 RX6 yX6_measure wsX6_measure) := goodIn_app (goodIn_of _ (by decide +kernel)) ggX8_worstWith_X6_measure
theorem dX8_worstWith_0 : decode cX8_worstWith 0 = .ok (.aload_n 0, 1) := by decide +kernel
theorem dX8_worstWith_1 : decode cX8_worstWith 1 = .ok (.iload_n 1, 1) := by decide +kernel
theorem dX8_worstWith_2 : decode cX8_worstWith 2 = .ok (.invokevirtual 209, 3) := by decide +kernel
theorem dX8_worstWith_5 : decode cX8_worstWith 5 = .ok (.iload_n 2, 1) := by decide +kernel
theorem dX8_worstWith_6 : decode cX8_worstWith 6 = .ok (.iconst 0, 1) := by decide +kernel
theorem dX8_worstWith_7 : decode cX8_worstWith 7 = .ok (.aload_n 0, 1) := by decide +kernel
theorem dX8_worstWith_8 : decode cX8_worstWith 8 = .ok (.getfield 10, 3) := by decide +kernel
theorem dX8_worstWith_11 : decode cX8_worstWith 11 = .ok (.getfield 212, 3) := by decide +kernel
theorem dX8_worstWith_14 : decode cX8_worstWith 14 = .ok (.iload_n 1, 1) := by decide +kernel
theorem dX8_worstWith_15 : decode cX8_worstWith 15 = .ok (.iaload, 1) := by decide +kernel
theorem dX8_worstWith_16 : decode cX8_worstWith 16 = .ok (.iconst 1, 1) := by decide +kernel
theorem dX8_worstWith_17 : decode cX8_worstWith 17 = .ok (.isub, 1) := by decide +kernel
theorem dX8_worstWith_18 : decode cX8_worstWith 18 = .ok (.invokestatic 97, 3) := by decide +kernel
theorem dX8_worstWith_21 : decode cX8_worstWith 21 = .ok (.aload_n 0, 1) := by decide +kernel
theorem dX8_worstWith_22 : decode cX8_worstWith 22 = .ok (.getfield 16, 3) := by decide +kernel
theorem dX8_worstWith_25 : decode cX8_worstWith 25 = .ok (.aload_n 0, 1) := by decide +kernel
theorem dX8_worstWith_26 : decode cX8_worstWith 26 = .ok (.getfield 10, 3) := by decide +kernel
theorem dX8_worstWith_29 : decode cX8_worstWith 29 = .ok (.invokevirtual 109, 3) := by decide +kernel
theorem dX8_worstWith_32 : decode cX8_worstWith 32 = .ok (.aload_n 0, 1) := by decide +kernel
theorem dX8_worstWith_33 : decode cX8_worstWith 33 = .ok (.getfield 16, 3) := by decide +kernel
theorem dX8_worstWith_36 : decode cX8_worstWith 36 = .ok (.getfield 215, 3) := by decide +kernel
theorem dX8_worstWith_39 : decode cX8_worstWith 39 = .ok (.iload_n 1, 1) := by decide +kernel
theorem dX8_worstWith_40 : decode cX8_worstWith 40 = .ok (.iload_n 2, 1) := by decide +kernel
theorem dX8_worstWith_41 : decode cX8_worstWith 41 = .ok (.iastore, 1) := by decide +kernel
theorem dX8_worstWith_42 : decode cX8_worstWith 42 = .ok (.aload_n 0, 1) := by decide +kernel
theorem dX8_worstWith_43 : decode cX8_worstWith 43 = .ok (.getfield 33, 3) := by decide +kernel
theorem dX8_worstWith_46 : decode cX8_worstWith 46 = .ok (.aload_n 0, 1) := by decide +kernel
theorem dX8_worstWith_47 : decode cX8_worstWith 47 = .ok (.getfield 16, 3) := by decide +kernel
theorem dX8_worstWith_50 : decode cX8_worstWith 50 = .ok (.invokevirtual 256, 3) := by decide +kernel
theorem dX8_worstWith_53 : decode cX8_worstWith 53 = .ok (.aload_n 0, 1) := by decide +kernel
theorem dX8_worstWith_54 : decode cX8_worstWith 54 = .ok (.getfield 33, 3) := by decide +kernel
theorem dX8_worstWith_57 : decode cX8_worstWith 57 = .ok (.getfield 139, 3) := by decide +kernel
theorem dX8_worstWith_60 : decode cX8_worstWith 60 = .ok (.ireturn, 1) := by decide +kernel
set_option maxRecDepth 20000 in
theorem ggX8_bestWorst_X8_best : GoodIn wsX8_bestWorst wsX8_best := goodIn_r _ [6, 7, 8, 9, 10, 11, 12, 13, 14, 15, 16, 17, 18, 19, 20, 21, 22, 23, 24, 25, 26, 27, 28, 29, 30, 31, 32, 33, 34, 35, 36, 37, 38, 39, 40, 41, 42, 43, 44, 45, 46, 47, 48, 49, 50, 51, 52, 53, 54, 55, 5, 56, 57, 58, 59, 60, 61, 62, 63, 64, 65, 66, 67, 68, 69, 70, 71, 72, 73, 74, 75, 76, 77, 78, 79, 80, 81, 82, 83, 84, 85, 86, 87, 88, 89, 90, 91, 92, 93, 94, 95, 96, 97, 98, 99, 100, 101, 102, 103, 104, 105, 106, 107, 108, 109, 110, 111, 112, 113, 114, 115, 116, 117, 118, 119, 120, 121, 122, 123, 124, 125, 126, 127, 128, 129, 130, 131, 132, 133, 134, 135, 136, 137, 145, 146, 147, 148, 149, 150, 151, 152, 153, 154, 155, 156, 157, 158, 138, 139, 140, 141, 142, 143, 144, 159, 160, 161, 162, 163, 164, 165, 166, 167, 168, 169, 170, 171, 172, 173, 174, 175, 176, 177, 178, 179, 180, 181, 182, 183, 184, 185] (by decide +kernel) (by decide +kernel)
set_option maxRecDepth 20000 in
theorem gX8_bestWorst_X8_best : GoodIn wsX8_bestWorst (wsV RX8 259 RX8 yX8_best wsX8_best) := goodIn_app (goodIn_of _ (by decide +kernel)) ggX8_bestWorst_X8_best
theorem dX8_bestWorst_0 : decode cX8_bestWorst 0 = .ok (.aload_n 0, 1) := by decide +kernel
theorem dX8_bestWorst_1 : decode cX8_bestWorst 1 = .ok (.invokevirtual 259, 3) := by decide +kernel
theorem dX8_bestWorst_4 : decode cX8_bestWorst 4 = .ok (.getfield 263, 3) := by decide +kernel
theorem dX8_bestWorst_7 : decode cX8_bestWorst 7 = .ok (.ireturn, 1) := by decide +kernel
set_option maxRecDepth 20000 in
theorem ggX8_bestCrossings_X8_best : GoodIn wsX8_bestCrossings wsX8_best := goodIn_r _ [6, 7, 8, 9, 10, 11, 12, 13, 14, 15, 16, 17, 18, 19, 20, 21, 22, 23, 24, 25, 26, 27, 28, 29, 30, 31, 32, 33, 34, 35, 36, 37, 38, 39, 40, 41, 42, 43, 44, 45, 46, 47, 48, 49, 50, 51, 52, 53, 54, 55, 5, 56, 57, 58, 59, 60, 61, 62, 63, 64, 65, 66, 67, 68, 69, 70, 71, 72, 73, 74, 75, 76, 77, 78, 79, 80, 81, 82, 83, 84, 85, 86, 87, 88, 89, 90, 91, 92, 93, 94, 95, 96, 97, 98, 99, 100, 101, 102, 103, 104, 105, 106, 107, 108, 109, 110, 111, 112, 113, 114, 115, 116, 117, 118, 119, 120, 121, 122, 123, 124, 125, 126, 127, 128, 129, 130, 131, 132, 133, 134, 135, 136, 137, 145, 146, 147, 148, 149, 150, 151, 152, 153, 154, 155, 156, 157, 158, 138, 139, 140, 141, 142, 143, 144, 159, 160, 161, 162, 163, 164, 165, 166, 167, 168, 169, 170, 171, 172, 173, 174, 175, 176, 177, 178, 179, 180, 181, 182, 183, 184, 185] (by decide +kernel) (by decide +kernel)
set_option maxRecDepth 20000 in
theorem gX8_bestCrossings_X8_best : GoodIn wsX8_bestCrossings (wsV RX8 259 RX8 yX8_best wsX8_best) := goodIn_app (goodIn_of _ (by decide +kernel)) ggX8_bestCrossings_X8_best
theorem dX8_bestCrossings_0 : decode cX8_bestCrossings 0 = .ok (.aload_n 0, 1) := by decide +kernel
theorem dX8_bestCrossings_1 : decode cX8_bestCrossings 1 = .ok (.invokevirtual 259, 3) := by decide +kernel
theorem dX8_bestCrossings_4 : decode cX8_bestCrossings 4 = .ok (.getfield 264, 3) := by decide +kernel
theorem dX8_bestCrossings_7 : decode cX8_bestCrossings 7 = .ok (.ireturn, 1) := by decide +kernel
set_option maxRecDepth 20000 in
theorem ggX8_bestPhase_X8_needGuard : GoodIn wsX8_bestPhase wsX8_needGuard := goodIn_ca (goodIn_r _ [6, 7, 8, 9, 10, 11, 12, 13, 14, 15, 152, 153, 154, 155, 156, 157, 158, 159, 160, 161, 162, 163, 164, 165, 166, 167, 168, 169, 170, 171, 172, 173, 174, 175, 176, 177, 178, 179, 180, 181, 182, 183, 184] (by decide +kernel) (by decide +kernel)) (goodIn_sub (fun _ h => List.mem_cons_of_mem _ (List.mem_append_right _ h)) (by decide +kernel))
set_option maxRecDepth 20000 in
theorem gX8_bestPhase_X8_needGuard : GoodIn wsX8_bestPhase (wsV RX8 209 RX8 yX8_needGuard wsX8_needGuard) := goodIn_app (goodIn_of _ (by decide +kernel)) ggX8_bestPhase_X8_needGuard
set_option maxRecDepth 20000 in
theorem ggX8_bestPhase_X8_best : GoodIn wsX8_bestPhase wsX8_best := goodIn_r _ [19, 20, 21, 9, 22, 23, 24, 25, 26, 27, 28, 29, 30, 31, 32, 33, 13, 34, 35, 36, 15, 37, 38, 39, 40, 41, 42, 43, 44, 45, 46, 47, 48, 49, 50, 51, 52, 53, 54, 55, 56, 57, 58, 59, 60, 61, 62, 63, 64, 65, 5, 66, 67, 68, 69, 70, 71, 72, 73, 74, 75, 76, 77, 78, 79, 80, 81, 82, 83, 84, 85, 86, 87, 88, 89, 90, 91, 92, 93, 94, 95, 96, 97, 98, 99, 100, 101, 102, 103, 104, 105, 106, 107, 108, 109, 110, 111, 112, 113, 114, 115, 116, 11, 12, 14, 117, 118, 119, 120, 121, 122, 123, 124, 125, 126, 127, 128, 129, 130, 131, 132, 133, 134, 135, 136, 137, 138, 139, 140, 141, 142, 143, 144, 152, 153, 154, 155, 156, 157, 158, 159, 160, 161, 162, 163, 164, 165, 145, 146, 147, 148, 149, 150, 151, 166, 167, 168, 169, 170, 171, 172, 173, 174, 175, 176, 177, 178, 179, 180, 181, 182, 183, 184, 185, 186, 187, 188, 189, 190, 191, 192] (by decide +kernel) (by decide +kernel)
set_option maxRecDepth 20000 in
theorem gX8_bestPhase_X8_best : GoodIn wsX8_bestPhase (wsV RX8 259 RX8 yX8_best wsX8_best) := goodIn_app (goodIn_of _ (by decide +kernel)) ggX8_bestPhase_X8_best
theorem dX8_bestPhase_0 : decode cX8_bestPhase 0 = .ok (.aload_n 0, 1) := by decide +kernel
theorem dX8_bestPhase_1 : decode cX8_bestPhase 1 = .ok (.iload_n 1, 1) := by decide +kernel
theorem dX8_bestPhase_2 : decode cX8_bestPhase 2 = .ok (.invokevirtual 209, 3) := by decide +kernel
theorem dX8_bestPhase_5 : decode cX8_bestPhase 5 = .ok (.aload_n 0, 1) := by decide +kernel
theorem dX8_bestPhase_6 : decode cX8_bestPhase 6 = .ok (.invokevirtual 259, 3) := by decide +kernel
theorem dX8_bestPhase_9 : decode cX8_bestPhase 9 = .ok (.getfield 267, 3) := by decide +kernel
theorem dX8_bestPhase_12 : decode cX8_bestPhase 12 = .ok (.iload_n 1, 1) := by decide +kernel
theorem dX8_bestPhase_13 : decode cX8_bestPhase 13 = .ok (.iaload, 1) := by decide +kernel
theorem dX8_bestPhase_14 : decode cX8_bestPhase 14 = .ok (.ireturn, 1) := by decide +kernel
set_option maxRecDepth 20000 in
theorem ggX8_arrival_X8_needRoom : GoodIn wsX8_arrival wsX8_needRoom := goodIn_ca (goodIn_r _ [8, 9, 10, 3, 11, 12, 13, 14, 15, 16, 69, 70, 71, 72, 73, 74, 75, 76, 77, 78, 79, 80, 81, 82, 83, 84, 85, 86, 87, 88, 89, 90, 91, 92, 93, 94, 95, 96, 97, 98, 99, 100, 101] (by decide +kernel) (by decide +kernel)) (goodIn_sub (fun _ h => List.mem_cons_of_mem _ (List.mem_append_left _ (List.mem_append_right _ h))) (by decide +kernel))
set_option maxRecDepth 20000 in
theorem gX8_arrival_X8_needRoom : GoodIn wsX8_arrival (wsV RX8 180 RX8 yX8_needRoom wsX8_needRoom) := goodIn_app (goodIn_of _ (by decide +kernel)) ggX8_arrival_X8_needRoom
set_option maxRecDepth 20000 in
theorem ggX8_arrival_X8_needRange : GoodIn wsX8_arrival wsX8_needRange := goodIn_ca (goodIn_r _ [19, 20, 21] (by decide +kernel) (by decide +kernel)) (goodIn_sub (fun _ h => List.mem_cons_of_mem _ (List.mem_append_right _ h)) (by decide +kernel))
set_option maxRecDepth 20000 in
theorem gX8_arrival_X8_needRange : GoodIn wsX8_arrival (va_wsS RX8 97 yX8_needRange wsX8_needRange) := goodIn_app (goodIn_of _ (by decide +kernel)) ggX8_arrival_X8_needRange
set_option maxRecDepth 20000 in
theorem ggX8_arrival_X4_firstArrival : GoodIn wsX8_arrival wsX4_firstArrival := goodIn_r _ [26, 27, 28, 29, 30, 14, 31, 32, 33, 34, 7, 35, 36, 37, 38, 39, 40, 41, 42, 43, 44, 45, 46, 47, 48, 49, 50, 51, 52, 53, 54, 55, 56, 57, 58, 25, 59, 60, 61, 62, 63, 64, 65, 66, 67, 68, 102, 103, 83, 84, 85, 86, 87, 88, 89, 90, 91, 92, 93, 94, 95, 96, 97, 98, 99, 100, 101] (by decide +kernel) (by decide +kernel)
set_option maxRecDepth 20000 in
theorem gX8_arrival_X4_firstArrival : GoodIn wsX8_arrival (wsV RX8 268 RX4 yX4_firstArrival wsX4_firstArrival) := goodIn_app (goodIn_of _ (by decide +kernel)) ggX8_arrival_X4_firstArrival
theorem dX8_arrival_0 : decode cX8_arrival 0 = .ok (.aload_n 0, 1) := by decide +kernel
theorem dX8_arrival_1 : decode cX8_arrival 1 = .ok (.iload_n 1, 1) := by decide +kernel
theorem dX8_arrival_2 : decode cX8_arrival 2 = .ok (.invokevirtual 180, 3) := by decide +kernel
theorem dX8_arrival_5 : decode cX8_arrival 5 = .ok (.aload_n 0, 1) := by decide +kernel
theorem dX8_arrival_6 : decode cX8_arrival 6 = .ok (.iload_n 2, 1) := by decide +kernel
theorem dX8_arrival_7 : decode cX8_arrival 7 = .ok (.invokevirtual 180, 3) := by decide +kernel
theorem dX8_arrival_10 : decode cX8_arrival 10 = .ok (.iload_n 3, 1) := by decide +kernel
theorem dX8_arrival_11 : decode cX8_arrival 11 = .ok (.iconst 0, 1) := by decide +kernel
theorem dX8_arrival_12 : decode cX8_arrival 12 = .ok (.ldc 241, 2) := by decide +kernel
theorem dX8_arrival_14 : decode cX8_arrival 14 = .ok (.invokestatic 97, 3) := by decide +kernel
theorem dX8_arrival_17 : decode cX8_arrival 17 = .ok (.aload_n 0, 1) := by decide +kernel
theorem dX8_arrival_18 : decode cX8_arrival 18 = .ok (.getfield 46, 3) := by decide +kernel
theorem dX8_arrival_21 : decode cX8_arrival 21 = .ok (.aload_n 0, 1) := by decide +kernel
theorem dX8_arrival_22 : decode cX8_arrival 22 = .ok (.getfield 10, 3) := by decide +kernel
theorem dX8_arrival_25 : decode cX8_arrival 25 = .ok (.iload_n 1, 1) := by decide +kernel
theorem dX8_arrival_26 : decode cX8_arrival 26 = .ok (.iload_n 2, 1) := by decide +kernel
theorem dX8_arrival_27 : decode cX8_arrival 27 = .ok (.iload_n 3, 1) := by decide +kernel
theorem dX8_arrival_28 : decode cX8_arrival 28 = .ok (.invokevirtual 268, 3) := by decide +kernel
theorem dX8_arrival_31 : decode cX8_arrival 31 = .ok (.ireturn, 1) := by decide +kernel
set_option maxRecDepth 20000 in
theorem ggX8_hiding_X8_needRoom : GoodIn wsX8_hiding wsX8_needRoom := goodIn_ca (goodIn_r _ [8, 9, 10, 3, 11, 12, 13, 14, 15, 16, 62, 63, 64, 65, 66, 67, 68, 69, 70, 71, 72, 73, 74, 75, 76, 77, 78, 79, 80, 81, 82, 83, 84, 85, 86, 87, 88, 89, 90, 91, 92, 93, 94] (by decide +kernel) (by decide +kernel)) (goodIn_sub (fun _ h => List.mem_cons_of_mem _ (List.mem_append_left _ (List.mem_append_right _ h))) (by decide +kernel))
set_option maxRecDepth 20000 in
theorem gX8_hiding_X8_needRoom : GoodIn wsX8_hiding (wsV RX8 180 RX8 yX8_needRoom wsX8_needRoom) := goodIn_app (goodIn_of _ (by decide +kernel)) ggX8_hiding_X8_needRoom
set_option maxRecDepth 20000 in
theorem ggX8_hiding_X8_needRange : GoodIn wsX8_hiding wsX8_needRange := goodIn_ca (goodIn_r _ [19, 20, 21] (by decide +kernel) (by decide +kernel)) (goodIn_sub (fun _ h => List.mem_cons_of_mem _ (List.mem_append_right _ h)) (by decide +kernel))
set_option maxRecDepth 20000 in
theorem gX8_hiding_X8_needRange : GoodIn wsX8_hiding (va_wsS RX8 97 yX8_needRange wsX8_needRange) := goodIn_app (goodIn_of _ (by decide +kernel)) ggX8_hiding_X8_needRange
set_option maxRecDepth 20000 in
theorem ggX8_hiding_X4_roomsAfter : GoodIn wsX8_hiding wsX4_roomsAfter := goodIn_r _ [26, 27, 28, 29, 14, 30, 31, 32, 33, 34, 35, 36, 37, 38, 39, 40, 41, 42, 43, 44, 45, 25, 46, 47, 48, 49, 50, 51, 52, 53, 54, 55, 56, 57, 58, 59, 60, 7, 61, 76, 77, 78, 79, 80, 81, 82, 83, 84, 85, 86, 87, 88, 89, 90, 91, 92, 93, 94, 95, 96] (by decide +kernel) (by decide +kernel)
set_option maxRecDepth 20000 in
theorem gX8_hiding_X4_roomsAfter : GoodIn wsX8_hiding (wsV RX8 272 RX4 yX4_roomsAfter wsX4_roomsAfter) := goodIn_app (goodIn_of _ (by decide +kernel)) ggX8_hiding_X4_roomsAfter
theorem dX8_hiding_0 : decode cX8_hiding 0 = .ok (.aload_n 0, 1) := by decide +kernel
theorem dX8_hiding_1 : decode cX8_hiding 1 = .ok (.iload_n 1, 1) := by decide +kernel
theorem dX8_hiding_2 : decode cX8_hiding 2 = .ok (.invokevirtual 180, 3) := by decide +kernel
theorem dX8_hiding_5 : decode cX8_hiding 5 = .ok (.iload_n 2, 1) := by decide +kernel
theorem dX8_hiding_6 : decode cX8_hiding 6 = .ok (.iconst 0, 1) := by decide +kernel
theorem dX8_hiding_7 : decode cX8_hiding 7 = .ok (.ldc 241, 2) := by decide +kernel
theorem dX8_hiding_9 : decode cX8_hiding 9 = .ok (.invokestatic 97, 3) := by decide +kernel
theorem dX8_hiding_12 : decode cX8_hiding 12 = .ok (.iload_n 3, 1) := by decide +kernel
theorem dX8_hiding_13 : decode cX8_hiding 13 = .ok (.iconst 0, 1) := by decide +kernel
theorem dX8_hiding_14 : decode cX8_hiding 14 = .ok (.bipush 100, 2) := by decide +kernel
theorem dX8_hiding_16 : decode cX8_hiding 16 = .ok (.invokestatic 97, 3) := by decide +kernel
theorem dX8_hiding_19 : decode cX8_hiding 19 = .ok (.aload_n 0, 1) := by decide +kernel
theorem dX8_hiding_20 : decode cX8_hiding 20 = .ok (.getfield 46, 3) := by decide +kernel
theorem dX8_hiding_23 : decode cX8_hiding 23 = .ok (.aload_n 0, 1) := by decide +kernel
theorem dX8_hiding_24 : decode cX8_hiding 24 = .ok (.getfield 10, 3) := by decide +kernel
theorem dX8_hiding_27 : decode cX8_hiding 27 = .ok (.iload_n 1, 1) := by decide +kernel
theorem dX8_hiding_28 : decode cX8_hiding 28 = .ok (.iload_n 2, 1) := by decide +kernel
theorem dX8_hiding_29 : decode cX8_hiding 29 = .ok (.iload_n 3, 1) := by decide +kernel
theorem dX8_hiding_30 : decode cX8_hiding 30 = .ok (.invokevirtual 272, 3) := by decide +kernel
theorem dX8_hiding_33 : decode cX8_hiding 33 = .ok (.ireturn, 1) := by decide +kernel
set_option maxRecDepth 20000 in
theorem ggX8_longestStay_X4_minutesFromNow : GoodIn wsX8_longestStay wsX4_minutesFromNow := goodIn_r _ [7, 8, 9, 10, 11, 12, 13, 14, 15, 16, 17, 18, 19, 20, 21, 22, 23, 24, 25, 26, 27, 28, 29, 30, 31, 32, 33, 6, 34, 35, 36, 37, 38, 39, 40, 41, 42, 43, 44, 45, 46, 47, 48, 49, 50, 65, 66, 67, 68, 69, 70, 71, 72, 73, 74, 75, 76, 77, 78, 79, 80, 81, 82, 83, 84, 85] (by decide +kernel) (by decide +kernel)
set_option maxRecDepth 20000 in
theorem gX8_longestStay_X4_minutesFromNow : GoodIn wsX8_longestStay (wsV RX8 275 RX4 yX4_minutesFromNow wsX4_minutesFromNow) := goodIn_app (goodIn_of _ (by decide +kernel)) ggX8_longestStay_X4_minutesFromNow
theorem dX8_longestStay_0 : decode cX8_longestStay 0 = .ok (.aload_n 0, 1) := by decide +kernel
theorem dX8_longestStay_1 : decode cX8_longestStay 1 = .ok (.getfield 46, 3) := by decide +kernel
theorem dX8_longestStay_4 : decode cX8_longestStay 4 = .ok (.aload_n 0, 1) := by decide +kernel
theorem dX8_longestStay_5 : decode cX8_longestStay 5 = .ok (.getfield 10, 3) := by decide +kernel
theorem dX8_longestStay_8 : decode cX8_longestStay 8 = .ok (.invokevirtual 275, 3) := by decide +kernel
theorem dX8_longestStay_11 : decode cX8_longestStay 11 = .ok (.ireturn, 1) := by decide +kernel
set_option maxRecDepth 20000 in
theorem ggX8_coverage_X2_cycleLength : GoodIn wsX8_coverage wsX2_cycleLength := goodIn_r _ [7, 8, 9, 10, 11, 12, 90, 91, 92, 93, 94, 95, 96, 97, 98, 99, 100, 101, 102, 103, 104, 105, 106, 107, 108] (by decide +kernel) (by decide +kernel)
set_option maxRecDepth 20000 in
theorem gX8_coverage_X2_cycleLength : GoodIn wsX8_coverage (wsV RX8 128 RX2 yX2_cycleLength wsX2_cycleLength) := goodIn_app (goodIn_of _ (by decide +kernel)) ggX8_coverage_X2_cycleLength
set_option maxRecDepth 20000 in
theorem ggX8_coverage_X8_measured : GoodIn wsX8_coverage wsX8_measured := goodIn_r _ [16, 17, 18, 1, 19, 20, 21, 22, 23, 24, 25, 26, 27, 28, 29, 30, 31, 32, 33, 34, 35, 36, 37, 38, 39, 40, 41, 42, 43, 44, 45, 46, 47, 48, 4, 5, 6, 7, 8, 9, 10, 11, 12, 49, 50, 51, 52, 53, 54, 55, 56, 57, 58, 59, 60, 61, 62, 63, 64, 65, 66, 67, 68, 69, 70, 71, 76, 77, 78, 79, 80, 81, 82, 83, 84, 85, 86, 87, 88, 89, 109, 110, 111, 112, 113, 114, 115, 116, 90, 91, 92, 93, 94, 95, 96, 97, 98, 99, 100, 101, 102, 103, 104, 105, 106, 107, 108] (by decide +kernel) (by decide +kernel)
set_option maxRecDepth 20000 in
theorem gX8_coverage_X8_measured : GoodIn wsX8_coverage (wsV RX8 135 RX8 yX8_measured wsX8_measured) := goodIn_app (goodIn_of _ (by decide +kernel)) ggX8_coverage_X8_measured
set_option maxRecDepth 20000 in
theorem ggX8_coverage_X6_countSeen : GoodIn wsX8_coverage wsX6_countSeen := goodIn_r _ [75, 37, 25, 90, 91, 92, 93, 94, 95, 96, 97, 98, 99, 100, 101, 102, 103, 104, 105, 106, 107, 108, 109, 110, 111, 112, 113, 114, 115, 116] (by decide +kernel) (by decide +kernel)
set_option maxRecDepth 20000 in
theorem gX8_coverage_X6_countSeen : GoodIn wsX8_coverage (wsV RX8 278 RX6 yX6_countSeen wsX6_countSeen) := goodIn_app (goodIn_of _ (by decide +kernel)) ggX8_coverage_X6_countSeen
theorem dX8_coverage_0 : decode cX8_coverage 0 = .ok (.aload_n 0, 1) := by decide +kernel
theorem dX8_coverage_1 : decode cX8_coverage 1 = .ok (.getfield 10, 3) := by decide +kernel
theorem dX8_coverage_4 : decode cX8_coverage 4 = .ok (.getfield 119, 3) := by decide +kernel
theorem dX8_coverage_7 : decode cX8_coverage 7 = .ok (.aload_n 0, 1) := by decide +kernel
theorem dX8_coverage_8 : decode cX8_coverage 8 = .ok (.getfield 10, 3) := by decide +kernel
theorem dX8_coverage_11 : decode cX8_coverage 11 = .ok (.invokevirtual 128, 3) := by decide +kernel
theorem dX8_coverage_14 : decode cX8_coverage 14 = .ok (.imul, 1) := by decide +kernel
theorem dX8_coverage_15 : decode cX8_coverage 15 = .ok (.istore_n 1, 1) := by decide +kernel
theorem dX8_coverage_16 : decode cX8_coverage 16 = .ok (.iload_n 1, 1) := by decide +kernel
theorem dX8_coverage_17 : decode cX8_coverage 17 = .ok (.ifCond .gt 5, 3) := by decide +kernel
theorem dX8_coverage_20 : decode cX8_coverage 20 = .ok (.dconst 0, 1) := by decide +kernel
theorem dX8_coverage_21 : decode cX8_coverage 21 = .ok (.dreturn, 1) := by decide +kernel
theorem dX8_coverage_22 : decode cX8_coverage 22 = .ok (.aload_n 0, 1) := by decide +kernel
theorem dX8_coverage_23 : decode cX8_coverage 23 = .ok (.invokevirtual 135, 3) := by decide +kernel
theorem dX8_coverage_26 : decode cX8_coverage 26 = .ok (.aload_n 0, 1) := by decide +kernel
theorem dX8_coverage_27 : decode cX8_coverage 27 = .ok (.getfield 10, 3) := by decide +kernel
theorem dX8_coverage_30 : decode cX8_coverage 30 = .ok (.invokevirtual 278, 3) := by decide +kernel
theorem dX8_coverage_33 : decode cX8_coverage 33 = .ok (.i2d, 1) := by decide +kernel
theorem dX8_coverage_34 : decode cX8_coverage 34 = .ok (.iload_n 1, 1) := by decide +kernel
theorem dX8_coverage_35 : decode cX8_coverage 35 = .ok (.i2d, 1) := by decide +kernel
theorem dX8_coverage_36 : decode cX8_coverage 36 = .ok (.ddiv, 1) := by decide +kernel
theorem dX8_coverage_37 : decode cX8_coverage 37 = .ok (.dreturn, 1) := by decide +kernel
set_option maxRecDepth 20000 in
theorem ggX8_seenRate_X2_countSightings : GoodIn wsX8_seenRate wsX2_countSightings := goodIn_r _ [7, 8, 9, 24, 25, 26, 27, 28, 29, 30, 31, 32, 33, 34, 35, 36, 37, 38, 39, 40, 41, 42] (by decide +kernel) (by decide +kernel)
set_option maxRecDepth 20000 in
theorem gX8_seenRate_X2_countSightings : GoodIn wsX8_seenRate (wsV RX8 151 RX2 yX2_countSightings wsX2_countSightings) := goodIn_app (goodIn_of _ (by decide +kernel)) ggX8_seenRate_X2_countSightings
theorem dX8_seenRate_0 : decode cX8_seenRate 0 = .ok (.aload_n 0, 1) := by decide +kernel
theorem dX8_seenRate_1 : decode cX8_seenRate 1 = .ok (.getfield 10, 3) := by decide +kernel
theorem dX8_seenRate_4 : decode cX8_seenRate 4 = .ok (.getfield 132, 3) := by decide +kernel
theorem dX8_seenRate_7 : decode cX8_seenRate 7 = .ok (.ifCond .gt 5, 3) := by decide +kernel
theorem dX8_seenRate_10 : decode cX8_seenRate 10 = .ok (.fconst 0, 1) := by decide +kernel
theorem dX8_seenRate_11 : decode cX8_seenRate 11 = .ok (.freturn, 1) := by decide +kernel
theorem dX8_seenRate_12 : decode cX8_seenRate 12 = .ok (.aload_n 0, 1) := by decide +kernel
theorem dX8_seenRate_13 : decode cX8_seenRate 13 = .ok (.getfield 10, 3) := by decide +kernel
theorem dX8_seenRate_16 : decode cX8_seenRate 16 = .ok (.invokevirtual 151, 3) := by decide +kernel
theorem dX8_seenRate_19 : decode cX8_seenRate 19 = .ok (.i2f, 1) := by decide +kernel
theorem dX8_seenRate_20 : decode cX8_seenRate 20 = .ok (.aload_n 0, 1) := by decide +kernel
theorem dX8_seenRate_21 : decode cX8_seenRate 21 = .ok (.getfield 10, 3) := by decide +kernel
theorem dX8_seenRate_24 : decode cX8_seenRate 24 = .ok (.getfield 132, 3) := by decide +kernel
theorem dX8_seenRate_27 : decode cX8_seenRate 27 = .ok (.i2f, 1) := by decide +kernel
theorem dX8_seenRate_28 : decode cX8_seenRate 28 = .ok (.fdiv, 1) := by decide +kernel
theorem dX8_seenRate_29 : decode cX8_seenRate 29 = .ok (.freturn, 1) := by decide +kernel
set_option maxRecDepth 20000 in
theorem ggX8_pass_X8_needRange : GoodIn wsX8_pass wsX8_needRange := goodIn_ca (goodIn_r _ [8, 9, 10] (by decide +kernel) (by decide +kernel)) (goodIn_sub (fun _ h => List.mem_cons_of_mem _ (List.mem_append_right _ h)) (by decide +kernel))
set_option maxRecDepth 20000 in
theorem gX8_pass_X8_needRange : GoodIn wsX8_pass (va_wsS RX8 97 yX8_needRange wsX8_needRange) := goodIn_app (goodIn_of _ (by decide +kernel)) ggX8_pass_X8_needRange
set_option maxRecDepth 20000 in
theorem ggX8_pass_X1_record : GoodIn wsX8_pass wsX1_record := goodIn_r _ [15, 16, 17, 18, 19, 20, 21, 22, 23, 24, 25, 26, 27, 28, 29, 30, 31, 32, 33, 34, 35, 36, 37, 38, 39, 40, 41, 42, 43, 44, 45, 46, 47, 48, 49, 50, 112, 113, 114, 115, 116, 93, 94, 95, 96, 97, 98, 99, 100, 101, 102, 103, 104, 105, 106, 107, 108, 109, 110, 111] (by decide +kernel) (by decide +kernel)
set_option maxRecDepth 20000 in
theorem gX8_pass_X1_record : GoodIn wsX8_pass (wsV RX8 282 RX1 yX1_record wsX1_record) := goodIn_app (goodIn_of _ (by decide +kernel)) ggX8_pass_X1_record
set_option maxRecDepth 20000 in
theorem ggX8_pass_X2_passMinute : GoodIn wsX8_pass wsX2_passMinute := goodIn_r _ [54, 31, 28, 47, 48, 49, 50, 55, 56, 21, 57, 58, 59, 60, 26, 61, 30, 62, 63, 64, 65, 43, 44, 45, 66, 67, 68, 69, 70, 7, 71, 72, 73, 74, 75, 76, 77, 78, 93, 94, 95, 96, 97, 98, 99, 100, 101, 102, 103, 104, 105, 106, 107, 108, 109, 110, 111] (by decide +kernel) (by decide +kernel)
set_option maxRecDepth 20000 in
theorem gX8_pass_X2_passMinute : GoodIn wsX8_pass (wsV RX8 285 RX2 yX2_passMinute wsX2_passMinute) := goodIn_app (goodIn_of _ (by decide +kernel)) ggX8_pass_X2_passMinute
theorem dX8_pass_0 : decode cX8_pass 0 = .ok (.iload_n 1, 1) := by decide +kernel
theorem dX8_pass_1 : decode cX8_pass 1 = .ok (.iconst 1, 1) := by decide +kernel
theorem dX8_pass_2 : decode cX8_pass 2 = .ok (.sipush 500, 3) := by decide +kernel
theorem dX8_pass_5 : decode cX8_pass 5 = .ok (.invokestatic 97, 3) := by decide +kernel
theorem dX8_pass_8 : decode cX8_pass 8 = .ok (.aload_n 0, 1) := by decide +kernel
theorem dX8_pass_9 : decode cX8_pass 9 = .ok (.getfield 10, 3) := by decide +kernel
theorem dX8_pass_12 : decode cX8_pass 12 = .ok (.getfield 132, 3) := by decide +kernel
theorem dX8_pass_15 : decode cX8_pass 15 = .ok (.iload_n 1, 1) := by decide +kernel
theorem dX8_pass_16 : decode cX8_pass 16 = .ok (.iadd, 1) := by decide +kernel
theorem dX8_pass_17 : decode cX8_pass 17 = .ok (.ldc_w 281, 3) := by decide +kernel
theorem dX8_pass_20 : decode cX8_pass 20 = .ok (.if_icmp .le 6, 3) := by decide +kernel
theorem dX8_pass_23 : decode cX8_pass 23 = .ok (.bipush (-2), 2) := by decide +kernel
theorem dX8_pass_25 : decode cX8_pass 25 = .ok (.ireturn, 1) := by decide +kernel
theorem dX8_pass_26 : decode cX8_pass 26 = .ok (.aload_n 0, 1) := by decide +kernel
theorem dX8_pass_27 : decode cX8_pass 27 = .ok (.getfield 22, 3) := by decide +kernel
theorem dX8_pass_30 : decode cX8_pass 30 = .ok (.aload_n 0, 1) := by decide +kernel
theorem dX8_pass_31 : decode cX8_pass 31 = .ok (.getfield 10, 3) := by decide +kernel
theorem dX8_pass_34 : decode cX8_pass 34 = .ok (.invokevirtual 282, 3) := by decide +kernel
theorem dX8_pass_37 : decode cX8_pass 37 = .ok (.iconst 0, 1) := by decide +kernel
theorem dX8_pass_38 : decode cX8_pass 38 = .ok (.istore_n 2, 1) := by decide +kernel
theorem dX8_pass_39 : decode cX8_pass 39 = .ok (.iconst 0, 1) := by decide +kernel
theorem dX8_pass_40 : decode cX8_pass 40 = .ok (.istore_n 3, 1) := by decide +kernel
theorem dX8_pass_41 : decode cX8_pass 41 = .ok (.iload_n 3, 1) := by decide +kernel
theorem dX8_pass_42 : decode cX8_pass 42 = .ok (.iload_n 1, 1) := by decide +kernel
theorem dX8_pass_43 : decode cX8_pass 43 = .ok (.if_icmp .ge 19, 3) := by decide +kernel
theorem dX8_pass_46 : decode cX8_pass 46 = .ok (.iload_n 2, 1) := by decide +kernel
theorem dX8_pass_47 : decode cX8_pass 47 = .ok (.aload_n 0, 1) := by decide +kernel
theorem dX8_pass_48 : decode cX8_pass 48 = .ok (.getfield 10, 3) := by decide +kernel
theorem dX8_pass_51 : decode cX8_pass 51 = .ok (.invokevirtual 285, 3) := by decide +kernel
theorem dX8_pass_54 : decode cX8_pass 54 = .ok (.iadd, 1) := by decide +kernel
theorem dX8_pass_55 : decode cX8_pass 55 = .ok (.istore_n 2, 1) := by decide +kernel
theorem dX8_pass_56 : decode cX8_pass 56 = .ok (.iinc 3 1, 3) := by decide +kernel
theorem dX8_pass_59 : decode cX8_pass 59 = .ok (.goto (-18), 3) := by decide +kernel
theorem dX8_pass_62 : decode cX8_pass 62 = .ok (.iload_n 2, 1) := by decide +kernel
theorem dX8_pass_63 : decode cX8_pass 63 = .ok (.ireturn, 1) := by decide +kernel
set_option maxRecDepth 20000 in
theorem ggX8_shift_X8_needGuard : GoodIn wsX8_shift wsX8_needGuard := goodIn_ca (goodIn_r _ [10, 11, 12, 1, 13, 14, 15, 16, 17, 18, 123, 124, 125, 126, 127, 128, 129, 130, 131, 132, 133, 134, 135, 136, 137, 138, 139, 140, 141, 142, 143, 144, 145, 146, 147, 148, 149, 150, 151, 152, 153, 154, 155] (by decide +kernel) (by decide +kernel)) (goodIn_sub (fun _ h => List.mem_cons_of_mem _ (List.mem_append_left _ (List.mem_append_right _ h))) (by decide +kernel))
set_option maxRecDepth 20000 in
theorem gX8_shift_X8_needGuard : GoodIn wsX8_shift (wsV RX8 209 RX8 yX8_needGuard wsX8_needGuard) := goodIn_app (goodIn_of _ (by decide +kernel)) ggX8_shift_X8_needGuard
set_option maxRecDepth 20000 in
theorem ggX8_shift_X8_needRange : GoodIn wsX8_shift wsX8_needRange := goodIn_ca (goodIn_r _ [21, 22, 23] (by decide +kernel) (by decide +kernel)) (goodIn_sub (fun _ h => List.mem_cons_of_mem _ (List.mem_append_right _ h)) (by decide +kernel))
set_option maxRecDepth 20000 in
theorem gX8_shift_X8_needRange : GoodIn wsX8_shift (va_wsS RX8 97 yX8_needRange wsX8_needRange) := goodIn_app (goodIn_of _ (by decide +kernel)) ggX8_shift_X8_needRange
set_option maxRecDepth 20000 in
theorem ggX8_shift_X1_record : GoodIn wsX8_shift wsX1_record := goodIn_r _ [28, 29, 30, 31, 32, 33, 34, 35, 36, 37, 38, 16, 39, 40, 41, 18, 42, 43, 44, 45, 46, 47, 48, 49, 50, 51, 52, 53, 54, 55, 56, 57, 58, 59, 60, 61, 164, 165, 166, 167, 168, 137, 138, 139, 140, 141, 142, 143, 144, 145, 146, 147, 148, 149, 150, 151, 152, 153, 154, 155] (by decide +kernel) (by decide +kernel)
set_option maxRecDepth 20000 in
theorem gX8_shift_X1_record : GoodIn wsX8_shift (wsV RX8 282 RX1 yX1_record wsX1_record) := goodIn_app (goodIn_of _ (by decide +kernel)) ggX8_shift_X1_record
set_option maxRecDepth 20000 in
theorem ggX8_shift_X8_markPhasesChanged : GoodIn wsX8_shift wsX8_markPhasesChanged := goodIn_r _ [65, 66, 1, 67, 123, 124, 125, 126, 127, 128, 129, 130, 131, 132, 133, 134, 135, 136, 137, 138, 139, 140, 141, 142, 143, 144, 145, 146, 147, 148, 149, 150, 151, 152, 153, 154, 155] (by decide +kernel) (by decide +kernel)
set_option maxRecDepth 20000 in
theorem gX8_shift_X8_markPhasesChanged : GoodIn wsX8_shift (wsV RX8 288 RX8 yX8_markPhasesChanged wsX8_markPhasesChanged) := goodIn_app (goodIn_of _ (by decide +kernel)) ggX8_shift_X8_markPhasesChanged
set_option maxRecDepth 20000 in
theorem ggX8_shift_X8_measured : GoodIn wsX8_shift wsX8_measured := goodIn_r _ [71, 72, 73, 1, 67, 74, 75, 76, 77, 78, 79, 80, 81, 82, 83, 84, 85, 86, 48, 49, 50, 87, 88, 89, 90, 34, 91, 92, 93, 94, 95, 96, 97, 98, 99, 100, 16, 101, 18, 54, 102, 9, 103, 104, 105, 106, 107, 108, 109, 110, 111, 112, 113, 56, 114, 14, 15, 17, 115, 116, 117, 118, 119, 120, 121, 122, 123, 124, 125, 126, 127, 128, 129, 130, 131, 132, 133, 134, 135, 136, 156, 157, 158, 159, 160, 161, 162, 163, 137, 138, 139, 140, 141, 142, 143, 144, 145, 146, 147, 148, 149, 150, 151, 152, 153, 154, 155] (by decide +kernel) (by decide +kernel)
set_option maxRecDepth 20000 in
theorem gX8_shift_X8_measured : GoodIn wsX8_shift (wsV RX8 135 RX8 yX8_measured wsX8_measured) := goodIn_app (goodIn_of _ (by decide +kernel)) ggX8_shift_X8_measured
theorem dX8_shift_0 : decode cX8_shift 0 = .ok (.aload_n 0, 1) := by decide +kernel
theorem dX8_shift_1 : decode cX8_shift 1 = .ok (.iload_n 1, 1) := by decide +kernel
theorem dX8_shift_2 : decode cX8_shift 2 = .ok (.invokevirtual 209, 3) := by decide +kernel
theorem dX8_shift_5 : decode cX8_shift 5 = .ok (.iload_n 2, 1) := by decide +kernel
theorem dX8_shift_6 : decode cX8_shift 6 = .ok (.iconst 0, 1) := by decide +kernel
theorem dX8_shift_7 : decode cX8_shift 7 = .ok (.aload_n 0, 1) := by decide +kernel
theorem dX8_shift_8 : decode cX8_shift 8 = .ok (.getfield 10, 3) := by decide +kernel
theorem dX8_shift_11 : decode cX8_shift 11 = .ok (.getfield 212, 3) := by decide +kernel
theorem dX8_shift_14 : decode cX8_shift 14 = .ok (.iload_n 1, 1) := by decide +kernel
theorem dX8_shift_15 : decode cX8_shift 15 = .ok (.iaload, 1) := by decide +kernel
theorem dX8_shift_16 : decode cX8_shift 16 = .ok (.iconst 1, 1) := by decide +kernel
theorem dX8_shift_17 : decode cX8_shift 17 = .ok (.isub, 1) := by decide +kernel
theorem dX8_shift_18 : decode cX8_shift 18 = .ok (.invokestatic 97, 3) := by decide +kernel
theorem dX8_shift_21 : decode cX8_shift 21 = .ok (.aload_n 0, 1) := by decide +kernel
theorem dX8_shift_22 : decode cX8_shift 22 = .ok (.getfield 22, 3) := by decide +kernel
theorem dX8_shift_25 : decode cX8_shift 25 = .ok (.aload_n 0, 1) := by decide +kernel
theorem dX8_shift_26 : decode cX8_shift 26 = .ok (.getfield 10, 3) := by decide +kernel
theorem dX8_shift_29 : decode cX8_shift 29 = .ok (.invokevirtual 282, 3) := by decide +kernel
theorem dX8_shift_32 : decode cX8_shift 32 = .ok (.aload_n 0, 1) := by decide +kernel
theorem dX8_shift_33 : decode cX8_shift 33 = .ok (.getfield 10, 3) := by decide +kernel
theorem dX8_shift_36 : decode cX8_shift 36 = .ok (.getfield 215, 3) := by decide +kernel
theorem dX8_shift_39 : decode cX8_shift 39 = .ok (.iload_n 1, 1) := by decide +kernel
theorem dX8_shift_40 : decode cX8_shift 40 = .ok (.iload_n 2, 1) := by decide +kernel
theorem dX8_shift_41 : decode cX8_shift 41 = .ok (.iastore, 1) := by decide +kernel
theorem dX8_shift_42 : decode cX8_shift 42 = .ok (.aload_n 0, 1) := by decide +kernel
theorem dX8_shift_43 : decode cX8_shift 43 = .ok (.invokevirtual 288, 3) := by decide +kernel
theorem dX8_shift_46 : decode cX8_shift 46 = .ok (.aload_n 0, 1) := by decide +kernel
theorem dX8_shift_47 : decode cX8_shift 47 = .ok (.invokevirtual 135, 3) := by decide +kernel
theorem dX8_shift_50 : decode cX8_shift 50 = .ok (.getfield 139, 3) := by decide +kernel
theorem dX8_shift_53 : decode cX8_shift 53 = .ok (.ireturn, 1) := by decide +kernel
set_option maxRecDepth 20000 in
theorem ggX8_adopt_X8_best : GoodIn wsX8_adopt wsX8_best := goodIn_r _ [10, 11, 12, 2, 13, 14, 15, 16, 17, 18, 19, 20, 21, 22, 23, 24, 25, 26, 27, 28, 29, 30, 31, 32, 33, 34, 35, 36, 37, 38, 39, 40, 41, 42, 43, 44, 45, 46, 47, 48, 49, 50, 51, 52, 53, 54, 55, 56, 57, 58, 9, 59, 60, 61, 62, 63, 64, 65, 66, 67, 68, 69, 70, 71, 72, 73, 74, 75, 76, 77, 78, 79, 80, 81, 82, 83, 84, 85, 86, 87, 88, 89, 90, 91, 92, 93, 94, 95, 96, 97, 98, 99, 100, 101, 102, 103, 104, 105, 106, 107, 108, 109, 110, 111, 112, 113, 114, 115, 116, 117, 118, 119, 120, 121, 122, 123, 124, 125, 126, 127, 128, 129, 130, 131, 132, 133, 134, 135, 136, 137, 138, 139, 140, 157, 158, 159, 160, 161, 162, 163, 164, 165, 166, 167, 168, 169, 170, 190, 191, 192, 193, 194, 195, 196, 171, 172, 173, 174, 175, 176, 177, 178, 179, 180, 181, 182, 183, 184, 185, 186, 187, 188, 189, 197, 198, 199, 200, 201, 202, 203, 204] (by decide +kernel) (by decide +kernel)
set_option maxRecDepth 20000 in
theorem gX8_adopt_X8_best : GoodIn wsX8_adopt (wsV RX8 259 RX8 yX8_best wsX8_best) := goodIn_app (goodIn_of _ (by decide +kernel)) ggX8_adopt_X8_best
set_option maxRecDepth 20000 in
theorem ggX8_adopt_X1_record : GoodIn wsX8_adopt wsX1_record := goodIn_r _ [145, 146, 147, 148, 149, 139, 87, 140, 150, 23, 24, 25, 26, 27, 28, 29, 30, 31, 32, 33, 34, 35, 36, 37, 38, 39, 40, 41, 42, 43, 44, 45, 46, 47, 48, 49, 205, 206, 207, 208, 209, 171, 172, 173, 174, 175, 176, 177, 178, 179, 180, 181, 182, 183, 184, 185, 186, 187, 188, 189] (by decide +kernel) (by decide +kernel)
set_option maxRecDepth 20000 in
theorem gX8_adopt_X1_record : GoodIn wsX8_adopt (wsV RX8 282 RX1 yX1_record wsX1_record) := goodIn_app (goodIn_of _ (by decide +kernel)) ggX8_adopt_X1_record
set_option maxRecDepth 20000 in
theorem ggX8_adopt_X8_markPhasesChanged : GoodIn wsX8_adopt wsX8_markPhasesChanged := goodIn_r _ [154, 155, 2, 156, 157, 158, 159, 160, 161, 162, 163, 164, 165, 166, 167, 168, 169, 170, 171, 172, 173, 174, 175, 176, 177, 178, 179, 180, 181, 182, 183, 184, 185, 186, 187, 188, 189] (by decide +kernel) (by decide +kernel)
set_option maxRecDepth 20000 in
theorem gX8_adopt_X8_markPhasesChanged : GoodIn wsX8_adopt (wsV RX8 288 RX8 yX8_markPhasesChanged wsX8_markPhasesChanged) := goodIn_app (goodIn_of _ (by decide +kernel)) ggX8_adopt_X8_markPhasesChanged
theorem dX8_adopt_0 : decode cX8_adopt 0 = .ok (.aload_n 0, 1) := by decide +kernel
theorem dX8_adopt_1 : decode cX8_adopt 1 = .ok (.invokevirtual 259, 3) := by decide +kernel
theorem dX8_adopt_4 : decode cX8_adopt 4 = .ok (.astore_n 1, 1) := by decide +kernel
theorem dX8_adopt_5 : decode cX8_adopt 5 = .ok (.aload_n 0, 1) := by decide +kernel
theorem dX8_adopt_6 : decode cX8_adopt 6 = .ok (.getfield 22, 3) := by decide +kernel
theorem dX8_adopt_9 : decode cX8_adopt 9 = .ok (.aload_n 0, 1) := by decide +kernel
theorem dX8_adopt_10 : decode cX8_adopt 10 = .ok (.getfield 10, 3) := by decide +kernel
theorem dX8_adopt_13 : decode cX8_adopt 13 = .ok (.invokevirtual 282, 3) := by decide +kernel
theorem dX8_adopt_16 : decode cX8_adopt 16 = .ok (.iconst 0, 1) := by decide +kernel
theorem dX8_adopt_17 : decode cX8_adopt 17 = .ok (.istore_n 2, 1) := by decide +kernel
theorem dX8_adopt_18 : decode cX8_adopt 18 = .ok (.iconst 0, 1) := by decide +kernel
theorem dX8_adopt_19 : decode cX8_adopt 19 = .ok (.istore_n 3, 1) := by decide +kernel
theorem dX8_adopt_20 : decode cX8_adopt 20 = .ok (.iload_n 3, 1) := by decide +kernel
theorem dX8_adopt_21 : decode cX8_adopt 21 = .ok (.aload_n 0, 1) := by decide +kernel
theorem dX8_adopt_22 : decode cX8_adopt 22 = .ok (.getfield 10, 3) := by decide +kernel
theorem dX8_adopt_25 : decode cX8_adopt 25 = .ok (.getfield 125, 3) := by decide +kernel
theorem dX8_adopt_28 : decode cX8_adopt 28 = .ok (.if_icmp .ge 50, 3) := by decide +kernel
theorem dX8_adopt_31 : decode cX8_adopt 31 = .ok (.iload_n 3, 1) := by decide +kernel
theorem dX8_adopt_32 : decode cX8_adopt 32 = .ok (.iconst 4, 1) := by decide +kernel
theorem dX8_adopt_33 : decode cX8_adopt 33 = .ok (.if_icmp .ge 45, 3) := by decide +kernel
theorem dX8_adopt_36 : decode cX8_adopt 36 = .ok (.aload_n 0, 1) := by decide +kernel
theorem dX8_adopt_37 : decode cX8_adopt 37 = .ok (.getfield 10, 3) := by decide +kernel
theorem dX8_adopt_40 : decode cX8_adopt 40 = .ok (.getfield 215, 3) := by decide +kernel
theorem dX8_adopt_43 : decode cX8_adopt 43 = .ok (.iload_n 3, 1) := by decide +kernel
theorem dX8_adopt_44 : decode cX8_adopt 44 = .ok (.iaload, 1) := by decide +kernel
theorem dX8_adopt_45 : decode cX8_adopt 45 = .ok (.aload_n 1, 1) := by decide +kernel
theorem dX8_adopt_46 : decode cX8_adopt 46 = .ok (.getfield 267, 3) := by decide +kernel
theorem dX8_adopt_49 : decode cX8_adopt 49 = .ok (.iload_n 3, 1) := by decide +kernel
theorem dX8_adopt_50 : decode cX8_adopt 50 = .ok (.iaload, 1) := by decide +kernel
theorem dX8_adopt_51 : decode cX8_adopt 51 = .ok (.if_icmp .eq 21, 3) := by decide +kernel
theorem dX8_adopt_54 : decode cX8_adopt 54 = .ok (.aload_n 0, 1) := by decide +kernel
theorem dX8_adopt_55 : decode cX8_adopt 55 = .ok (.getfield 10, 3) := by decide +kernel
theorem dX8_adopt_58 : decode cX8_adopt 58 = .ok (.getfield 215, 3) := by decide +kernel
theorem dX8_adopt_61 : decode cX8_adopt 61 = .ok (.iload_n 3, 1) := by decide +kernel
theorem dX8_adopt_62 : decode cX8_adopt 62 = .ok (.aload_n 1, 1) := by decide +kernel
theorem dX8_adopt_63 : decode cX8_adopt 63 = .ok (.getfield 267, 3) := by decide +kernel
theorem dX8_adopt_66 : decode cX8_adopt 66 = .ok (.iload_n 3, 1) := by decide +kernel
theorem dX8_adopt_67 : decode cX8_adopt 67 = .ok (.iaload, 1) := by decide +kernel
theorem dX8_adopt_68 : decode cX8_adopt 68 = .ok (.iastore, 1) := by decide +kernel
theorem dX8_adopt_69 : decode cX8_adopt 69 = .ok (.iinc 2 1, 3) := by decide +kernel
theorem dX8_adopt_72 : decode cX8_adopt 72 = .ok (.iinc 3 1, 3) := by decide +kernel
theorem dX8_adopt_75 : decode cX8_adopt 75 = .ok (.goto (-55), 3) := by decide +kernel
theorem dX8_adopt_78 : decode cX8_adopt 78 = .ok (.aload_n 0, 1) := by decide +kernel
theorem dX8_adopt_79 : decode cX8_adopt 79 = .ok (.invokevirtual 288, 3) := by decide +kernel
theorem dX8_adopt_82 : decode cX8_adopt 82 = .ok (.iload_n 2, 1) := by decide +kernel
theorem dX8_adopt_83 : decode cX8_adopt 83 = .ok (.ireturn, 1) := by decide +kernel
set_option maxRecDepth 20000 in
theorem ggX8_closeDoor_X8_needDoor : GoodIn wsX8_closeDoor wsX8_needDoor := goodIn_ca (goodIn_r _ [7, 8, 9, 1, 10, 11, 12, 13, 14, 15, 117, 118, 119, 120, 121, 122, 123, 124, 125, 126, 127, 128, 129, 130, 131, 132, 133, 134, 135, 136, 137, 138, 139, 140, 141, 142, 143, 144, 145, 146, 147, 148, 149] (by decide +kernel) (by decide +kernel)) (goodIn_sub (fun _ h => List.mem_cons_of_mem _ (List.mem_append_right _ h)) (by decide +kernel))
set_option maxRecDepth 20000 in
theorem gX8_closeDoor_X8_needDoor : GoodIn wsX8_closeDoor (wsV RX8 161 RX8 yX8_needDoor wsX8_needDoor) := goodIn_app (goodIn_of _ (by decide +kernel)) ggX8_closeDoor_X8_needDoor
set_option maxRecDepth 20000 in
theorem ggX8_closeDoor_X2_isOpen : GoodIn wsX8_closeDoor wsX2_isOpen := goodIn_r _ [19, 20, 21, 6, 22, 131, 132, 133, 134, 135, 136, 137, 138, 139, 140, 141, 142, 143, 144, 145, 146, 147, 148, 149] (by decide +kernel) (by decide +kernel)
set_option maxRecDepth 20000 in
theorem gX8_closeDoor_X2_isOpen : GoodIn wsX8_closeDoor (wsV RX8 170 RX2 yX2_isOpen wsX2_isOpen) := goodIn_app (goodIn_of _ (by decide +kernel)) ggX8_closeDoor_X2_isOpen
set_option maxRecDepth 20000 in
theorem ggX8_closeDoor_X2_countGuardsThrough : GoodIn wsX8_closeDoor wsX2_countGuardsThrough := goodIn_r _ [26, 27, 28, 29, 30, 11, 12, 13, 14, 15, 31, 32, 33, 34, 35, 36, 37, 38, 39, 40, 41, 42, 43, 44, 45, 46, 47, 48, 131, 132, 133, 134, 135, 136, 137, 138, 139, 140, 141, 142, 143, 144, 145, 146, 147, 148, 149] (by decide +kernel) (by decide +kernel)
set_option maxRecDepth 20000 in
theorem gX8_closeDoor_X2_countGuardsThrough : GoodIn wsX8_closeDoor (wsV RX8 174 RX2 yX2_countGuardsThrough wsX2_countGuardsThrough) := goodIn_app (goodIn_of _ (by decide +kernel)) ggX8_closeDoor_X2_countGuardsThrough
set_option maxRecDepth 20000 in
theorem ggX8_closeDoor_X2_hasOtherOpenDoor : GoodIn wsX8_closeDoor wsX2_hasOtherOpenDoor := goodIn_r _ [52, 15, 53, 17, 18, 13, 19, 20, 21, 6, 22, 54, 55, 56, 57, 28, 29, 30, 11, 12, 14, 131, 132, 133, 134, 135, 136, 137, 138, 139, 140, 141, 142, 143, 144, 145, 146, 147, 148, 149] (by decide +kernel) (by decide +kernel)
set_option maxRecDepth 20000 in
theorem gX8_closeDoor_X2_hasOtherOpenDoor : GoodIn wsX8_closeDoor (wsV RX8 291 RX2 yX2_hasOtherOpenDoor wsX2_hasOtherOpenDoor) := goodIn_app (goodIn_of _ (by decide +kernel)) ggX8_closeDoor_X2_hasOtherOpenDoor
set_option maxRecDepth 20000 in
theorem ggX8_closeDoor_X1_record : GoodIn wsX8_closeDoor wsX1_record := goodIn_r _ [62, 63, 64, 65, 66, 67, 68, 69, 70, 71, 72, 13, 73, 74, 15, 27, 75, 20, 76, 77, 28, 78, 79, 80, 81, 29, 82, 83, 39, 84, 40, 85, 86, 87, 88, 89, 150, 151, 152, 153, 154, 131, 132, 133, 134, 135, 136, 137, 138, 139, 140, 141, 142, 143, 144, 145, 146, 147, 148, 149] (by decide +kernel) (by decide +kernel)
set_option maxRecDepth 20000 in
theorem gX8_closeDoor_X1_record : GoodIn wsX8_closeDoor (wsV RX8 282 RX1 yX1_record wsX1_record) := goodIn_app (goodIn_of _ (by decide +kernel)) ggX8_closeDoor_X1_record
set_option maxRecDepth 20000 in
theorem ggX8_closeDoor_X2_setOpen : GoodIn wsX8_closeDoor wsX2_setOpen := goodIn_r _ [93, 20, 82, 15, 28, 29, 94, 95, 96, 97, 53, 17, 18, 13, 19, 21, 6, 22, 98, 99, 100, 101, 102, 103, 104, 105, 74, 131, 132, 133, 134, 135, 136, 137, 138, 139, 140, 141, 142, 143, 144, 145, 146, 147, 148, 149] (by decide +kernel) (by decide +kernel)
set_option maxRecDepth 20000 in
theorem gX8_closeDoor_X2_setOpen : GoodIn wsX8_closeDoor (wsV RX8 294 RX2 yX2_setOpen wsX2_setOpen) := goodIn_app (goodIn_of _ (by decide +kernel)) ggX8_closeDoor_X2_setOpen
set_option maxRecDepth 20000 in
theorem ggX8_closeDoor_X2_countOpenDoors : GoodIn wsX8_closeDoor wsX2_countOpenDoors := goodIn_r _ [109, 20, 110, 111, 112, 113, 114, 115, 116, 131, 132, 133, 134, 135, 136, 137, 138, 139, 140, 141, 142, 143, 144, 145, 146, 147, 148, 149] (by decide +kernel) (by decide +kernel)
set_option maxRecDepth 20000 in
theorem gX8_closeDoor_X2_countOpenDoors : GoodIn wsX8_closeDoor (wsV RX8 148 RX2 yX2_countOpenDoors wsX2_countOpenDoors) := goodIn_app (goodIn_of _ (by decide +kernel)) ggX8_closeDoor_X2_countOpenDoors
theorem dX8_closeDoor_0 : decode cX8_closeDoor 0 = .ok (.aload_n 0, 1) := by decide +kernel
theorem dX8_closeDoor_1 : decode cX8_closeDoor 1 = .ok (.iload_n 1, 1) := by decide +kernel
theorem dX8_closeDoor_2 : decode cX8_closeDoor 2 = .ok (.invokevirtual 161, 3) := by decide +kernel
theorem dX8_closeDoor_5 : decode cX8_closeDoor 5 = .ok (.aload_n 0, 1) := by decide +kernel
theorem dX8_closeDoor_6 : decode cX8_closeDoor 6 = .ok (.getfield 10, 3) := by decide +kernel
theorem dX8_closeDoor_9 : decode cX8_closeDoor 9 = .ok (.iload_n 1, 1) := by decide +kernel
theorem dX8_closeDoor_10 : decode cX8_closeDoor 10 = .ok (.invokevirtual 170, 3) := by decide +kernel
theorem dX8_closeDoor_13 : decode cX8_closeDoor 13 = .ok (.ifCond .ne 6, 3) := by decide +kernel
theorem dX8_closeDoor_16 : decode cX8_closeDoor 16 = .ok (.bipush (-2), 2) := by decide +kernel
theorem dX8_closeDoor_18 : decode cX8_closeDoor 18 = .ok (.ireturn, 1) := by decide +kernel
theorem dX8_closeDoor_19 : decode cX8_closeDoor 19 = .ok (.aload_n 0, 1) := by decide +kernel
theorem dX8_closeDoor_20 : decode cX8_closeDoor 20 = .ok (.getfield 10, 3) := by decide +kernel
theorem dX8_closeDoor_23 : decode cX8_closeDoor 23 = .ok (.iload_n 1, 1) := by decide +kernel
theorem dX8_closeDoor_24 : decode cX8_closeDoor 24 = .ok (.invokevirtual 174, 3) := by decide +kernel
theorem dX8_closeDoor_27 : decode cX8_closeDoor 27 = .ok (.ifCond .le 17, 3) := by decide +kernel
theorem dX8_closeDoor_30 : decode cX8_closeDoor 30 = .ok (.aload_n 0, 1) := by decide +kernel
theorem dX8_closeDoor_31 : decode cX8_closeDoor 31 = .ok (.getfield 10, 3) := by decide +kernel
theorem dX8_closeDoor_34 : decode cX8_closeDoor 34 = .ok (.iload_n 1, 1) := by decide +kernel
theorem dX8_closeDoor_35 : decode cX8_closeDoor 35 = .ok (.invokevirtual 291, 3) := by decide +kernel
theorem dX8_closeDoor_38 : decode cX8_closeDoor 38 = .ok (.ifCond .ne 6, 3) := by decide +kernel
theorem dX8_closeDoor_41 : decode cX8_closeDoor 41 = .ok (.bipush (-3), 2) := by decide +kernel
theorem dX8_closeDoor_43 : decode cX8_closeDoor 43 = .ok (.ireturn, 1) := by decide +kernel
theorem dX8_closeDoor_44 : decode cX8_closeDoor 44 = .ok (.aload_n 0, 1) := by decide +kernel
theorem dX8_closeDoor_45 : decode cX8_closeDoor 45 = .ok (.getfield 22, 3) := by decide +kernel
theorem dX8_closeDoor_48 : decode cX8_closeDoor 48 = .ok (.aload_n 0, 1) := by decide +kernel
theorem dX8_closeDoor_49 : decode cX8_closeDoor 49 = .ok (.getfield 10, 3) := by decide +kernel
theorem dX8_closeDoor_52 : decode cX8_closeDoor 52 = .ok (.invokevirtual 282, 3) := by decide +kernel
theorem dX8_closeDoor_55 : decode cX8_closeDoor 55 = .ok (.aload_n 0, 1) := by decide +kernel
theorem dX8_closeDoor_56 : decode cX8_closeDoor 56 = .ok (.getfield 10, 3) := by decide +kernel
theorem dX8_closeDoor_59 : decode cX8_closeDoor 59 = .ok (.iload_n 1, 1) := by decide +kernel
theorem dX8_closeDoor_60 : decode cX8_closeDoor 60 = .ok (.iconst 0, 1) := by decide +kernel
theorem dX8_closeDoor_61 : decode cX8_closeDoor 61 = .ok (.invokevirtual 294, 3) := by decide +kernel
theorem dX8_closeDoor_64 : decode cX8_closeDoor 64 = .ok (.aload_n 0, 1) := by decide +kernel
theorem dX8_closeDoor_65 : decode cX8_closeDoor 65 = .ok (.getfield 10, 3) := by decide +kernel
theorem dX8_closeDoor_68 : decode cX8_closeDoor 68 = .ok (.invokevirtual 148, 3) := by decide +kernel
theorem dX8_closeDoor_71 : decode cX8_closeDoor 71 = .ok (.ireturn, 1) := by decide +kernel
set_option maxRecDepth 20000 in
theorem ggX8_openDoor_X8_needDoor : GoodIn wsX8_openDoor wsX8_needDoor := goodIn_ca (goodIn_r _ [7, 8, 9, 1, 10, 11, 12, 13, 14, 15, 88, 89, 90, 91, 92, 93, 94, 95, 96, 97, 98, 99, 100, 101, 102, 103, 104, 105, 106, 107, 108, 109, 110, 111, 112, 113, 114, 115, 116, 117, 118, 119, 120] (by decide +kernel) (by decide +kernel)) (goodIn_sub (fun _ h => List.mem_cons_of_mem _ (List.mem_append_right _ h)) (by decide +kernel))
set_option maxRecDepth 20000 in
theorem gX8_openDoor_X8_needDoor : GoodIn wsX8_openDoor (wsV RX8 161 RX8 yX8_needDoor wsX8_needDoor) := goodIn_app (goodIn_of _ (by decide +kernel)) ggX8_openDoor_X8_needDoor
set_option maxRecDepth 20000 in
theorem ggX8_openDoor_X2_isOpen : GoodIn wsX8_openDoor wsX2_isOpen := goodIn_r _ [19, 20, 21, 6, 22, 102, 103, 104, 105, 106, 107, 108, 109, 110, 111, 112, 113, 114, 115, 116, 117, 118, 119, 120] (by decide +kernel) (by decide +kernel)
set_option maxRecDepth 20000 in
theorem gX8_openDoor_X2_isOpen : GoodIn wsX8_openDoor (wsV RX8 170 RX2 yX2_isOpen wsX2_isOpen) := goodIn_app (goodIn_of _ (by decide +kernel)) ggX8_openDoor_X2_isOpen
set_option maxRecDepth 20000 in
theorem ggX8_openDoor_X1_record : GoodIn wsX8_openDoor wsX1_record := goodIn_r _ [27, 28, 29, 30, 31, 32, 33, 34, 35, 36, 37, 13, 38, 39, 15, 40, 41, 20, 42, 43, 44, 45, 46, 47, 48, 49, 50, 51, 52, 53, 54, 55, 56, 57, 58, 59, 121, 122, 123, 124, 125, 102, 103, 104, 105, 106, 107, 108, 109, 110, 111, 112, 113, 114, 115, 116, 117, 118, 119, 120] (by decide +kernel) (by decide +kernel)
set_option maxRecDepth 20000 in
theorem gX8_openDoor_X1_record : GoodIn wsX8_openDoor (wsV RX8 282 RX1 yX1_record wsX1_record) := goodIn_app (goodIn_of _ (by decide +kernel)) ggX8_openDoor_X1_record
set_option maxRecDepth 20000 in
theorem ggX8_openDoor_X2_setOpen : GoodIn wsX8_openDoor wsX2_setOpen := goodIn_r _ [63, 20, 50, 15, 44, 49, 64, 65, 66, 67, 68, 17, 18, 13, 19, 21, 6, 22, 69, 70, 71, 72, 73, 74, 75, 76, 39, 102, 103, 104, 105, 106, 107, 108, 109, 110, 111, 112, 113, 114, 115, 116, 117, 118, 119, 120] (by decide +kernel) (by decide +kernel)
set_option maxRecDepth 20000 in
theorem gX8_openDoor_X2_setOpen : GoodIn wsX8_openDoor (wsV RX8 294 RX2 yX2_setOpen wsX2_setOpen) := goodIn_app (goodIn_of _ (by decide +kernel)) ggX8_openDoor_X2_setOpen
set_option maxRecDepth 20000 in
theorem ggX8_openDoor_X2_countOpenDoors : GoodIn wsX8_openDoor wsX2_countOpenDoors := goodIn_r _ [80, 20, 81, 82, 83, 84, 85, 86, 87, 102, 103, 104, 105, 106, 107, 108, 109, 110, 111, 112, 113, 114, 115, 116, 117, 118, 119, 120] (by decide +kernel) (by decide +kernel)
set_option maxRecDepth 20000 in
theorem gX8_openDoor_X2_countOpenDoors : GoodIn wsX8_openDoor (wsV RX8 148 RX2 yX2_countOpenDoors wsX2_countOpenDoors) := goodIn_app (goodIn_of _ (by decide +kernel)) ggX8_openDoor_X2_countOpenDoors
theorem dX8_openDoor_0 : decode cX8_openDoor 0 = .ok (.aload_n 0, 1) := by decide +kernel
theorem dX8_openDoor_1 : decode cX8_openDoor 1 = .ok (.iload_n 1, 1) := by decide +kernel
theorem dX8_openDoor_2 : decode cX8_openDoor 2 = .ok (.invokevirtual 161, 3) := by decide +kernel
theorem dX8_openDoor_5 : decode cX8_openDoor 5 = .ok (.aload_n 0, 1) := by decide +kernel
theorem dX8_openDoor_6 : decode cX8_openDoor 6 = .ok (.getfield 10, 3) := by decide +kernel
theorem dX8_openDoor_9 : decode cX8_openDoor 9 = .ok (.iload_n 1, 1) := by decide +kernel
theorem dX8_openDoor_10 : decode cX8_openDoor 10 = .ok (.invokevirtual 170, 3) := by decide +kernel
theorem dX8_openDoor_13 : decode cX8_openDoor 13 = .ok (.ifCond .eq 6, 3) := by decide +kernel
theorem dX8_openDoor_16 : decode cX8_openDoor 16 = .ok (.bipush (-2), 2) := by decide +kernel
theorem dX8_openDoor_18 : decode cX8_openDoor 18 = .ok (.ireturn, 1) := by decide +kernel
theorem dX8_openDoor_19 : decode cX8_openDoor 19 = .ok (.aload_n 0, 1) := by decide +kernel
theorem dX8_openDoor_20 : decode cX8_openDoor 20 = .ok (.getfield 22, 3) := by decide +kernel
theorem dX8_openDoor_23 : decode cX8_openDoor 23 = .ok (.aload_n 0, 1) := by decide +kernel
theorem dX8_openDoor_24 : decode cX8_openDoor 24 = .ok (.getfield 10, 3) := by decide +kernel
theorem dX8_openDoor_27 : decode cX8_openDoor 27 = .ok (.invokevirtual 282, 3) := by decide +kernel
theorem dX8_openDoor_30 : decode cX8_openDoor 30 = .ok (.aload_n 0, 1) := by decide +kernel
theorem dX8_openDoor_31 : decode cX8_openDoor 31 = .ok (.getfield 10, 3) := by decide +kernel
theorem dX8_openDoor_34 : decode cX8_openDoor 34 = .ok (.iload_n 1, 1) := by decide +kernel
theorem dX8_openDoor_35 : decode cX8_openDoor 35 = .ok (.iconst 1, 1) := by decide +kernel
theorem dX8_openDoor_36 : decode cX8_openDoor 36 = .ok (.invokevirtual 294, 3) := by decide +kernel
theorem dX8_openDoor_39 : decode cX8_openDoor 39 = .ok (.aload_n 0, 1) := by decide +kernel
theorem dX8_openDoor_40 : decode cX8_openDoor 40 = .ok (.getfield 10, 3) := by decide +kernel
theorem dX8_openDoor_43 : decode cX8_openDoor 43 = .ok (.invokevirtual 148, 3) := by decide +kernel
theorem dX8_openDoor_46 : decode cX8_openDoor 46 = .ok (.ireturn, 1) := by decide +kernel
set_option maxRecDepth 20000 in
theorem ggX8_setLimit_X8_needRoom : GoodIn wsX8_setLimit wsX8_needRoom := goodIn_ca (goodIn_r _ [8, 9, 10, 2, 11, 12, 13, 14, 15, 16, 128, 129, 130, 131, 132, 133, 134, 135, 136, 137, 138, 139, 140, 141, 142, 143, 144, 145, 146, 147, 148, 149, 150, 151, 152, 153, 154, 155, 156, 157, 158, 159, 160] (by decide +kernel) (by decide +kernel)) (goodIn_sub (fun _ h => List.mem_cons_of_mem _ (List.mem_append_left _ (List.mem_append_right _ h))) (by decide +kernel))
set_option maxRecDepth 20000 in
theorem gX8_setLimit_X8_needRoom : GoodIn wsX8_setLimit (wsV RX8 180 RX8 yX8_needRoom wsX8_needRoom) := goodIn_app (goodIn_of _ (by decide +kernel)) ggX8_setLimit_X8_needRoom
set_option maxRecDepth 20000 in
theorem ggX8_setLimit_X8_needRange : GoodIn wsX8_setLimit wsX8_needRange := goodIn_ca (goodIn_r _ [19, 20, 21] (by decide +kernel) (by decide +kernel)) (goodIn_sub (fun _ h => List.mem_cons_of_mem _ (List.mem_append_right _ h)) (by decide +kernel))
set_option maxRecDepth 20000 in
theorem gX8_setLimit_X8_needRange : GoodIn wsX8_setLimit (va_wsS RX8 97 yX8_needRange wsX8_needRange) := goodIn_app (goodIn_of _ (by decide +kernel)) ggX8_setLimit_X8_needRange
set_option maxRecDepth 20000 in
theorem ggX8_setLimit_X1_record : GoodIn wsX8_setLimit wsX1_record := goodIn_r _ [26, 27, 28, 29, 30, 31, 32, 33, 34, 35, 36, 14, 37, 16, 38, 39, 40, 41, 42, 43, 44, 45, 46, 47, 48, 49, 50, 51, 52, 53, 54, 55, 56, 57, 58, 59, 161, 162, 163, 164, 165, 142, 143, 144, 145, 146, 147, 148, 149, 150, 151, 152, 153, 154, 155, 156, 157, 158, 159, 160] (by decide +kernel) (by decide +kernel)
set_option maxRecDepth 20000 in
theorem gX8_setLimit_X1_record : GoodIn wsX8_setLimit (wsV RX8 282 RX1 yX1_record wsX1_record) := goodIn_app (goodIn_of _ (by decide +kernel)) ggX8_setLimit_X1_record
set_option maxRecDepth 20000 in
theorem ggX8_setLimit_X8_measured : GoodIn wsX8_setLimit wsX8_measured := goodIn_r _ [63, 64, 65, 2, 66, 67, 68, 69, 70, 71, 72, 73, 74, 75, 76, 77, 78, 79, 46, 47, 48, 80, 81, 82, 83, 32, 84, 85, 86, 87, 88, 89, 90, 91, 92, 93, 14, 94, 39, 52, 95, 7, 96, 97, 98, 99, 100, 101, 102, 103, 104, 105, 106, 54, 107, 108, 109, 110, 111, 112, 113, 114, 115, 116, 117, 118, 128, 129, 130, 131, 132, 133, 134, 135, 136, 137, 138, 139, 140, 141, 166, 167, 168, 169, 170, 171, 172, 173, 142, 143, 144, 145, 146, 147, 148, 149, 150, 151, 152, 153, 154, 155, 156, 157, 158, 159, 160] (by decide +kernel) (by decide +kernel)
set_option maxRecDepth 20000 in
theorem gX8_setLimit_X8_measured : GoodIn wsX8_setLimit (wsV RX8 135 RX8 yX8_measured wsX8_measured) := goodIn_app (goodIn_of _ (by decide +kernel)) ggX8_setLimit_X8_measured
set_option maxRecDepth 20000 in
theorem ggX8_setLimit_X6_countLate : GoodIn wsX8_setLimit wsX6_countLate := goodIn_r _ [122, 81, 123, 124, 125, 70, 126, 73, 127, 142, 143, 144, 145, 146, 147, 148, 149, 150, 151, 152, 153, 154, 155, 156, 157, 158, 159, 160, 166, 167, 168, 169, 170, 171, 172, 173] (by decide +kernel) (by decide +kernel)
set_option maxRecDepth 20000 in
theorem gX8_setLimit_X6_countLate : GoodIn wsX8_setLimit (wsV RX8 142 RX6 yX6_countLate wsX6_countLate) := goodIn_app (goodIn_of _ (by decide +kernel)) ggX8_setLimit_X6_countLate
theorem dX8_setLimit_0 : decode cX8_setLimit 0 = .ok (.aload_n 0, 1) := by decide +kernel
theorem dX8_setLimit_1 : decode cX8_setLimit 1 = .ok (.iload_n 1, 1) := by decide +kernel
theorem dX8_setLimit_2 : decode cX8_setLimit 2 = .ok (.invokevirtual 180, 3) := by decide +kernel
theorem dX8_setLimit_5 : decode cX8_setLimit 5 = .ok (.iload_n 2, 1) := by decide +kernel
theorem dX8_setLimit_6 : decode cX8_setLimit 6 = .ok (.iconst 0, 1) := by decide +kernel
theorem dX8_setLimit_7 : decode cX8_setLimit 7 = .ok (.bipush 99, 2) := by decide +kernel
theorem dX8_setLimit_9 : decode cX8_setLimit 9 = .ok (.invokestatic 97, 3) := by decide +kernel
theorem dX8_setLimit_12 : decode cX8_setLimit 12 = .ok (.aload_n 0, 1) := by decide +kernel
theorem dX8_setLimit_13 : decode cX8_setLimit 13 = .ok (.getfield 22, 3) := by decide +kernel
theorem dX8_setLimit_16 : decode cX8_setLimit 16 = .ok (.aload_n 0, 1) := by decide +kernel
theorem dX8_setLimit_17 : decode cX8_setLimit 17 = .ok (.getfield 10, 3) := by decide +kernel
theorem dX8_setLimit_20 : decode cX8_setLimit 20 = .ok (.invokevirtual 282, 3) := by decide +kernel
theorem dX8_setLimit_23 : decode cX8_setLimit 23 = .ok (.aload_n 0, 1) := by decide +kernel
theorem dX8_setLimit_24 : decode cX8_setLimit 24 = .ok (.getfield 10, 3) := by decide +kernel
theorem dX8_setLimit_27 : decode cX8_setLimit 27 = .ok (.getfield 183, 3) := by decide +kernel
theorem dX8_setLimit_30 : decode cX8_setLimit 30 = .ok (.iload_n 1, 1) := by decide +kernel
theorem dX8_setLimit_31 : decode cX8_setLimit 31 = .ok (.iload_n 2, 1) := by decide +kernel
theorem dX8_setLimit_32 : decode cX8_setLimit 32 = .ok (.iastore, 1) := by decide +kernel
theorem dX8_setLimit_33 : decode cX8_setLimit 33 = .ok (.aload_n 0, 1) := by decide +kernel
theorem dX8_setLimit_34 : decode cX8_setLimit 34 = .ok (.invokevirtual 135, 3) := by decide +kernel
theorem dX8_setLimit_37 : decode cX8_setLimit 37 = .ok (.aload_n 0, 1) := by decide +kernel
theorem dX8_setLimit_38 : decode cX8_setLimit 38 = .ok (.getfield 10, 3) := by decide +kernel
theorem dX8_setLimit_41 : decode cX8_setLimit 41 = .ok (.invokevirtual 142, 3) := by decide +kernel
theorem dX8_setLimit_44 : decode cX8_setLimit 44 = .ok (.ireturn, 1) := by decide +kernel
set_option maxRecDepth 20000 in
theorem ggX8_change_X8_needRange : GoodIn wsX8_change wsX8_needRange := goodIn_ca (goodIn_r _ [10, 11, 12] (by decide +kernel) (by decide +kernel)) (goodIn_sub (fun _ h => List.mem_cons_of_mem _ (List.mem_append_right _ h)) (by decide +kernel))
set_option maxRecDepth 20000 in
theorem gX8_change_X8_needRange : GoodIn wsX8_change (va_wsS RX8 97 yX8_needRange wsX8_needRange) := goodIn_app (goodIn_of _ (by decide +kernel)) ggX8_change_X8_needRange
set_option maxRecDepth 20000 in
theorem ggX8_change_X7_begin : GoodIn wsX8_change wsX7_begin := goodIn_r _ [17, 18, 19, 20, 21, 22, 23, 24, 25, 26, 16, 27, 28, 29, 30, 31, 32, 33, 34, 234, 235, 236, 237, 238, 239, 240] (by decide +kernel) (by decide +kernel)
set_option maxRecDepth 20000 in
theorem gX8_change_X7_begin : GoodIn wsX8_change (wsV RX8 101 RX7 yX7_begin wsX7_begin) := goodIn_app (goodIn_of _ (by decide +kernel)) ggX8_change_X7_begin
set_option maxRecDepth 20000 in
theorem ggX8_change_X2_copyFrom : GoodIn wsX8_change wsX2_copyFrom := goodIn_r _ [39, 40, 41, 42, 43, 44, 45, 46, 47, 48, 49, 50, 51, 52, 53, 54, 55, 56, 57, 58, 59, 60, 61, 62, 241, 242, 243, 244, 245, 246, 247, 248, 249, 250, 251, 252, 253, 254, 255, 256, 257, 258, 259] (by decide +kernel) (by decide +kernel)
set_option maxRecDepth 20000 in
theorem gX8_change_X2_copyFrom : GoodIn wsX8_change (wsV RX8 109 RX2 yX2_copyFrom wsX2_copyFrom) := goodIn_app (goodIn_of _ (by decide +kernel)) ggX8_change_X2_copyFrom
set_option maxRecDepth 20000 in
theorem ggX8_change_X3_readChange : GoodIn wsX8_change wsX3_readChange := goodIn_r _ [67, 68, 69, 70, 71, 72, 73, 16, 74, 31, 23, 29, 28, 75, 76, 77, 78, 79, 80, 81, 82, 83, 84, 85, 86, 87, 88, 89, 90, 91, 92, 93, 94, 95, 96, 97, 98, 99, 100, 101, 102, 103, 104, 105, 106, 107, 108, 109, 110, 111, 112, 113, 114, 115, 116, 117, 118, 119, 120, 121, 122, 123, 124, 25, 26, 27, 22, 30, 32, 33, 34, 125, 126, 127, 128, 129, 130, 131, 66, 132, 133, 134, 135, 136, 137, 138, 38, 139, 42, 140, 141, 142, 143, 55, 56, 58, 144, 145, 146, 147, 148, 149, 150, 151, 152, 153, 154, 155, 156, 57, 157, 158, 159, 160, 53, 161, 162, 163, 164, 40, 165, 9, 166, 167, 168, 169, 170, 171, 172, 173, 174, 175, 176, 177, 178, 179, 180, 181, 182, 183, 184, 185, 186, 260, 241, 242, 243, 244, 245, 246, 247, 248, 249, 250, 251, 252, 253, 254, 255, 256, 257, 258, 259, 234, 235, 236, 237, 238, 239, 240] (by decide +kernel) (by decide +kernel)
set_option maxRecDepth 20000 in
theorem gX8_change_X3_readChange : GoodIn wsX8_change (wsV RX8 298 RX3 yX3_readChange wsX3_readChange) := goodIn_app (goodIn_of _ (by decide +kernel)) ggX8_change_X3_readChange
set_option maxRecDepth 20000 in
theorem ggX8_change_X8_endReading : GoodIn wsX8_change wsX8_endReading := goodIn_r _ [190, 1, 191, 192, 2, 220, 221, 222, 223, 224, 225, 226, 227, 228, 229, 230, 231, 232, 233, 234, 235, 236, 237, 238, 239, 240] (by decide +kernel) (by decide +kernel)
set_option maxRecDepth 20000 in
theorem gX8_change_X8_endReading : GoodIn wsX8_change (wsV RX8 106 RX8 yX8_endReading wsX8_endReading) := goodIn_app (goodIn_of _ (by decide +kernel)) ggX8_change_X8_endReading
set_option maxRecDepth 20000 in
theorem ggX8_change_X1_record : GoodIn wsX8_change wsX1_record := goodIn_r _ [197, 198, 199, 200, 201, 19, 20, 21, 202, 36, 37, 38, 39, 40, 41, 42, 43, 44, 45, 46, 47, 48, 49, 50, 51, 52, 53, 54, 55, 56, 57, 58, 59, 60, 61, 62, 261, 262, 263, 264, 265, 241, 242, 243, 244, 245, 246, 247, 248, 249, 250, 251, 252, 253, 254, 255, 256, 257, 258, 259] (by decide +kernel) (by decide +kernel)
set_option maxRecDepth 20000 in
theorem gX8_change_X1_record : GoodIn wsX8_change (wsV RX8 282 RX1 yX1_record wsX1_record) := goodIn_app (goodIn_of _ (by decide +kernel)) ggX8_change_X1_record
set_option maxRecDepth 20000 in
theorem ggX8_change_X8_markWalksChanged : GoodIn wsX8_change wsX8_markWalksChanged := goodIn_r _ [206, 4, 207, 208, 209, 210, 211, 9, 212, 213, 220, 221, 222, 223, 224, 225, 226, 227, 228, 229, 230, 231, 232, 233, 241, 242, 243, 244, 245, 246, 247, 248, 249, 250, 251, 252, 253, 254, 255, 256, 257, 258, 259] (by decide +kernel) (by decide +kernel)
set_option maxRecDepth 20000 in
theorem gX8_change_X8_markWalksChanged : GoodIn wsX8_change (wsV RX8 113 RX8 yX8_markWalksChanged wsX8_markWalksChanged) := goodIn_app (goodIn_of _ (by decide +kernel)) ggX8_change_X8_markWalksChanged
set_option maxRecDepth 20000 in
theorem ggX8_change_X2_cycleLength : GoodIn wsX8_change wsX2_cycleLength := goodIn_r _ [217, 42, 55, 218, 9, 219, 241, 242, 243, 244, 245, 246, 247, 248, 249, 250, 251, 252, 253, 254, 255, 256, 257, 258, 259] (by decide +kernel) (by decide +kernel)
set_option maxRecDepth 20000 in
theorem gX8_change_X2_cycleLength : GoodIn wsX8_change (wsV RX8 128 RX2 yX2_cycleLength wsX2_cycleLength) := goodIn_app (goodIn_of _ (by decide +kernel)) ggX8_change_X2_cycleLength
theorem dX8_change_0 : decode cX8_change 0 = .ok (.iload_n 1, 1) := by decide +kernel
theorem dX8_change_1 : decode cX8_change 1 = .ok (.iconst 0, 1) := by decide +kernel
theorem dX8_change_2 : decode cX8_change 2 = .ok (.aload_n 0, 1) := by decide +kernel
theorem dX8_change_3 : decode cX8_change 3 = .ok (.getfield 53, 3) := by decide +kernel
theorem dX8_change_6 : decode cX8_change 6 = .ok (.getfield 91, 3) := by decide +kernel
theorem dX8_change_9 : decode cX8_change 9 = .ok (.invokestatic 97, 3) := by decide +kernel
theorem dX8_change_12 : decode cX8_change 12 = .ok (.aload_n 0, 1) := by decide +kernel
theorem dX8_change_13 : decode cX8_change 13 = .ok (.getfield 53, 3) := by decide +kernel
theorem dX8_change_16 : decode cX8_change 16 = .ok (.iload_n 1, 1) := by decide +kernel
theorem dX8_change_17 : decode cX8_change 17 = .ok (.invokevirtual 101, 3) := by decide +kernel
theorem dX8_change_20 : decode cX8_change 20 = .ok (.aload_n 0, 1) := by decide +kernel
theorem dX8_change_21 : decode cX8_change 21 = .ok (.getfield 16, 3) := by decide +kernel
theorem dX8_change_24 : decode cX8_change 24 = .ok (.aload_n 0, 1) := by decide +kernel
theorem dX8_change_25 : decode cX8_change 25 = .ok (.getfield 10, 3) := by decide +kernel
theorem dX8_change_28 : decode cX8_change 28 = .ok (.invokevirtual 109, 3) := by decide +kernel
theorem dX8_change_31 : decode cX8_change 31 = .ok (.aload_n 0, 1) := by decide +kernel
theorem dX8_change_32 : decode cX8_change 32 = .ok (.getfield 62, 3) := by decide +kernel
theorem dX8_change_35 : decode cX8_change 35 = .ok (.aload_n 0, 1) := by decide +kernel
theorem dX8_change_36 : decode cX8_change 36 = .ok (.getfield 16, 3) := by decide +kernel
theorem dX8_change_39 : decode cX8_change 39 = .ok (.invokevirtual 298, 3) := by decide +kernel
theorem dX8_change_42 : decode cX8_change 42 = .ok (.istore_n 2, 1) := by decide +kernel
theorem dX8_change_43 : decode cX8_change 43 = .ok (.aload_n 0, 1) := by decide +kernel
theorem dX8_change_44 : decode cX8_change 44 = .ok (.iload_n 2, 1) := by decide +kernel
theorem dX8_change_45 : decode cX8_change 45 = .ok (.invokevirtual 106, 3) := by decide +kernel
theorem dX8_change_48 : decode cX8_change 48 = .ok (.iload_n 2, 1) := by decide +kernel
theorem dX8_change_49 : decode cX8_change 49 = .ok (.ifCond .eq 8, 3) := by decide +kernel
theorem dX8_change_52 : decode cX8_change 52 = .ok (.bipush (-10), 2) := by decide +kernel
theorem dX8_change_54 : decode cX8_change 54 = .ok (.iload_n 2, 1) := by decide +kernel
theorem dX8_change_55 : decode cX8_change 55 = .ok (.isub, 1) := by decide +kernel
theorem dX8_change_56 : decode cX8_change 56 = .ok (.ireturn, 1) := by decide +kernel
theorem dX8_change_57 : decode cX8_change 57 = .ok (.aload_n 0, 1) := by decide +kernel
theorem dX8_change_58 : decode cX8_change 58 = .ok (.getfield 22, 3) := by decide +kernel
theorem dX8_change_61 : decode cX8_change 61 = .ok (.aload_n 0, 1) := by decide +kernel
theorem dX8_change_62 : decode cX8_change 62 = .ok (.getfield 10, 3) := by decide +kernel
theorem dX8_change_65 : decode cX8_change 65 = .ok (.invokevirtual 282, 3) := by decide +kernel
theorem dX8_change_68 : decode cX8_change 68 = .ok (.aload_n 0, 1) := by decide +kernel
theorem dX8_change_69 : decode cX8_change 69 = .ok (.getfield 10, 3) := by decide +kernel
theorem dX8_change_72 : decode cX8_change 72 = .ok (.aload_n 0, 1) := by decide +kernel
theorem dX8_change_73 : decode cX8_change 73 = .ok (.getfield 16, 3) := by decide +kernel
theorem dX8_change_76 : decode cX8_change 76 = .ok (.invokevirtual 109, 3) := by decide +kernel
theorem dX8_change_79 : decode cX8_change 79 = .ok (.aload_n 0, 1) := by decide +kernel
theorem dX8_change_80 : decode cX8_change 80 = .ok (.invokevirtual 113, 3) := by decide +kernel
theorem dX8_change_83 : decode cX8_change 83 = .ok (.aload_n 0, 1) := by decide +kernel
theorem dX8_change_84 : decode cX8_change 84 = .ok (.getfield 10, 3) := by decide +kernel
theorem dX8_change_87 : decode cX8_change 87 = .ok (.invokevirtual 128, 3) := by decide +kernel
theorem dX8_change_90 : decode cX8_change 90 = .ok (.ireturn, 1) := by decide +kernel
set_option maxRecDepth 20000 in
theorem ggX8_format_X8_addFormatted : GoodIn wsX8_format wsX8_addFormatted := goodIn_r _ [8, 1, 9, 100, 101, 102, 103, 104, 105, 106, 107, 108, 109, 110, 111, 112, 113] (by decide +kernel) (by decide +kernel)
set_option maxRecDepth 20000 in
theorem gX8_format_X8_addFormatted : GoodIn wsX8_format (wsV RX8 301 RX8 yX8_addFormatted wsX8_addFormatted) := goodIn_app (goodIn_of _ (by decide +kernel)) ggX8_format_X8_addFormatted
set_option maxRecDepth 20000 in
theorem ggX8_format_X8_addFormattedRoom : GoodIn wsX8_format wsX8_addFormattedRoom := goodIn_r _ [13, 2, 14, 15, 4, 5, 6, 7, 8, 1, 9, 16, 17, 18, 19, 20, 21, 22, 23, 24, 25, 26, 27, 28, 29, 30, 31, 32, 33, 34, 35, 36, 37, 38, 39, 40, 41, 42, 43, 44, 45, 46, 47, 48, 49, 50, 51, 52, 53, 54, 55, 56, 57, 58, 59, 60, 61, 62, 63, 64, 65, 66, 67, 68, 69, 70, 71, 72, 73, 74, 75, 76, 77, 78, 79, 80, 81, 82, 83, 84, 85, 86, 87, 88, 89, 90, 91, 92, 93, 94, 95, 96, 97, 98, 99, 100, 101, 102, 103, 104, 105, 106, 107, 108, 109, 110, 111, 112, 113, 114, 115, 116, 117, 118, 119, 120, 121, 122, 123, 124, 125, 126, 127, 128, 129, 130, 131, 132, 133, 134, 135, 136, 137, 138, 139, 140] (by decide +kernel) (by decide +kernel)
set_option maxRecDepth 20000 in
theorem gX8_format_X8_addFormattedRoom : GoodIn wsX8_format (wsV RX8 304 RX8 yX8_addFormattedRoom wsX8_addFormattedRoom) := goodIn_app (goodIn_of _ (by decide +kernel)) ggX8_format_X8_addFormattedRoom
theorem dX8_format_0 : decode cX8_format 0 = .ok (.aload_n 0, 1) := by decide +kernel
theorem dX8_format_1 : decode cX8_format 1 = .ok (.iconst 0, 1) := by decide +kernel
theorem dX8_format_2 : decode cX8_format 2 = .ok (.putfield 77, 3) := by decide +kernel
theorem dX8_format_5 : decode cX8_format 5 = .ok (.iconst 0, 1) := by decide +kernel
theorem dX8_format_6 : decode cX8_format 6 = .ok (.istore_n 1, 1) := by decide +kernel
theorem dX8_format_7 : decode cX8_format 7 = .ok (.iload_n 1, 1) := by decide +kernel
theorem dX8_format_8 : decode cX8_format 8 = .ok (.aload_n 0, 1) := by decide +kernel
theorem dX8_format_9 : decode cX8_format 9 = .ok (.getfield 10, 3) := by decide +kernel
theorem dX8_format_12 : decode cX8_format 12 = .ok (.getfield 119, 3) := by decide +kernel
theorem dX8_format_15 : decode cX8_format 15 = .ok (.if_icmp .ge 24, 3) := by decide +kernel
theorem dX8_format_18 : decode cX8_format 18 = .ok (.iload_n 1, 1) := by decide +kernel
theorem dX8_format_19 : decode cX8_format 19 = .ok (.ifCond .le 9, 3) := by decide +kernel
theorem dX8_format_22 : decode cX8_format 22 = .ok (.aload_n 0, 1) := by decide +kernel
theorem dX8_format_23 : decode cX8_format 23 = .ok (.bipush 32, 2) := by decide +kernel
theorem dX8_format_25 : decode cX8_format 25 = .ok (.invokevirtual 301, 3) := by decide +kernel
theorem dX8_format_28 : decode cX8_format 28 = .ok (.aload_n 0, 1) := by decide +kernel
theorem dX8_format_29 : decode cX8_format 29 = .ok (.iload_n 1, 1) := by decide +kernel
theorem dX8_format_30 : decode cX8_format 30 = .ok (.invokevirtual 304, 3) := by decide +kernel
theorem dX8_format_33 : decode cX8_format 33 = .ok (.iinc 1 1, 3) := by decide +kernel
theorem dX8_format_36 : decode cX8_format 36 = .ok (.goto (-29), 3) := by decide +kernel
theorem dX8_format_39 : decode cX8_format 39 = .ok (.aload_n 0, 1) := by decide +kernel
theorem dX8_format_40 : decode cX8_format 40 = .ok (.getfield 77, 3) := by decide +kernel
theorem dX8_format_43 : decode cX8_format 43 = .ok (.ireturn, 1) := by decide +kernel
theorem dX8_formattedByte_0 : decode cX8_formattedByte 0 = .ok (.iload_n 1, 1) := by decide +kernel
theorem dX8_formattedByte_1 : decode cX8_formattedByte 1 = .ok (.ifCond .lt 20, 3) := by decide +kernel
theorem dX8_formattedByte_4 : decode cX8_formattedByte 4 = .ok (.iload_n 1, 1) := by decide +kernel
theorem dX8_formattedByte_5 : decode cX8_formattedByte 5 = .ok (.aload_n 0, 1) := by decide +kernel
theorem dX8_formattedByte_6 : decode cX8_formattedByte 6 = .ok (.getfield 77, 3) := by decide +kernel
theorem dX8_formattedByte_9 : decode cX8_formattedByte 9 = .ok (.if_icmp .ge 12, 3) := by decide +kernel
theorem dX8_formattedByte_12 : decode cX8_formattedByte 12 = .ok (.iload_n 1, 1) := by decide +kernel
theorem dX8_formattedByte_13 : decode cX8_formattedByte 13 = .ok (.aload_n 0, 1) := by decide +kernel
theorem dX8_formattedByte_14 : decode cX8_formattedByte 14 = .ok (.getfield 73, 3) := by decide +kernel
theorem dX8_formattedByte_17 : decode cX8_formattedByte 17 = .ok (.arraylength, 1) := by decide +kernel
theorem dX8_formattedByte_18 : decode cX8_formattedByte 18 = .ok (.if_icmp .lt 5, 3) := by decide +kernel
theorem dX8_formattedByte_21 : decode cX8_formattedByte 21 = .ok (.iconst (-1), 1) := by decide +kernel
theorem dX8_formattedByte_22 : decode cX8_formattedByte 22 = .ok (.ireturn, 1) := by decide +kernel
theorem dX8_formattedByte_23 : decode cX8_formattedByte 23 = .ok (.aload_n 0, 1) := by decide +kernel
theorem dX8_formattedByte_24 : decode cX8_formattedByte 24 = .ok (.getfield 73, 3) := by decide +kernel
theorem dX8_formattedByte_27 : decode cX8_formattedByte 27 = .ok (.iload_n 1, 1) := by decide +kernel
theorem dX8_formattedByte_28 : decode cX8_formattedByte 28 = .ok (.iaload, 1) := by decide +kernel
theorem dX8_formattedByte_29 : decode cX8_formattedByte 29 = .ok (.ireturn, 1) := by decide +kernel
theorem dX8_undoCount_0 : decode cX8_undoCount 0 = .ok (.aload_n 0, 1) := by decide +kernel
theorem dX8_undoCount_1 : decode cX8_undoCount 1 = .ok (.getfield 22, 3) := by decide +kernel
theorem dX8_undoCount_4 : decode cX8_undoCount 4 = .ok (.getfield 307, 3) := by decide +kernel
theorem dX8_undoCount_7 : decode cX8_undoCount 7 = .ok (.ireturn, 1) := by decide +kernel
set_option maxRecDepth 20000 in
theorem ggX8_undo_X1_takeBack : GoodIn wsX8_undo wsX1_takeBack := goodIn_r _ [8, 9, 10, 11, 12, 13, 14, 15, 16, 17, 18, 19, 20, 21, 22, 23, 24, 25, 26, 27, 28, 29, 30, 31, 32, 33, 34, 35, 36, 37, 38, 39, 54, 55, 56, 57, 58, 59, 60, 61, 62, 63, 64, 65, 66, 67, 68, 69, 70, 71, 72, 73, 74, 75, 76, 77] (by decide +kernel) (by decide +kernel)
set_option maxRecDepth 20000 in
theorem gX8_undo_X1_takeBack : GoodIn wsX8_undo (wsV RX8 310 RX1 yX1_takeBack wsX1_takeBack) := goodIn_app (goodIn_of _ (by decide +kernel)) ggX8_undo_X1_takeBack
theorem dX8_undo_0 : decode cX8_undo 0 = .ok (.aload_n 0, 1) := by decide +kernel
theorem dX8_undo_1 : decode cX8_undo 1 = .ok (.getfield 22, 3) := by decide +kernel
theorem dX8_undo_4 : decode cX8_undo 4 = .ok (.aload_n 0, 1) := by decide +kernel
theorem dX8_undo_5 : decode cX8_undo 5 = .ok (.getfield 10, 3) := by decide +kernel
theorem dX8_undo_8 : decode cX8_undo 8 = .ok (.invokevirtual 310, 3) := by decide +kernel
theorem dX8_undo_11 : decode cX8_undo 11 = .ok (.ifCond .eq 13, 3) := by decide +kernel
theorem dX8_undo_14 : decode cX8_undo 14 = .ok (.aload_n 0, 1) := by decide +kernel
theorem dX8_undo_15 : decode cX8_undo 15 = .ok (.getfield 22, 3) := by decide +kernel
theorem dX8_undo_18 : decode cX8_undo 18 = .ok (.getfield 307, 3) := by decide +kernel
theorem dX8_undo_21 : decode cX8_undo 21 = .ok (.goto 4, 3) := by decide +kernel
theorem dX8_undo_24 : decode cX8_undo 24 = .ok (.iconst (-1), 1) := by decide +kernel
theorem dX8_undo_25 : decode cX8_undo 25 = .ok (.ireturn, 1) := by decide +kernel
set_option maxRecDepth 20000 in
theorem ggX8_saveSnapshot_X1_keepSnapshot : GoodIn wsX8_saveSnapshot wsX1_keepSnapshot := goodIn_r _ [7, 8, 9, 10, 11, 12, 13, 14, 15, 16, 17, 18, 19, 20, 21, 22, 23, 24, 25, 26, 27, 28, 29, 30, 31, 32, 33, 34, 35, 36, 37, 52, 53, 54, 55, 56, 57, 58, 59, 60, 61, 62, 63, 64, 65, 66, 67, 68, 69, 70, 71, 72, 73, 74, 75] (by decide +kernel) (by decide +kernel)
set_option maxRecDepth 20000 in
theorem gX8_saveSnapshot_X1_keepSnapshot : GoodIn wsX8_saveSnapshot (wsV RX8 314 RX1 yX1_keepSnapshot wsX1_keepSnapshot) := goodIn_app (goodIn_of _ (by decide +kernel)) ggX8_saveSnapshot_X1_keepSnapshot
theorem dX8_saveSnapshot_0 : decode cX8_saveSnapshot 0 = .ok (.aload_n 0, 1) := by decide +kernel
theorem dX8_saveSnapshot_1 : decode cX8_saveSnapshot 1 = .ok (.getfield 22, 3) := by decide +kernel
theorem dX8_saveSnapshot_4 : decode cX8_saveSnapshot 4 = .ok (.aload_n 0, 1) := by decide +kernel
theorem dX8_saveSnapshot_5 : decode cX8_saveSnapshot 5 = .ok (.getfield 10, 3) := by decide +kernel
theorem dX8_saveSnapshot_8 : decode cX8_saveSnapshot 8 = .ok (.invokevirtual 314, 3) := by decide +kernel
theorem dX8_saveSnapshot_11 : decode cX8_saveSnapshot 11 = .ok (.return_, 1) := by decide +kernel
set_option maxRecDepth 20000 in
theorem ggX8_restoreSnapshot_X1_bringSnapshot : GoodIn wsX8_restoreSnapshot wsX1_bringSnapshot := goodIn_r _ [7, 8, 9, 10, 11, 12, 13, 14, 15, 16, 17, 18, 19, 20, 21, 22, 23, 24, 25, 26, 27, 28, 29, 30, 31, 32, 33, 34, 35, 36, 37, 38, 53, 54, 55, 56, 57, 58, 59, 60, 61, 62, 63, 64, 65, 66, 67, 68, 69, 70, 71, 72, 73, 74, 75, 76] (by decide +kernel) (by decide +kernel)
set_option maxRecDepth 20000 in
theorem gX8_restoreSnapshot_X1_bringSnapshot : GoodIn wsX8_restoreSnapshot (wsV RX8 317 RX1 yX1_bringSnapshot wsX1_bringSnapshot) := goodIn_app (goodIn_of _ (by decide +kernel)) ggX8_restoreSnapshot_X1_bringSnapshot
theorem dX8_restoreSnapshot_0 : decode cX8_restoreSnapshot 0 = .ok (.aload_n 0, 1) := by decide +kernel
theorem dX8_restoreSnapshot_1 : decode cX8_restoreSnapshot 1 = .ok (.getfield 22, 3) := by decide +kernel
theorem dX8_restoreSnapshot_4 : decode cX8_restoreSnapshot 4 = .ok (.aload_n 0, 1) := by decide +kernel
theorem dX8_restoreSnapshot_5 : decode cX8_restoreSnapshot 5 = .ok (.getfield 10, 3) := by decide +kernel
theorem dX8_restoreSnapshot_8 : decode cX8_restoreSnapshot 8 = .ok (.invokevirtual 317, 3) := by decide +kernel
theorem dX8_restoreSnapshot_11 : decode cX8_restoreSnapshot 11 = .ok (.ireturn, 1) := by decide +kernel
set_option maxRecDepth 20000 in
theorem ggX8_query_X8_needRange : GoodIn wsX8_query wsX8_needRange := goodIn_ca (goodIn_r _ [14, 15, 16] (by decide +kernel) (by decide +kernel)) (goodIn_sub (fun _ h => List.mem_cons_of_mem _ (List.mem_append_right _ h)) (by decide +kernel))
set_option maxRecDepth 20000 in
theorem gX8_query_X8_needRange : GoodIn wsX8_query (va_wsS RX8 97 yX8_needRange wsX8_needRange) := goodIn_app (goodIn_of _ (by decide +kernel)) ggX8_query_X8_needRange
set_option maxRecDepth 20000 in
theorem ggX8_query_X7_begin : GoodIn wsX8_query wsX7_begin := goodIn_r _ [21, 22, 4, 5, 6, 23, 24, 25, 26, 27, 20, 28, 29, 30, 31, 32, 33, 34, 35, 281, 282, 283, 284, 285, 286, 287] (by decide +kernel) (by decide +kernel)
set_option maxRecDepth 20000 in
theorem gX8_query_X7_begin : GoodIn wsX8_query (wsV RX8 101 RX7 yX7_begin wsX7_begin) := goodIn_app (goodIn_of _ (by decide +kernel)) ggX8_query_X7_begin
set_option maxRecDepth 20000 in
theorem ggX8_query_X8_measured : GoodIn wsX8_query wsX8_measured := goodIn_r _ [39, 40, 41, 8, 42, 43, 44, 45, 46, 47, 48, 49, 50, 51, 52, 53, 54, 55, 56, 57, 58, 59, 60, 61, 62, 5, 63, 64, 65, 66, 67, 68, 69, 70, 71, 72, 73, 74, 75, 76, 77, 13, 78, 79, 80, 81, 82, 83, 84, 85, 86, 87, 88, 89, 90, 91, 92, 93, 94, 95, 96, 97, 98, 99, 100, 101, 267, 268, 269, 270, 271, 272, 273, 274, 275, 276, 277, 278, 279, 280, 293, 294, 295, 296, 297, 298, 299, 300, 301, 302, 303, 304, 305, 306, 307, 308, 309, 310, 311, 312, 313, 314, 315, 316, 317, 318, 319] (by decide +kernel) (by decide +kernel)
set_option maxRecDepth 20000 in
theorem gX8_query_X8_measured : GoodIn wsX8_query (wsV RX8 135 RX8 yX8_measured wsX8_measured) := goodIn_app (goodIn_of _ (by decide +kernel)) ggX8_query_X8_measured
set_option maxRecDepth 20000 in
theorem ggX8_query_X5_readQuery : GoodIn wsX8_query wsX5_readQuery := goodIn_r _ [106, 107, 108, 109, 110, 111, 112, 20, 113, 32, 24, 30, 29, 114, 115, 116, 117, 118, 119, 120, 121, 122, 123, 124, 125, 126, 127, 128, 129, 130, 131, 132, 133, 134, 135, 136, 137, 138, 139, 140, 141, 142, 143, 144, 145, 146, 147, 148, 149, 150, 151, 152, 153, 154, 155, 156, 157, 158, 159, 160, 161, 162, 163, 26, 27, 28, 23, 31, 33, 34, 35, 164, 165, 166, 105, 167, 168, 169, 170, 171, 172, 173, 174, 175, 176, 177, 178, 179, 180, 181, 182, 183, 184, 185, 186, 187, 188, 189, 190, 191, 192, 193, 194, 195, 196, 197, 198, 199, 200, 201, 62, 5, 63, 202, 203, 204, 205, 206, 207, 208, 73, 209, 210, 211, 212, 213, 214, 215, 216, 217, 218, 219, 220, 221, 46, 222, 49, 223, 224, 225, 226, 227, 75, 228, 229, 230, 231, 232, 233, 234, 235, 236, 237, 238, 239, 240, 241, 242, 243, 244, 245, 246, 247, 248, 249, 250, 251, 252, 253, 254, 255, 256, 257, 258, 259, 13, 260, 288, 289, 290, 291, 292, 281, 282, 283, 284, 285, 286, 287, 301, 302, 303, 304, 305, 306, 307, 308, 309, 310, 311, 312, 313, 314, 315, 316, 317, 318, 319, 293, 294, 295, 296, 297, 298, 299, 300] (by decide +kernel) (by decide +kernel)
set_option maxRecDepth 20000 in
theorem gX8_query_X5_readQuery : GoodIn wsX8_query (wsV RX8 325 RX5 yX5_readQuery wsX5_readQuery) := goodIn_app (goodIn_of _ (by decide +kernel)) ggX8_query_X5_readQuery
set_option maxRecDepth 20000 in
theorem ggX8_query_X8_endReading : GoodIn wsX8_query wsX8_endReading := goodIn_r _ [264, 1, 265, 266, 2, 267, 268, 269, 270, 271, 272, 273, 274, 275, 276, 277, 278, 279, 280, 281, 282, 283, 284, 285, 286, 287] (by decide +kernel) (by decide +kernel)
set_option maxRecDepth 20000 in
theorem gX8_query_X8_endReading : GoodIn wsX8_query (wsV RX8 106 RX8 yX8_endReading wsX8_endReading) := goodIn_app (goodIn_of _ (by decide +kernel)) ggX8_query_X8_endReading
theorem dX8_query_0 : decode cX8_query 0 = .ok (.iload_n 1, 1) := by decide +kernel
theorem dX8_query_1 : decode cX8_query 1 = .ok (.iconst 0, 1) := by decide +kernel
theorem dX8_query_2 : decode cX8_query 2 = .ok (.sipush 200, 3) := by decide +kernel
theorem dX8_query_5 : decode cX8_query 5 = .ok (.aload_n 0, 1) := by decide +kernel
theorem dX8_query_6 : decode cX8_query 6 = .ok (.getfield 53, 3) := by decide +kernel
theorem dX8_query_9 : decode cX8_query 9 = .ok (.getfield 91, 3) := by decide +kernel
theorem dX8_query_12 : decode cX8_query 12 = .ok (.invokestatic 320, 3) := by decide +kernel
theorem dX8_query_15 : decode cX8_query 15 = .ok (.invokestatic 97, 3) := by decide +kernel
theorem dX8_query_18 : decode cX8_query 18 = .ok (.aload_n 0, 1) := by decide +kernel
theorem dX8_query_19 : decode cX8_query 19 = .ok (.getfield 53, 3) := by decide +kernel
theorem dX8_query_22 : decode cX8_query 22 = .ok (.iload_n 1, 1) := by decide +kernel
theorem dX8_query_23 : decode cX8_query 23 = .ok (.invokevirtual 101, 3) := by decide +kernel
theorem dX8_query_26 : decode cX8_query 26 = .ok (.aload_n 0, 1) := by decide +kernel
theorem dX8_query_27 : decode cX8_query 27 = .ok (.getfield 69, 3) := by decide +kernel
theorem dX8_query_30 : decode cX8_query 30 = .ok (.aload_n 0, 1) := by decide +kernel
theorem dX8_query_31 : decode cX8_query 31 = .ok (.getfield 10, 3) := by decide +kernel
theorem dX8_query_34 : decode cX8_query 34 = .ok (.aload_n 0, 1) := by decide +kernel
theorem dX8_query_35 : decode cX8_query 35 = .ok (.invokevirtual 135, 3) := by decide +kernel
theorem dX8_query_38 : decode cX8_query 38 = .ok (.invokevirtual 325, 3) := by decide +kernel
theorem dX8_query_41 : decode cX8_query 41 = .ok (.istore_n 2, 1) := by decide +kernel
theorem dX8_query_42 : decode cX8_query 42 = .ok (.aload_n 0, 1) := by decide +kernel
theorem dX8_query_43 : decode cX8_query 43 = .ok (.iload_n 2, 1) := by decide +kernel
theorem dX8_query_44 : decode cX8_query 44 = .ok (.invokevirtual 106, 3) := by decide +kernel
theorem dX8_query_47 : decode cX8_query 47 = .ok (.iload_n 2, 1) := by decide +kernel
theorem dX8_query_48 : decode cX8_query 48 = .ok (.ifCond .ne 13, 3) := by decide +kernel
theorem dX8_query_51 : decode cX8_query 51 = .ok (.aload_n 0, 1) := by decide +kernel
theorem dX8_query_52 : decode cX8_query 52 = .ok (.getfield 69, 3) := by decide +kernel
theorem dX8_query_55 : decode cX8_query 55 = .ok (.getfield 329, 3) := by decide +kernel
theorem dX8_query_58 : decode cX8_query 58 = .ok (.goto 8, 3) := by decide +kernel
theorem dX8_query_61 : decode cX8_query 61 = .ok (.ldc_w 332, 3) := by decide +kernel
theorem dX8_query_64 : decode cX8_query 64 = .ok (.iload_n 2, 1) := by decide +kernel
theorem dX8_query_65 : decode cX8_query 65 = .ok (.isub, 1) := by decide +kernel
theorem dX8_query_66 : decode cX8_query 66 = .ok (.ireturn, 1) := by decide +kernel
set_option maxRecDepth 20000 in
theorem ggX8_needRoom_X2_hasRoom : GoodIn wsX8_needRoom wsX2_hasRoom := goodIn_r _ [8, 9, 24, 25, 26, 27, 28, 29, 30, 31, 32, 33, 34, 35, 36, 37, 38, 39, 40, 41, 42] (by decide +kernel) (by decide +kernel)
set_option maxRecDepth 20000 in
theorem gX8_needRoom_X2_hasRoom : GoodIn wsX8_needRoom (wsV RX8 333 RX2 yX2_hasRoom wsX2_hasRoom) := goodIn_app (goodIn_of _ (by decide +kernel)) ggX8_needRoom_X2_hasRoom
theorem dX8_needRoom_0 : decode cX8_needRoom 0 = .ok (.aload_n 0, 1) := by decide +kernel
theorem dX8_needRoom_1 : decode cX8_needRoom 1 = .ok (.getfield 10, 3) := by decide +kernel
theorem dX8_needRoom_4 : decode cX8_needRoom 4 = .ok (.iload_n 1, 1) := by decide +kernel
theorem dX8_needRoom_5 : decode cX8_needRoom 5 = .ok (.invokevirtual 333, 3) := by decide +kernel
theorem dX8_needRoom_8 : decode cX8_needRoom 8 = .ok (.ifCond .ne 14, 3) := by decide +kernel
theorem dX8_needRoom_11 : decode cX8_needRoom 11 = .ok (.new 154, 3) := by decide +kernel
theorem dX8_needRoom_14 : decode cX8_needRoom 14 = .ok (.dup, 1) := by decide +kernel
theorem dX8_needRoom_15 : decode cX8_needRoom 15 = .ok (.ldc_w 336, 3) := by decide +kernel
theorem dX8_needRoom_18 : decode cX8_needRoom 18 = .ok (.invokespecial 158, 3) := by decide +kernel
theorem dX8_needRoom_21 : decode cX8_needRoom 21 = .ok (.athrow, 1) := by decide +kernel
theorem dX8_needRoom_22 : decode cX8_needRoom 22 = .ok (.return_, 1) := by decide +kernel
set_option maxRecDepth 20000 in
theorem ggX8_needDoor_X2_hasDoor : GoodIn wsX8_needDoor wsX2_hasDoor := goodIn_r _ [8, 9, 24, 25, 26, 27, 28, 29, 30, 31, 32, 33, 34, 35, 36, 37, 38, 39, 40, 41, 42] (by decide +kernel) (by decide +kernel)
set_option maxRecDepth 20000 in
theorem gX8_needDoor_X2_hasDoor : GoodIn wsX8_needDoor (wsV RX8 338 RX2 yX2_hasDoor wsX2_hasDoor) := goodIn_app (goodIn_of _ (by decide +kernel)) ggX8_needDoor_X2_hasDoor
theorem dX8_needDoor_0 : decode cX8_needDoor 0 = .ok (.aload_n 0, 1) := by decide +kernel
theorem dX8_needDoor_1 : decode cX8_needDoor 1 = .ok (.getfield 10, 3) := by decide +kernel
theorem dX8_needDoor_4 : decode cX8_needDoor 4 = .ok (.iload_n 1, 1) := by decide +kernel
theorem dX8_needDoor_5 : decode cX8_needDoor 5 = .ok (.invokevirtual 338, 3) := by decide +kernel
theorem dX8_needDoor_8 : decode cX8_needDoor 8 = .ok (.ifCond .ne 14, 3) := by decide +kernel
theorem dX8_needDoor_11 : decode cX8_needDoor 11 = .ok (.new 154, 3) := by decide +kernel
theorem dX8_needDoor_14 : decode cX8_needDoor 14 = .ok (.dup, 1) := by decide +kernel
theorem dX8_needDoor_15 : decode cX8_needDoor 15 = .ok (.ldc_w 341, 3) := by decide +kernel
theorem dX8_needDoor_18 : decode cX8_needDoor 18 = .ok (.invokespecial 158, 3) := by decide +kernel
theorem dX8_needDoor_21 : decode cX8_needDoor 21 = .ok (.athrow, 1) := by decide +kernel
theorem dX8_needDoor_22 : decode cX8_needDoor 22 = .ok (.return_, 1) := by decide +kernel
set_option maxRecDepth 20000 in
theorem ggX8_needGuard_X2_hasGuard : GoodIn wsX8_needGuard wsX2_hasGuard := goodIn_r _ [8, 9, 24, 25, 26, 27, 28, 29, 30, 31, 32, 33, 34, 35, 36, 37, 38, 39, 40, 41, 42] (by decide +kernel) (by decide +kernel)
set_option maxRecDepth 20000 in
theorem gX8_needGuard_X2_hasGuard : GoodIn wsX8_needGuard (wsV RX8 343 RX2 yX2_hasGuard wsX2_hasGuard) := goodIn_app (goodIn_of _ (by decide +kernel)) ggX8_needGuard_X2_hasGuard
theorem dX8_needGuard_0 : decode cX8_needGuard 0 = .ok (.aload_n 0, 1) := by decide +kernel
theorem dX8_needGuard_1 : decode cX8_needGuard 1 = .ok (.getfield 10, 3) := by decide +kernel
theorem dX8_needGuard_4 : decode cX8_needGuard 4 = .ok (.iload_n 1, 1) := by decide +kernel
theorem dX8_needGuard_5 : decode cX8_needGuard 5 = .ok (.invokevirtual 343, 3) := by decide +kernel
theorem dX8_needGuard_8 : decode cX8_needGuard 8 = .ok (.ifCond .ne 14, 3) := by decide +kernel
theorem dX8_needGuard_11 : decode cX8_needGuard 11 = .ok (.new 154, 3) := by decide +kernel
theorem dX8_needGuard_14 : decode cX8_needGuard 14 = .ok (.dup, 1) := by decide +kernel
theorem dX8_needGuard_15 : decode cX8_needGuard 15 = .ok (.ldc_w 346, 3) := by decide +kernel
theorem dX8_needGuard_18 : decode cX8_needGuard 18 = .ok (.invokespecial 158, 3) := by decide +kernel
theorem dX8_needGuard_21 : decode cX8_needGuard 21 = .ok (.athrow, 1) := by decide +kernel
theorem dX8_needGuard_22 : decode cX8_needGuard 22 = .ok (.return_, 1) := by decide +kernel
theorem dX8_needRange_0 : decode cX8_needRange 0 = .ok (.iload_n 0, 1) := by decide +kernel
theorem dX8_needRange_1 : decode cX8_needRange 1 = .ok (.iload_n 1, 1) := by decide +kernel
theorem dX8_needRange_2 : decode cX8_needRange 2 = .ok (.if_icmp .lt 8, 3) := by decide +kernel
theorem dX8_needRange_5 : decode cX8_needRange 5 = .ok (.iload_n 0, 1) := by decide +kernel
theorem dX8_needRange_6 : decode cX8_needRange 6 = .ok (.iload_n 2, 1) := by decide +kernel
theorem dX8_needRange_7 : decode cX8_needRange 7 = .ok (.if_icmp .le 14, 3) := by decide +kernel
theorem dX8_needRange_10 : decode cX8_needRange 10 = .ok (.new 348, 3) := by decide +kernel
theorem dX8_needRange_13 : decode cX8_needRange 13 = .ok (.dup, 1) := by decide +kernel
theorem dX8_needRange_14 : decode cX8_needRange 14 = .ok (.ldc_w 350, 3) := by decide +kernel
theorem dX8_needRange_17 : decode cX8_needRange 17 = .ok (.invokespecial 352, 3) := by decide +kernel
theorem dX8_needRange_20 : decode cX8_needRange 20 = .ok (.athrow, 1) := by decide +kernel
theorem dX8_needRange_21 : decode cX8_needRange 21 = .ok (.return_, 1) := by decide +kernel
theorem dX8_needNotNegative_0 : decode cX8_needNotNegative 0 = .ok (.iload_n 0, 1) := by decide +kernel
theorem dX8_needNotNegative_1 : decode cX8_needNotNegative 1 = .ok (.ifCond .ge 14, 3) := by decide +kernel
theorem dX8_needNotNegative_4 : decode cX8_needNotNegative 4 = .ok (.new 348, 3) := by decide +kernel
theorem dX8_needNotNegative_7 : decode cX8_needNotNegative 7 = .ok (.dup, 1) := by decide +kernel
theorem dX8_needNotNegative_8 : decode cX8_needNotNegative 8 = .ok (.ldc_w 353, 3) := by decide +kernel
theorem dX8_needNotNegative_11 : decode cX8_needNotNegative 11 = .ok (.invokespecial 352, 3) := by decide +kernel
theorem dX8_needNotNegative_14 : decode cX8_needNotNegative 14 = .ok (.athrow, 1) := by decide +kernel
theorem dX8_needNotNegative_15 : decode cX8_needNotNegative 15 = .ok (.return_, 1) := by decide +kernel
theorem dX8_endReading_0 : decode cX8_endReading 0 = .ok (.aload_n 0, 1) := by decide +kernel
theorem dX8_endReading_1 : decode cX8_endReading 1 = .ok (.iload_n 1, 1) := by decide +kernel
theorem dX8_endReading_2 : decode cX8_endReading 2 = .ok (.ifCond .ne 7, 3) := by decide +kernel
theorem dX8_endReading_5 : decode cX8_endReading 5 = .ok (.iconst (-1), 1) := by decide +kernel
theorem dX8_endReading_6 : decode cX8_endReading 6 = .ok (.goto 10, 3) := by decide +kernel
theorem dX8_endReading_9 : decode cX8_endReading 9 = .ok (.aload_n 0, 1) := by decide +kernel
theorem dX8_endReading_10 : decode cX8_endReading 10 = .ok (.getfield 53, 3) := by decide +kernel
theorem dX8_endReading_13 : decode cX8_endReading 13 = .ok (.getfield 355, 3) := by decide +kernel
theorem dX8_endReading_16 : decode cX8_endReading 16 = .ok (.putfield 81, 3) := by decide +kernel
theorem dX8_endReading_19 : decode cX8_endReading 19 = .ok (.aload_n 0, 1) := by decide +kernel
theorem dX8_endReading_20 : decode cX8_endReading 20 = .ok (.getfield 53, 3) := by decide +kernel
theorem dX8_endReading_23 : decode cX8_endReading 23 = .ok (.iconst 0, 1) := by decide +kernel
theorem dX8_endReading_24 : decode cX8_endReading 24 = .ok (.putfield 91, 3) := by decide +kernel
theorem dX8_endReading_27 : decode cX8_endReading 27 = .ok (.return_, 1) := by decide +kernel
theorem dX8_markPhasesChanged_0 : decode cX8_markPhasesChanged 0 = .ok (.aload_n 0, 1) := by decide +kernel
theorem dX8_markPhasesChanged_1 : decode cX8_markPhasesChanged 1 = .ok (.dup, 1) := by decide +kernel
theorem dX8_markPhasesChanged_2 : decode cX8_markPhasesChanged 2 = .ok (.getfield 84, 3) := by decide +kernel
theorem dX8_markPhasesChanged_5 : decode cX8_markPhasesChanged 5 = .ok (.iconst 1, 1) := by decide +kernel
theorem dX8_markPhasesChanged_6 : decode cX8_markPhasesChanged 6 = .ok (.iadd, 1) := by decide +kernel
theorem dX8_markPhasesChanged_7 : decode cX8_markPhasesChanged 7 = .ok (.putfield 84, 3) := by decide +kernel
theorem dX8_markPhasesChanged_10 : decode cX8_markPhasesChanged 10 = .ok (.aload_n 0, 1) := by decide +kernel
theorem dX8_markPhasesChanged_11 : decode cX8_markPhasesChanged 11 = .ok (.getfield 10, 3) := by decide +kernel
theorem dX8_markPhasesChanged_14 : decode cX8_markPhasesChanged 14 = .ok (.aload_n 0, 1) := by decide +kernel
theorem dX8_markPhasesChanged_15 : decode cX8_markPhasesChanged 15 = .ok (.getfield 84, 3) := by decide +kernel
theorem dX8_markPhasesChanged_18 : decode cX8_markPhasesChanged 18 = .ok (.putfield 358, 3) := by decide +kernel
theorem dX8_markPhasesChanged_21 : decode cX8_markPhasesChanged 21 = .ok (.return_, 1) := by decide +kernel
set_option maxRecDepth 20000 in
theorem ggX8_markWalksChanged_X8_markPhasesChanged : GoodIn wsX8_markWalksChanged wsX8_markPhasesChanged := goodIn_r _ [8, 2, 1, 9, 10, 11, 12, 13, 14, 15, 16, 17, 18, 19, 20, 21, 22, 23, 24, 25, 26, 27, 28, 29, 30, 31, 32, 33, 34, 35, 36, 37, 38, 39, 40, 41, 42] (by decide +kernel) (by decide +kernel)
set_option maxRecDepth 20000 in
theorem gX8_markWalksChanged_X8_markPhasesChanged : GoodIn wsX8_markWalksChanged (wsV RX8 288 RX8 yX8_markPhasesChanged wsX8_markPhasesChanged) := goodIn_app (goodIn_of _ (by decide +kernel)) ggX8_markWalksChanged_X8_markPhasesChanged
theorem dX8_markWalksChanged_0 : decode cX8_markWalksChanged 0 = .ok (.aload_n 0, 1) := by decide +kernel
theorem dX8_markWalksChanged_1 : decode cX8_markWalksChanged 1 = .ok (.invokevirtual 288, 3) := by decide +kernel
theorem dX8_markWalksChanged_4 : decode cX8_markWalksChanged 4 = .ok (.aload_n 0, 1) := by decide +kernel
theorem dX8_markWalksChanged_5 : decode cX8_markWalksChanged 5 = .ok (.getfield 10, 3) := by decide +kernel
theorem dX8_markWalksChanged_8 : decode cX8_markWalksChanged 8 = .ok (.aload_n 0, 1) := by decide +kernel
theorem dX8_markWalksChanged_9 : decode cX8_markWalksChanged 9 = .ok (.getfield 84, 3) := by decide +kernel
theorem dX8_markWalksChanged_12 : decode cX8_markWalksChanged 12 = .ok (.putfield 361, 3) := by decide +kernel
theorem dX8_markWalksChanged_15 : decode cX8_markWalksChanged 15 = .ok (.return_, 1) := by decide +kernel
set_option maxRecDepth 20000 in
theorem ggX8_measured_X6_measure : GoodIn wsX8_measured wsX6_measure := goodIn_r _ [9, 10, 11, 12, 13, 14, 15, 16, 17, 18, 19, 20, 21, 22, 23, 24, 25, 26, 27, 28, 29, 30, 31, 32, 33, 34, 35, 36, 37, 38, 39, 40, 41, 42, 43, 44, 45, 8, 46, 47, 48, 49, 50, 51, 52, 53, 54, 55, 56, 57, 58, 59, 60, 61, 62, 63, 64, 65, 80, 81, 82, 83, 84, 85, 86, 87, 88, 89, 90, 91, 92, 93, 94, 95, 96, 97, 98, 99, 100, 101, 102, 103, 104, 105, 106] (by decide +kernel) (by decide +kernel)
set_option maxRecDepth 20000 in
theorem gX8_measured_X6_measure : GoodIn wsX8_measured (wsV RX8 256 RX6 yX6_measure wsX6_measure) := goodIn_app (goodIn_of _ (by decide +kernel)) ggX8_measured_X6_measure
theorem dX8_measured_0 : decode cX8_measured 0 = .ok (.aload_n 0, 1) := by decide +kernel
theorem dX8_measured_1 : decode cX8_measured 1 = .ok (.getfield 29, 3) := by decide +kernel
theorem dX8_measured_4 : decode cX8_measured 4 = .ok (.getfield 364, 3) := by decide +kernel
theorem dX8_measured_7 : decode cX8_measured 7 = .ok (.aload_n 0, 1) := by decide +kernel
theorem dX8_measured_8 : decode cX8_measured 8 = .ok (.getfield 10, 3) := by decide +kernel
theorem dX8_measured_11 : decode cX8_measured 11 = .ok (.getfield 358, 3) := by decide +kernel
theorem dX8_measured_14 : decode cX8_measured 14 = .ok (.if_icmp .eq 14, 3) := by decide +kernel
theorem dX8_measured_17 : decode cX8_measured 17 = .ok (.aload_n 0, 1) := by decide +kernel
theorem dX8_measured_18 : decode cX8_measured 18 = .ok (.getfield 29, 3) := by decide +kernel
theorem dX8_measured_21 : decode cX8_measured 21 = .ok (.aload_n 0, 1) := by decide +kernel
theorem dX8_measured_22 : decode cX8_measured 22 = .ok (.getfield 10, 3) := by decide +kernel
theorem dX8_measured_25 : decode cX8_measured 25 = .ok (.invokevirtual 256, 3) := by decide +kernel
theorem dX8_measured_28 : decode cX8_measured 28 = .ok (.aload_n 0, 1) := by decide +kernel
theorem dX8_measured_29 : decode cX8_measured 29 = .ok (.getfield 29, 3) := by decide +kernel
theorem dX8_measured_32 : decode cX8_measured 32 = .ok (.areturn, 1) := by decide +kernel
set_option maxRecDepth 20000 in
theorem ggX8_best_X0_search : GoodIn wsX8_best wsX0_search := goodIn_r _ [9, 10, 11, 12, 13, 14, 15, 16, 17, 18, 19, 20, 21, 22, 23, 24, 25, 26, 27, 28, 29, 30, 31, 32, 33, 34, 35, 36, 37, 38, 39, 40, 41, 42, 43, 8, 44, 45, 46, 47, 48, 49, 50, 51, 52, 53, 54, 55, 56, 57, 58, 59, 60, 61, 62, 63, 64, 65, 66, 67, 68, 69, 70, 71, 72, 73, 74, 75, 76, 77, 78, 79, 80, 81, 82, 83, 84, 85, 86, 87, 88, 89, 90, 91, 92, 93, 94, 95, 96, 97, 98, 99, 100, 101, 102, 103, 104, 105, 106, 107, 108, 109, 110, 111, 112, 113, 114, 115, 116, 117, 118, 119, 120, 121, 122, 123, 124, 125, 126, 127, 128, 129, 130, 131, 132, 147, 148, 149, 150, 151, 152, 153, 154, 155, 156, 157, 158, 159, 160, 161, 162, 163, 164, 165, 166, 167, 168, 169, 170, 171, 172, 173, 174, 175, 176, 177, 178, 179, 180] (by decide +kernel) (by decide +kernel)
set_option maxRecDepth 20000 in
theorem gX8_best_X0_search : GoodIn wsX8_best (wsV RX8 368 RX0 yX0_search wsX0_search) := goodIn_app (goodIn_of _ (by decide +kernel)) ggX8_best_X0_search
theorem dX8_best_0 : decode cX8_best 0 = .ok (.aload_n 0, 1) := by decide +kernel
theorem dX8_best_1 : decode cX8_best 1 = .ok (.getfield 39, 3) := by decide +kernel
theorem dX8_best_4 : decode cX8_best 4 = .ok (.getfield 367, 3) := by decide +kernel
theorem dX8_best_7 : decode cX8_best 7 = .ok (.aload_n 0, 1) := by decide +kernel
theorem dX8_best_8 : decode cX8_best 8 = .ok (.getfield 10, 3) := by decide +kernel
theorem dX8_best_11 : decode cX8_best 11 = .ok (.getfield 361, 3) := by decide +kernel
theorem dX8_best_14 : decode cX8_best 14 = .ok (.if_icmp .eq 14, 3) := by decide +kernel
theorem dX8_best_17 : decode cX8_best 17 = .ok (.aload_n 0, 1) := by decide +kernel
theorem dX8_best_18 : decode cX8_best 18 = .ok (.getfield 39, 3) := by decide +kernel
theorem dX8_best_21 : decode cX8_best 21 = .ok (.aload_n 0, 1) := by decide +kernel
theorem dX8_best_22 : decode cX8_best 22 = .ok (.getfield 10, 3) := by decide +kernel
theorem dX8_best_25 : decode cX8_best 25 = .ok (.invokevirtual 368, 3) := by decide +kernel
theorem dX8_best_28 : decode cX8_best 28 = .ok (.aload_n 0, 1) := by decide +kernel
theorem dX8_best_29 : decode cX8_best 29 = .ok (.getfield 39, 3) := by decide +kernel
theorem dX8_best_32 : decode cX8_best 32 = .ok (.areturn, 1) := by decide +kernel
set_option maxRecDepth 20000 in
theorem ggX8_addFormattedRoom_X8_addFormatted : GoodIn wsX8_addFormattedRoom wsX8_addFormatted := goodIn_r _ [8, 9, 10, 95, 96, 97, 98, 99, 100, 101, 102, 103, 104, 105, 106, 107, 108] (by decide +kernel) (by decide +kernel)
set_option maxRecDepth 20000 in
theorem gX8_addFormattedRoom_X8_addFormatted : GoodIn wsX8_addFormattedRoom (wsV RX8 301 RX8 yX8_addFormatted wsX8_addFormatted) := goodIn_app (goodIn_of _ (by decide +kernel)) ggX8_addFormattedRoom_X8_addFormatted
set_option maxRecDepth 20000 in
theorem ggX8_addFormattedRoom_X2_guardsAt : GoodIn wsX8_addFormattedRoom wsX2_guardsAt := goodIn_r _ [15, 16, 17, 18, 19, 14, 20, 21, 22, 23, 24, 25, 26, 27, 109, 110, 111, 112, 113, 114, 115, 116, 117, 118, 119, 120, 121, 122, 123, 124, 125, 126, 127] (by decide +kernel) (by decide +kernel)
set_option maxRecDepth 20000 in
theorem gX8_addFormattedRoom_X2_guardsAt : GoodIn wsX8_addFormattedRoom (wsV RX8 238 RX2 yX2_guardsAt wsX2_guardsAt) := goodIn_app (goodIn_of _ (by decide +kernel)) ggX8_addFormattedRoom_X2_guardsAt
set_option maxRecDepth 20000 in
theorem ggX8_addFormattedRoom_X8_has : GoodIn wsX8_addFormattedRoom wsX8_has := goodIn_r _ [30] (by decide +kernel) (by decide +kernel)
set_option maxRecDepth 20000 in
theorem gX8_addFormattedRoom_X8_has : GoodIn wsX8_addFormattedRoom (va_wsS RX8 371 yX8_has wsX8_has) := goodIn_app (goodIn_of _ (by decide +kernel)) ggX8_addFormattedRoom_X8_has
set_option maxRecDepth 20000 in
theorem ggX8_addFormattedRoom_X8_measured : GoodIn wsX8_addFormattedRoom wsX8_measured := goodIn_r _ [34, 35, 36, 1, 37, 38, 39, 40, 41, 42, 43, 44, 45, 46, 47, 48, 49, 50, 51, 52, 53, 54, 55, 56, 57, 58, 59, 60, 61, 62, 63, 64, 65, 66, 67, 68, 14, 69, 16, 21, 70, 7, 71, 72, 73, 74, 75, 76, 77, 78, 79, 80, 81, 23, 24, 25, 26, 27, 82, 83, 84, 85, 86, 87, 88, 89, 95, 96, 97, 98, 99, 100, 101, 102, 103, 104, 105, 106, 107, 108, 128, 129, 130, 131, 132, 133, 134, 135, 109, 110, 111, 112, 113, 114, 115, 116, 117, 118, 119, 120, 121, 122, 123, 124, 125, 126, 127] (by decide +kernel) (by decide +kernel)
set_option maxRecDepth 20000 in
theorem gX8_addFormattedRoom_X8_measured : GoodIn wsX8_addFormattedRoom (wsV RX8 135 RX8 yX8_measured wsX8_measured) := goodIn_app (goodIn_of _ (by decide +kernel)) ggX8_addFormattedRoom_X8_measured
set_option maxRecDepth 20000 in
theorem ggX8_addFormattedRoom_X6_isLate : GoodIn wsX8_addFormattedRoom wsX6_isLate := goodIn_r _ [93, 44, 94, 128, 129, 130, 131, 132, 133, 134, 135, 109, 110, 111, 112, 113, 114, 115, 116, 117, 118, 119, 120, 121, 122, 123, 124, 125, 126, 127] (by decide +kernel) (by decide +kernel)
set_option maxRecDepth 20000 in
theorem gX8_addFormattedRoom_X6_isLate : GoodIn wsX8_addFormattedRoom (wsV RX8 189 RX6 yX6_isLate wsX6_isLate) := goodIn_app (goodIn_of _ (by decide +kernel)) ggX8_addFormattedRoom_X6_isLate
theorem dX8_addFormattedRoom_0 : decode cX8_addFormattedRoom 0 = .ok (.iload_n 1, 1) := by decide +kernel
theorem dX8_addFormattedRoom_1 : decode cX8_addFormattedRoom 1 = .ok (.bipush 10, 2) := by decide +kernel
theorem dX8_addFormattedRoom_3 : decode cX8_addFormattedRoom 3 = .ok (.if_icmp .lt 14, 3) := by decide +kernel
theorem dX8_addFormattedRoom_6 : decode cX8_addFormattedRoom 6 = .ok (.aload_n 0, 1) := by decide +kernel
theorem dX8_addFormattedRoom_7 : decode cX8_addFormattedRoom 7 = .ok (.bipush 48, 2) := by decide +kernel
theorem dX8_addFormattedRoom_9 : decode cX8_addFormattedRoom 9 = .ok (.iload_n 1, 1) := by decide +kernel
theorem dX8_addFormattedRoom_10 : decode cX8_addFormattedRoom 10 = .ok (.bipush 10, 2) := by decide +kernel
theorem dX8_addFormattedRoom_12 : decode cX8_addFormattedRoom 12 = .ok (.idiv, 1) := by decide +kernel
theorem dX8_addFormattedRoom_13 : decode cX8_addFormattedRoom 13 = .ok (.iadd, 1) := by decide +kernel
theorem dX8_addFormattedRoom_14 : decode cX8_addFormattedRoom 14 = .ok (.invokevirtual 301, 3) := by decide +kernel
theorem dX8_addFormattedRoom_17 : decode cX8_addFormattedRoom 17 = .ok (.aload_n 0, 1) := by decide +kernel
theorem dX8_addFormattedRoom_18 : decode cX8_addFormattedRoom 18 = .ok (.bipush 48, 2) := by decide +kernel
theorem dX8_addFormattedRoom_20 : decode cX8_addFormattedRoom 20 = .ok (.iload_n 1, 1) := by decide +kernel
theorem dX8_addFormattedRoom_21 : decode cX8_addFormattedRoom 21 = .ok (.bipush 10, 2) := by decide +kernel
theorem dX8_addFormattedRoom_23 : decode cX8_addFormattedRoom 23 = .ok (.irem, 1) := by decide +kernel
theorem dX8_addFormattedRoom_24 : decode cX8_addFormattedRoom 24 = .ok (.iadd, 1) := by decide +kernel
theorem dX8_addFormattedRoom_25 : decode cX8_addFormattedRoom 25 = .ok (.invokevirtual 301, 3) := by decide +kernel
theorem dX8_addFormattedRoom_28 : decode cX8_addFormattedRoom 28 = .ok (.aload_n 0, 1) := by decide +kernel
theorem dX8_addFormattedRoom_29 : decode cX8_addFormattedRoom 29 = .ok (.getfield 10, 3) := by decide +kernel
theorem dX8_addFormattedRoom_32 : decode cX8_addFormattedRoom 32 = .ok (.iload_n 1, 1) := by decide +kernel
theorem dX8_addFormattedRoom_33 : decode cX8_addFormattedRoom 33 = .ok (.aload_n 0, 1) := by decide +kernel
theorem dX8_addFormattedRoom_34 : decode cX8_addFormattedRoom 34 = .ok (.getfield 10, 3) := by decide +kernel
theorem dX8_addFormattedRoom_37 : decode cX8_addFormattedRoom 37 = .ok (.getfield 132, 3) := by decide +kernel
theorem dX8_addFormattedRoom_40 : decode cX8_addFormattedRoom 40 = .ok (.invokevirtual 238, 3) := by decide +kernel
theorem dX8_addFormattedRoom_43 : decode cX8_addFormattedRoom 43 = .ok (.istore_n 2, 1) := by decide +kernel
theorem dX8_addFormattedRoom_44 : decode cX8_addFormattedRoom 44 = .ok (.iconst 0, 1) := by decide +kernel
theorem dX8_addFormattedRoom_45 : decode cX8_addFormattedRoom 45 = .ok (.istore_n 3, 1) := by decide +kernel
theorem dX8_addFormattedRoom_46 : decode cX8_addFormattedRoom 46 = .ok (.iload_n 3, 1) := by decide +kernel
theorem dX8_addFormattedRoom_47 : decode cX8_addFormattedRoom 47 = .ok (.aload_n 0, 1) := by decide +kernel
theorem dX8_addFormattedRoom_48 : decode cX8_addFormattedRoom 48 = .ok (.getfield 10, 3) := by decide +kernel
theorem dX8_addFormattedRoom_51 : decode cX8_addFormattedRoom 51 = .ok (.getfield 125, 3) := by decide +kernel
theorem dX8_addFormattedRoom_54 : decode cX8_addFormattedRoom 54 = .ok (.if_icmp .ge 25, 3) := by decide +kernel
theorem dX8_addFormattedRoom_57 : decode cX8_addFormattedRoom 57 = .ok (.iload_n 2, 1) := by decide +kernel
theorem dX8_addFormattedRoom_58 : decode cX8_addFormattedRoom 58 = .ok (.iload_n 3, 1) := by decide +kernel
theorem dX8_addFormattedRoom_59 : decode cX8_addFormattedRoom 59 = .ok (.invokestatic 371, 3) := by decide +kernel
theorem dX8_addFormattedRoom_62 : decode cX8_addFormattedRoom 62 = .ok (.ifCond .eq 11, 3) := by decide +kernel
theorem dX8_addFormattedRoom_65 : decode cX8_addFormattedRoom 65 = .ok (.aload_n 0, 1) := by decide +kernel
theorem dX8_addFormattedRoom_66 : decode cX8_addFormattedRoom 66 = .ok (.bipush 97, 2) := by decide +kernel
theorem dX8_addFormattedRoom_68 : decode cX8_addFormattedRoom 68 = .ok (.iload_n 3, 1) := by decide +kernel
theorem dX8_addFormattedRoom_69 : decode cX8_addFormattedRoom 69 = .ok (.iadd, 1) := by decide +kernel
theorem dX8_addFormattedRoom_70 : decode cX8_addFormattedRoom 70 = .ok (.invokevirtual 301, 3) := by decide +kernel
theorem dX8_addFormattedRoom_73 : decode cX8_addFormattedRoom 73 = .ok (.iinc 3 1, 3) := by decide +kernel
theorem dX8_addFormattedRoom_76 : decode cX8_addFormattedRoom 76 = .ok (.goto (-30), 3) := by decide +kernel
theorem dX8_addFormattedRoom_79 : decode cX8_addFormattedRoom 79 = .ok (.aload_n 0, 1) := by decide +kernel
theorem dX8_addFormattedRoom_80 : decode cX8_addFormattedRoom 80 = .ok (.invokevirtual 135, 3) := by decide +kernel
theorem dX8_addFormattedRoom_83 : decode cX8_addFormattedRoom 83 = .ok (.aload_n 0, 1) := by decide +kernel
theorem dX8_addFormattedRoom_84 : decode cX8_addFormattedRoom 84 = .ok (.getfield 10, 3) := by decide +kernel
theorem dX8_addFormattedRoom_87 : decode cX8_addFormattedRoom 87 = .ok (.iload_n 1, 1) := by decide +kernel
theorem dX8_addFormattedRoom_88 : decode cX8_addFormattedRoom 88 = .ok (.invokevirtual 189, 3) := by decide +kernel
theorem dX8_addFormattedRoom_91 : decode cX8_addFormattedRoom 91 = .ok (.ifCond .eq 9, 3) := by decide +kernel
theorem dX8_addFormattedRoom_94 : decode cX8_addFormattedRoom 94 = .ok (.aload_n 0, 1) := by decide +kernel
theorem dX8_addFormattedRoom_95 : decode cX8_addFormattedRoom 95 = .ok (.bipush 33, 2) := by decide +kernel
theorem dX8_addFormattedRoom_97 : decode cX8_addFormattedRoom 97 = .ok (.invokevirtual 301, 3) := by decide +kernel
theorem dX8_addFormattedRoom_100 : decode cX8_addFormattedRoom 100 = .ok (.return_, 1) := by decide +kernel
theorem dX8_addFormatted_0 : decode cX8_addFormatted 0 = .ok (.aload_n 0, 1) := by decide +kernel
theorem dX8_addFormatted_1 : decode cX8_addFormatted 1 = .ok (.getfield 77, 3) := by decide +kernel
theorem dX8_addFormatted_4 : decode cX8_addFormatted 4 = .ok (.ifCond .lt 35, 3) := by decide +kernel
theorem dX8_addFormatted_7 : decode cX8_addFormatted 7 = .ok (.aload_n 0, 1) := by decide +kernel
theorem dX8_addFormatted_8 : decode cX8_addFormatted 8 = .ok (.getfield 77, 3) := by decide +kernel
theorem dX8_addFormatted_11 : decode cX8_addFormatted 11 = .ok (.aload_n 0, 1) := by decide +kernel
theorem dX8_addFormatted_12 : decode cX8_addFormatted 12 = .ok (.getfield 73, 3) := by decide +kernel
theorem dX8_addFormatted_15 : decode cX8_addFormatted 15 = .ok (.arraylength, 1) := by decide +kernel
theorem dX8_addFormatted_16 : decode cX8_addFormatted 16 = .ok (.if_icmp .ge 23, 3) := by decide +kernel
theorem dX8_addFormatted_19 : decode cX8_addFormatted 19 = .ok (.aload_n 0, 1) := by decide +kernel
theorem dX8_addFormatted_20 : decode cX8_addFormatted 20 = .ok (.getfield 73, 3) := by decide +kernel
theorem dX8_addFormatted_23 : decode cX8_addFormatted 23 = .ok (.aload_n 0, 1) := by decide +kernel
theorem dX8_addFormatted_24 : decode cX8_addFormatted 24 = .ok (.getfield 77, 3) := by decide +kernel
theorem dX8_addFormatted_27 : decode cX8_addFormatted 27 = .ok (.iload_n 1, 1) := by decide +kernel
theorem dX8_addFormatted_28 : decode cX8_addFormatted 28 = .ok (.iastore, 1) := by decide +kernel
theorem dX8_addFormatted_29 : decode cX8_addFormatted 29 = .ok (.aload_n 0, 1) := by decide +kernel
theorem dX8_addFormatted_30 : decode cX8_addFormatted 30 = .ok (.dup, 1) := by decide +kernel
theorem dX8_addFormatted_31 : decode cX8_addFormatted 31 = .ok (.getfield 77, 3) := by decide +kernel
theorem dX8_addFormatted_34 : decode cX8_addFormatted 34 = .ok (.iconst 1, 1) := by decide +kernel
theorem dX8_addFormatted_35 : decode cX8_addFormatted 35 = .ok (.iadd, 1) := by decide +kernel
theorem dX8_addFormatted_36 : decode cX8_addFormatted 36 = .ok (.putfield 77, 3) := by decide +kernel
theorem dX8_addFormatted_39 : decode cX8_addFormatted 39 = .ok (.return_, 1) := by decide +kernel
theorem dX8_has_0 : decode cX8_has 0 = .ok (.iload_n 0, 1) := by decide +kernel
theorem dX8_has_1 : decode cX8_has 1 = .ok (.iload_n 1, 1) := by decide +kernel
theorem dX8_has_2 : decode cX8_has 2 = .ok (.ishr, 1) := by decide +kernel
theorem dX8_has_3 : decode cX8_has 3 = .ok (.iconst 1, 1) := by decide +kernel
theorem dX8_has_4 : decode cX8_has 4 = .ok (.iand, 1) := by decide +kernel
theorem dX8_has_5 : decode cX8_has 5 = .ok (.ifCond .eq 7, 3) := by decide +kernel
theorem dX8_has_8 : decode cX8_has 8 = .ok (.iconst 1, 1) := by decide +kernel
theorem dX8_has_9 : decode cX8_has 9 = .ok (.goto 4, 3) := by decide +kernel
theorem dX8_has_12 : decode cX8_has 12 = .ok (.iconst 0, 1) := by decide +kernel
theorem dX8_has_13 : decode cX8_has 13 = .ok (.ireturn, 1) := by decide +kernel
theorem dX8_leastMultiple_0 : decode cX8_leastMultiple 0 = .ok (.iload_n 1, 1) := by decide +kernel
theorem dX8_leastMultiple_1 : decode cX8_leastMultiple 1 = .ok (.iconst 1, 1) := by decide +kernel
theorem dX8_leastMultiple_2 : decode cX8_leastMultiple 2 = .ok (.if_icmp .ge 5, 3) := by decide +kernel
theorem dX8_leastMultiple_5 : decode cX8_leastMultiple 5 = .ok (.iload_n 0, 1) := by decide +kernel
theorem dX8_leastMultiple_6 : decode cX8_leastMultiple 6 = .ok (.ireturn, 1) := by decide +kernel
theorem dX8_leastMultiple_7 : decode cX8_leastMultiple 7 = .ok (.iconst 1, 1) := by decide +kernel
theorem dX8_leastMultiple_8 : decode cX8_leastMultiple 8 = .ok (.istore_n 2, 1) := by decide +kernel
theorem dX8_leastMultiple_9 : decode cX8_leastMultiple 9 = .ok (.iload_n 2, 1) := by decide +kernel
theorem dX8_leastMultiple_10 : decode cX8_leastMultiple 10 = .ok (.iload_n 1, 1) := by decide +kernel
theorem dX8_leastMultiple_11 : decode cX8_leastMultiple 11 = .ok (.if_icmp .ge 21, 3) := by decide +kernel
theorem dX8_leastMultiple_14 : decode cX8_leastMultiple 14 = .ok (.iload_n 0, 1) := by decide +kernel
theorem dX8_leastMultiple_15 : decode cX8_leastMultiple 15 = .ok (.iload_n 2, 1) := by decide +kernel
theorem dX8_leastMultiple_16 : decode cX8_leastMultiple 16 = .ok (.imul, 1) := by decide +kernel
theorem dX8_leastMultiple_17 : decode cX8_leastMultiple 17 = .ok (.iload_n 1, 1) := by decide +kernel
theorem dX8_leastMultiple_18 : decode cX8_leastMultiple 18 = .ok (.irem, 1) := by decide +kernel
theorem dX8_leastMultiple_19 : decode cX8_leastMultiple 19 = .ok (.ifCond .ne 7, 3) := by decide +kernel
theorem dX8_leastMultiple_22 : decode cX8_leastMultiple 22 = .ok (.iload_n 0, 1) := by decide +kernel
theorem dX8_leastMultiple_23 : decode cX8_leastMultiple 23 = .ok (.iload_n 2, 1) := by decide +kernel
theorem dX8_leastMultiple_24 : decode cX8_leastMultiple 24 = .ok (.imul, 1) := by decide +kernel
theorem dX8_leastMultiple_25 : decode cX8_leastMultiple 25 = .ok (.ireturn, 1) := by decide +kernel
theorem dX8_leastMultiple_26 : decode cX8_leastMultiple 26 = .ok (.iinc 2 1, 3) := by decide +kernel
theorem dX8_leastMultiple_29 : decode cX8_leastMultiple 29 = .ok (.goto (-20), 3) := by decide +kernel
theorem dX8_leastMultiple_32 : decode cX8_leastMultiple 32 = .ok (.iload_n 0, 1) := by decide +kernel
theorem dX8_leastMultiple_33 : decode cX8_leastMultiple 33 = .ok (.iload_n 1, 1) := by decide +kernel
theorem dX8_leastMultiple_34 : decode cX8_leastMultiple 34 = .ok (.imul, 1) := by decide +kernel
theorem dX8_leastMultiple_35 : decode cX8_leastMultiple 35 = .ok (.ireturn, 1) := by decide +kernel
set_option maxRecDepth 20000 in
theorem ggX9_init_X9_clear : GoodIn wsX9_init wsX9_clear := goodIn_r _ [29, 30, 31, 28, 32] (by decide +kernel) (by decide +kernel)
set_option maxRecDepth 20000 in
theorem gX9_init_X9_clear : GoodIn wsX9_init (va_wsS RX9 93 yX9_clear wsX9_clear) := goodIn_app (goodIn_of _ (by decide +kernel)) ggX9_init_X9_clear
theorem dX9_init_0 : decode cX9_init 0 = .ok (.aload_n 0, 1) := by decide +kernel
theorem dX9_init_1 : decode cX9_init 1 = .ok (.invokespecial 1, 3) := by decide +kernel
theorem dX9_init_4 : decode cX9_init 4 = .ok (.aload_n 0, 1) := by decide +kernel
theorem dX9_init_5 : decode cX9_init 5 = .ok (.sipush 172, 3) := by decide +kernel
theorem dX9_init_8 : decode cX9_init 8 = .ok (.newarray .int, 2) := by decide +kernel
theorem dX9_init_10 : decode cX9_init 10 = .ok (.putfield 9, 3) := by decide +kernel
theorem dX9_init_13 : decode cX9_init 13 = .ok (.aload_n 0, 1) := by decide +kernel
theorem dX9_init_14 : decode cX9_init 14 = .ok (.sipush 172, 3) := by decide +kernel
theorem dX9_init_17 : decode cX9_init 17 = .ok (.newarray .int, 2) := by decide +kernel
theorem dX9_init_19 : decode cX9_init 19 = .ok (.putfield 13, 3) := by decide +kernel
theorem dX9_init_22 : decode cX9_init 22 = .ok (.aload_n 0, 1) := by decide +kernel
theorem dX9_init_23 : decode cX9_init 23 = .ok (.sipush 172, 3) := by decide +kernel
theorem dX9_init_26 : decode cX9_init 26 = .ok (.newarray .int, 2) := by decide +kernel
theorem dX9_init_28 : decode cX9_init 28 = .ok (.putfield 16, 3) := by decide +kernel
theorem dX9_init_31 : decode cX9_init 31 = .ok (.aload_n 0, 1) := by decide +kernel
theorem dX9_init_32 : decode cX9_init 32 = .ok (.sipush 1720, 3) := by decide +kernel
theorem dX9_init_35 : decode cX9_init 35 = .ok (.newarray .int, 2) := by decide +kernel
theorem dX9_init_37 : decode cX9_init 37 = .ok (.putfield 19, 3) := by decide +kernel
theorem dX9_init_40 : decode cX9_init 40 = .ok (.aload_n 0, 1) := by decide +kernel
theorem dX9_init_41 : decode cX9_init 41 = .ok (.aload_n 0, 1) := by decide +kernel
theorem dX9_init_42 : decode cX9_init 42 = .ok (.getfield 9, 3) := by decide +kernel
theorem dX9_init_45 : decode cX9_init 45 = .ok (.putfield 22, 3) := by decide +kernel
theorem dX9_init_48 : decode cX9_init 48 = .ok (.aload_n 0, 1) := by decide +kernel
theorem dX9_init_49 : decode cX9_init 49 = .ok (.bipush 12, 2) := by decide +kernel
theorem dX9_init_51 : decode cX9_init 51 = .ok (.newarray .int, 2) := by decide +kernel
theorem dX9_init_53 : decode cX9_init 53 = .ok (.putfield 25, 3) := by decide +kernel
theorem dX9_init_56 : decode cX9_init 56 = .ok (.aload_n 0, 1) := by decide +kernel
theorem dX9_init_57 : decode cX9_init 57 = .ok (.iconst 4, 1) := by decide +kernel
theorem dX9_init_58 : decode cX9_init 58 = .ok (.newarray .int, 2) := by decide +kernel
theorem dX9_init_60 : decode cX9_init 60 = .ok (.putfield 28, 3) := by decide +kernel
theorem dX9_init_63 : decode cX9_init 63 = .ok (.aload_n 0, 1) := by decide +kernel
theorem dX9_init_64 : decode cX9_init 64 = .ok (.bipush 12, 2) := by decide +kernel
theorem dX9_init_66 : decode cX9_init 66 = .ok (.newarray .int, 2) := by decide +kernel
theorem dX9_init_68 : decode cX9_init 68 = .ok (.putfield 31, 3) := by decide +kernel
theorem dX9_init_71 : decode cX9_init 71 = .ok (.aload_n 0, 1) := by decide +kernel
theorem dX9_init_72 : decode cX9_init 72 = .ok (.bipush 12, 2) := by decide +kernel
theorem dX9_init_74 : decode cX9_init 74 = .ok (.newarray .int, 2) := by decide +kernel
theorem dX9_init_76 : decode cX9_init 76 = .ok (.putfield 34, 3) := by decide +kernel
theorem dX9_init_79 : decode cX9_init 79 = .ok (.aload_n 0, 1) := by decide +kernel
theorem dX9_init_80 : decode cX9_init 80 = .ok (.bipush 12, 2) := by decide +kernel
theorem dX9_init_82 : decode cX9_init 82 = .ok (.newarray .int, 2) := by decide +kernel
theorem dX9_init_84 : decode cX9_init 84 = .ok (.putfield 37, 3) := by decide +kernel
theorem dX9_init_87 : decode cX9_init 87 = .ok (.aload_n 0, 1) := by decide +kernel
theorem dX9_init_88 : decode cX9_init 88 = .ok (.bipush 12, 2) := by decide +kernel
theorem dX9_init_90 : decode cX9_init 90 = .ok (.newarray .int, 2) := by decide +kernel
theorem dX9_init_92 : decode cX9_init 92 = .ok (.putfield 40, 3) := by decide +kernel
theorem dX9_init_95 : decode cX9_init 95 = .ok (.aload_n 0, 1) := by decide +kernel
theorem dX9_init_96 : decode cX9_init 96 = .ok (.bipush 12, 2) := by decide +kernel
theorem dX9_init_98 : decode cX9_init 98 = .ok (.newarray .int, 2) := by decide +kernel
theorem dX9_init_100 : decode cX9_init 100 = .ok (.putfield 43, 3) := by decide +kernel
theorem dX9_init_103 : decode cX9_init 103 = .ok (.aload_n 0, 1) := by decide +kernel
theorem dX9_init_104 : decode cX9_init 104 = .ok (.iconst 4, 1) := by decide +kernel
theorem dX9_init_105 : decode cX9_init 105 = .ok (.newarray .int, 2) := by decide +kernel
theorem dX9_init_107 : decode cX9_init 107 = .ok (.putfield 46, 3) := by decide +kernel
theorem dX9_init_110 : decode cX9_init 110 = .ok (.aload_n 0, 1) := by decide +kernel
theorem dX9_init_111 : decode cX9_init 111 = .ok (.bipush 110, 2) := by decide +kernel
theorem dX9_init_113 : decode cX9_init 113 = .ok (.newarray .int, 2) := by decide +kernel
theorem dX9_init_115 : decode cX9_init 115 = .ok (.putfield 49, 3) := by decide +kernel
theorem dX9_init_118 : decode cX9_init 118 = .ok (.aload_n 0, 1) := by decide +kernel
theorem dX9_init_119 : decode cX9_init 119 = .ok (.sipush 600, 3) := by decide +kernel
theorem dX9_init_122 : decode cX9_init 122 = .ok (.newarray .int, 2) := by decide +kernel
theorem dX9_init_124 : decode cX9_init 124 = .ok (.putfield 52, 3) := by decide +kernel
theorem dX9_init_127 : decode cX9_init 127 = .ok (.aload_n 0, 1) := by decide +kernel
theorem dX9_init_128 : decode cX9_init 128 = .ok (.iconst (-1), 1) := by decide +kernel
theorem dX9_init_129 : decode cX9_init 129 = .ok (.putfield 55, 3) := by decide +kernel
theorem dX9_init_132 : decode cX9_init 132 = .ok (.aload_n 0, 1) := by decide +kernel
theorem dX9_init_133 : decode cX9_init 133 = .ok (.bipush 11, 2) := by decide +kernel
theorem dX9_init_135 : decode cX9_init 135 = .ok (.anewarray 59, 3) := by decide +kernel
theorem dX9_init_138 : decode cX9_init 138 = .ok (.dup, 1) := by decide +kernel
theorem dX9_init_139 : decode cX9_init 139 = .ok (.iconst 0, 1) := by decide +kernel
theorem dX9_init_140 : decode cX9_init 140 = .ok (.ldc 61, 2) := by decide +kernel
theorem dX9_init_142 : decode cX9_init 142 = .ok (.aastore, 1) := by decide +kernel
theorem dX9_init_143 : decode cX9_init 143 = .ok (.dup, 1) := by decide +kernel
theorem dX9_init_144 : decode cX9_init 144 = .ok (.iconst 1, 1) := by decide +kernel
theorem dX9_init_145 : decode cX9_init 145 = .ok (.ldc 63, 2) := by decide +kernel
theorem dX9_init_147 : decode cX9_init 147 = .ok (.aastore, 1) := by decide +kernel
theorem dX9_init_148 : decode cX9_init 148 = .ok (.dup, 1) := by decide +kernel
theorem dX9_init_149 : decode cX9_init 149 = .ok (.iconst 2, 1) := by decide +kernel
theorem dX9_init_150 : decode cX9_init 150 = .ok (.ldc 65, 2) := by decide +kernel
theorem dX9_init_152 : decode cX9_init 152 = .ok (.aastore, 1) := by decide +kernel
theorem dX9_init_153 : decode cX9_init 153 = .ok (.dup, 1) := by decide +kernel
theorem dX9_init_154 : decode cX9_init 154 = .ok (.iconst 3, 1) := by decide +kernel
theorem dX9_init_155 : decode cX9_init 155 = .ok (.ldc 67, 2) := by decide +kernel
theorem dX9_init_157 : decode cX9_init 157 = .ok (.aastore, 1) := by decide +kernel
theorem dX9_init_158 : decode cX9_init 158 = .ok (.dup, 1) := by decide +kernel
theorem dX9_init_159 : decode cX9_init 159 = .ok (.iconst 4, 1) := by decide +kernel
theorem dX9_init_160 : decode cX9_init 160 = .ok (.ldc 68, 2) := by decide +kernel
theorem dX9_init_162 : decode cX9_init 162 = .ok (.aastore, 1) := by decide +kernel
theorem dX9_init_163 : decode cX9_init 163 = .ok (.dup, 1) := by decide +kernel
theorem dX9_init_164 : decode cX9_init 164 = .ok (.iconst 5, 1) := by decide +kernel
theorem dX9_init_165 : decode cX9_init 165 = .ok (.ldc 70, 2) := by decide +kernel
theorem dX9_init_167 : decode cX9_init 167 = .ok (.aastore, 1) := by decide +kernel
theorem dX9_init_168 : decode cX9_init 168 = .ok (.dup, 1) := by decide +kernel
theorem dX9_init_169 : decode cX9_init 169 = .ok (.bipush 6, 2) := by decide +kernel
theorem dX9_init_171 : decode cX9_init 171 = .ok (.ldc 72, 2) := by decide +kernel
theorem dX9_init_173 : decode cX9_init 173 = .ok (.aastore, 1) := by decide +kernel
theorem dX9_init_174 : decode cX9_init 174 = .ok (.dup, 1) := by decide +kernel
theorem dX9_init_175 : decode cX9_init 175 = .ok (.bipush 7, 2) := by decide +kernel
theorem dX9_init_177 : decode cX9_init 177 = .ok (.ldc 74, 2) := by decide +kernel
theorem dX9_init_179 : decode cX9_init 179 = .ok (.aastore, 1) := by decide +kernel
theorem dX9_init_180 : decode cX9_init 180 = .ok (.dup, 1) := by decide +kernel
theorem dX9_init_181 : decode cX9_init 181 = .ok (.bipush 8, 2) := by decide +kernel
theorem dX9_init_183 : decode cX9_init 183 = .ok (.ldc 76, 2) := by decide +kernel
theorem dX9_init_185 : decode cX9_init 185 = .ok (.aastore, 1) := by decide +kernel
theorem dX9_init_186 : decode cX9_init 186 = .ok (.dup, 1) := by decide +kernel
theorem dX9_init_187 : decode cX9_init 187 = .ok (.bipush 9, 2) := by decide +kernel
theorem dX9_init_189 : decode cX9_init 189 = .ok (.ldc 78, 2) := by decide +kernel
theorem dX9_init_191 : decode cX9_init 191 = .ok (.aastore, 1) := by decide +kernel
theorem dX9_init_192 : decode cX9_init 192 = .ok (.dup, 1) := by decide +kernel
theorem dX9_init_193 : decode cX9_init 193 = .ok (.bipush 10, 2) := by decide +kernel
theorem dX9_init_195 : decode cX9_init 195 = .ok (.ldc 80, 2) := by decide +kernel
theorem dX9_init_197 : decode cX9_init 197 = .ok (.aastore, 1) := by decide +kernel
theorem dX9_init_198 : decode cX9_init 198 = .ok (.putfield 82, 3) := by decide +kernel
theorem dX9_init_201 : decode cX9_init 201 = .ok (.aload_n 0, 1) := by decide +kernel
theorem dX9_init_202 : decode cX9_init 202 = .ok (.sipush 200, 3) := by decide +kernel
theorem dX9_init_205 : decode cX9_init 205 = .ok (.newarray .int, 2) := by decide +kernel
theorem dX9_init_207 : decode cX9_init 207 = .ok (.putfield 86, 3) := by decide +kernel
theorem dX9_init_210 : decode cX9_init 210 = .ok (.aload_n 0, 1) := by decide +kernel
theorem dX9_init_211 : decode cX9_init 211 = .ok (.sipush 200, 3) := by decide +kernel
theorem dX9_init_214 : decode cX9_init 214 = .ok (.newarray .long, 2) := by decide +kernel
theorem dX9_init_216 : decode cX9_init 216 = .ok (.putfield 89, 3) := by decide +kernel
theorem dX9_init_219 : decode cX9_init 219 = .ok (.aload_n 0, 1) := by decide +kernel
theorem dX9_init_220 : decode cX9_init 220 = .ok (.getfield 9, 3) := by decide +kernel
theorem dX9_init_223 : decode cX9_init 223 = .ok (.invokestatic 93, 3) := by decide +kernel
theorem dX9_init_226 : decode cX9_init 226 = .ok (.aload_n 0, 1) := by decide +kernel
theorem dX9_init_227 : decode cX9_init 227 = .ok (.getfield 9, 3) := by decide +kernel
theorem dX9_init_230 : decode cX9_init 230 = .ok (.iconst 0, 1) := by decide +kernel
theorem dX9_init_231 : decode cX9_init 231 = .ok (.iconst 1, 1) := by decide +kernel
theorem dX9_init_232 : decode cX9_init 232 = .ok (.iastore, 1) := by decide +kernel
theorem dX9_init_233 : decode cX9_init 233 = .ok (.return_, 1) := by decide +kernel
theorem dX9_thrown_0 : decode cX9_thrown 0 = .ok (.aload_n 0, 1) := by decide +kernel
theorem dX9_thrown_1 : decode cX9_thrown 1 = .ok (.getfield 97, 3) := by decide +kernel
theorem dX9_thrown_4 : decode cX9_thrown 4 = .ok (.ireturn, 1) := by decide +kernel
theorem dX9_raise_0 : decode cX9_raise 0 = .ok (.aload_n 0, 1) := by decide +kernel
theorem dX9_raise_1 : decode cX9_raise 1 = .ok (.iload_n 1, 1) := by decide +kernel
theorem dX9_raise_2 : decode cX9_raise 2 = .ok (.putfield 97, 3) := by decide +kernel
theorem dX9_raise_5 : decode cX9_raise 5 = .ok (.iconst 0, 1) := by decide +kernel
theorem dX9_raise_6 : decode cX9_raise 6 = .ok (.ireturn, 1) := by decide +kernel
theorem dX9_inRange_0 : decode cX9_inRange 0 = .ok (.iload_n 0, 1) := by decide +kernel
theorem dX9_inRange_1 : decode cX9_inRange 1 = .ok (.iload_n 1, 1) := by decide +kernel
theorem dX9_inRange_2 : decode cX9_inRange 2 = .ok (.if_icmp .lt 12, 3) := by decide +kernel
theorem dX9_inRange_5 : decode cX9_inRange 5 = .ok (.iload_n 0, 1) := by decide +kernel
theorem dX9_inRange_6 : decode cX9_inRange 6 = .ok (.iload_n 2, 1) := by decide +kernel
theorem dX9_inRange_7 : decode cX9_inRange 7 = .ok (.if_icmp .gt 7, 3) := by decide +kernel
theorem dX9_inRange_10 : decode cX9_inRange 10 = .ok (.iconst 1, 1) := by decide +kernel
theorem dX9_inRange_11 : decode cX9_inRange 11 = .ok (.goto 4, 3) := by decide +kernel
theorem dX9_inRange_14 : decode cX9_inRange 14 = .ok (.iconst 0, 1) := by decide +kernel
theorem dX9_inRange_15 : decode cX9_inRange 15 = .ok (.ireturn, 1) := by decide +kernel
set_option maxRecDepth 20000 in
theorem ggX9_clear_X9_roomAt : GoodIn wsX9_clear wsX9_roomAt := goodIn_r _ [4] (by decide +kernel) (by decide +kernel)
set_option maxRecDepth 20000 in
theorem gX9_clear_X9_roomAt : GoodIn wsX9_clear (va_wsS RX9 100 yX9_roomAt wsX9_roomAt) := goodIn_app (goodIn_of _ (by decide +kernel)) ggX9_clear_X9_roomAt
theorem dX9_clear_0 : decode cX9_clear 0 = .ok (.iconst 0, 1) := by decide +kernel
theorem dX9_clear_1 : decode cX9_clear 1 = .ok (.istore_n 1, 1) := by decide +kernel
theorem dX9_clear_2 : decode cX9_clear 2 = .ok (.iload_n 1, 1) := by decide +kernel
theorem dX9_clear_3 : decode cX9_clear 3 = .ok (.sipush 172, 3) := by decide +kernel
theorem dX9_clear_6 : decode cX9_clear 6 = .ok (.if_icmp .ge 13, 3) := by decide +kernel
theorem dX9_clear_9 : decode cX9_clear 9 = .ok (.aload_n 0, 1) := by decide +kernel
theorem dX9_clear_10 : decode cX9_clear 10 = .ok (.iload_n 1, 1) := by decide +kernel
theorem dX9_clear_11 : decode cX9_clear 11 = .ok (.iconst 0, 1) := by decide +kernel
theorem dX9_clear_12 : decode cX9_clear 12 = .ok (.iastore, 1) := by decide +kernel
theorem dX9_clear_13 : decode cX9_clear 13 = .ok (.iinc 1 1, 3) := by decide +kernel
theorem dX9_clear_16 : decode cX9_clear 16 = .ok (.goto (-14), 3) := by decide +kernel
theorem dX9_clear_19 : decode cX9_clear 19 = .ok (.iconst 0, 1) := by decide +kernel
theorem dX9_clear_20 : decode cX9_clear 20 = .ok (.istore_n 1, 1) := by decide +kernel
theorem dX9_clear_21 : decode cX9_clear 21 = .ok (.iload_n 1, 1) := by decide +kernel
theorem dX9_clear_22 : decode cX9_clear 22 = .ok (.bipush 12, 2) := by decide +kernel
theorem dX9_clear_24 : decode cX9_clear 24 = .ok (.if_icmp .ge 26, 3) := by decide +kernel
theorem dX9_clear_27 : decode cX9_clear 27 = .ok (.aload_n 0, 1) := by decide +kernel
theorem dX9_clear_28 : decode cX9_clear 28 = .ok (.iload_n 1, 1) := by decide +kernel
theorem dX9_clear_29 : decode cX9_clear 29 = .ok (.iconst 0, 1) := by decide +kernel
theorem dX9_clear_30 : decode cX9_clear 30 = .ok (.invokestatic 100, 3) := by decide +kernel
theorem dX9_clear_33 : decode cX9_clear 33 = .ok (.bipush 99, 2) := by decide +kernel
theorem dX9_clear_35 : decode cX9_clear 35 = .ok (.iastore, 1) := by decide +kernel
theorem dX9_clear_36 : decode cX9_clear 36 = .ok (.aload_n 0, 1) := by decide +kernel
theorem dX9_clear_37 : decode cX9_clear 37 = .ok (.iload_n 1, 1) := by decide +kernel
theorem dX9_clear_38 : decode cX9_clear 38 = .ok (.iconst 2, 1) := by decide +kernel
theorem dX9_clear_39 : decode cX9_clear 39 = .ok (.invokestatic 100, 3) := by decide +kernel
theorem dX9_clear_42 : decode cX9_clear 42 = .ok (.iconst (-1), 1) := by decide +kernel
theorem dX9_clear_43 : decode cX9_clear 43 = .ok (.iastore, 1) := by decide +kernel
theorem dX9_clear_44 : decode cX9_clear 44 = .ok (.iinc 1 1, 3) := by decide +kernel
theorem dX9_clear_47 : decode cX9_clear 47 = .ok (.goto (-26), 3) := by decide +kernel
theorem dX9_clear_50 : decode cX9_clear 50 = .ok (.return_, 1) := by decide +kernel
theorem dX9_roomAt_0 : decode cX9_roomAt 0 = .ok (.iconst 4, 1) := by decide +kernel
theorem dX9_roomAt_1 : decode cX9_roomAt 1 = .ok (.iconst 5, 1) := by decide +kernel
theorem dX9_roomAt_2 : decode cX9_roomAt 2 = .ok (.iload_n 0, 1) := by decide +kernel
theorem dX9_roomAt_3 : decode cX9_roomAt 3 = .ok (.imul, 1) := by decide +kernel
theorem dX9_roomAt_4 : decode cX9_roomAt 4 = .ok (.iadd, 1) := by decide +kernel
theorem dX9_roomAt_5 : decode cX9_roomAt 5 = .ok (.iload_n 1, 1) := by decide +kernel
theorem dX9_roomAt_6 : decode cX9_roomAt 6 = .ok (.iadd, 1) := by decide +kernel
theorem dX9_roomAt_7 : decode cX9_roomAt 7 = .ok (.ireturn, 1) := by decide +kernel
theorem dX9_doorAt_0 : decode cX9_doorAt 0 = .ok (.bipush 64, 2) := by decide +kernel
theorem dX9_doorAt_2 : decode cX9_doorAt 2 = .ok (.iconst 3, 1) := by decide +kernel
theorem dX9_doorAt_3 : decode cX9_doorAt 3 = .ok (.iload_n 0, 1) := by decide +kernel
theorem dX9_doorAt_4 : decode cX9_doorAt 4 = .ok (.imul, 1) := by decide +kernel
theorem dX9_doorAt_5 : decode cX9_doorAt 5 = .ok (.iadd, 1) := by decide +kernel
theorem dX9_doorAt_6 : decode cX9_doorAt 6 = .ok (.iload_n 1, 1) := by decide +kernel
theorem dX9_doorAt_7 : decode cX9_doorAt 7 = .ok (.iadd, 1) := by decide +kernel
theorem dX9_doorAt_8 : decode cX9_doorAt 8 = .ok (.ireturn, 1) := by decide +kernel
theorem dX9_guardAt_0 : decode cX9_guardAt 0 = .ok (.bipush 124, 2) := by decide +kernel
theorem dX9_guardAt_2 : decode cX9_guardAt 2 = .ok (.bipush 12, 2) := by decide +kernel
theorem dX9_guardAt_4 : decode cX9_guardAt 4 = .ok (.iload_n 0, 1) := by decide +kernel
theorem dX9_guardAt_5 : decode cX9_guardAt 5 = .ok (.imul, 1) := by decide +kernel
theorem dX9_guardAt_6 : decode cX9_guardAt 6 = .ok (.iadd, 1) := by decide +kernel
theorem dX9_guardAt_7 : decode cX9_guardAt 7 = .ok (.iload_n 1, 1) := by decide +kernel
theorem dX9_guardAt_8 : decode cX9_guardAt 8 = .ok (.iadd, 1) := by decide +kernel
theorem dX9_guardAt_9 : decode cX9_guardAt 9 = .ok (.ireturn, 1) := by decide +kernel
theorem dX9_rooms_0 : decode cX9_rooms 0 = .ok (.aload_n 0, 1) := by decide +kernel
theorem dX9_rooms_1 : decode cX9_rooms 1 = .ok (.getfield 22, 3) := by decide +kernel
theorem dX9_rooms_4 : decode cX9_rooms 4 = .ok (.iconst 0, 1) := by decide +kernel
theorem dX9_rooms_5 : decode cX9_rooms 5 = .ok (.iaload, 1) := by decide +kernel
theorem dX9_rooms_6 : decode cX9_rooms 6 = .ok (.ireturn, 1) := by decide +kernel
theorem dX9_guards_0 : decode cX9_guards 0 = .ok (.aload_n 0, 1) := by decide +kernel
theorem dX9_guards_1 : decode cX9_guards 1 = .ok (.getfield 22, 3) := by decide +kernel
theorem dX9_guards_4 : decode cX9_guards 4 = .ok (.iconst 2, 1) := by decide +kernel
theorem dX9_guards_5 : decode cX9_guards 5 = .ok (.iaload, 1) := by decide +kernel
theorem dX9_guards_6 : decode cX9_guards 6 = .ok (.ireturn, 1) := by decide +kernel
set_option maxRecDepth 20000 in
theorem ggX9_ofRoom_X9_roomAt : GoodIn wsX9_ofRoom wsX9_roomAt := goodIn_r _ [5] (by decide +kernel) (by decide +kernel)
set_option maxRecDepth 20000 in
theorem gX9_ofRoom_X9_roomAt : GoodIn wsX9_ofRoom (va_wsS RX9 100 yX9_roomAt wsX9_roomAt) := goodIn_app (goodIn_of _ (by decide +kernel)) ggX9_ofRoom_X9_roomAt
theorem dX9_ofRoom_0 : decode cX9_ofRoom 0 = .ok (.aload_n 0, 1) := by decide +kernel
theorem dX9_ofRoom_1 : decode cX9_ofRoom 1 = .ok (.getfield 22, 3) := by decide +kernel
theorem dX9_ofRoom_4 : decode cX9_ofRoom 4 = .ok (.iload_n 1, 1) := by decide +kernel
theorem dX9_ofRoom_5 : decode cX9_ofRoom 5 = .ok (.iload_n 2, 1) := by decide +kernel
theorem dX9_ofRoom_6 : decode cX9_ofRoom 6 = .ok (.invokestatic 100, 3) := by decide +kernel
theorem dX9_ofRoom_9 : decode cX9_ofRoom 9 = .ok (.iaload, 1) := by decide +kernel
theorem dX9_ofRoom_10 : decode cX9_ofRoom 10 = .ok (.ireturn, 1) := by decide +kernel
set_option maxRecDepth 20000 in
theorem ggX9_ofDoor_X9_doorAt : GoodIn wsX9_ofDoor wsX9_doorAt := goodIn_r _ [5] (by decide +kernel) (by decide +kernel)
set_option maxRecDepth 20000 in
theorem gX9_ofDoor_X9_doorAt : GoodIn wsX9_ofDoor (va_wsS RX9 104 yX9_doorAt wsX9_doorAt) := goodIn_app (goodIn_of _ (by decide +kernel)) ggX9_ofDoor_X9_doorAt
theorem dX9_ofDoor_0 : decode cX9_ofDoor 0 = .ok (.aload_n 0, 1) := by decide +kernel

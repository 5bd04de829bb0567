set_option maxRecDepth 20000 in
theorem ggL_load_X8_load : GoodIn wsL_load wsX8_load := goodIn_ca (goodIn_r _ [6, 7, 8, 9, 10, 11, 12, 13, 14, 15, 5, 16, 17, 18, 19, 20, 21, 22, 23, 24, 25, 26, 27, 28, 29, 30, 31, 32, 33, 34, 35, 36, 37, 38, 39, 40, 41, 42, 43, 44, 45, 46, 47, 48, 49, 50, 51, 52, 53, 54, 55, 56, 57, 58, 59, 60, 61, 62, 63, 64, 65, 66, 67, 68, 69, 70, 71, 72, 73, 74, 75, 76, 77, 78, 79, 80, 81, 82, 83, 84, 85, 86, 87, 88, 89, 90, 91, 92, 93, 94, 95, 96, 97, 98, 99, 100, 101, 102, 103, 104, 105, 106, 107, 108, 109, 110, 111, 112, 113, 114, 115, 116, 117, 118, 119, 120, 121, 122, 123, 124, 125, 126, 127, 128, 129, 130, 131, 132, 133, 134, 135, 136, 137, 138, 139, 140, 141, 142, 143, 144, 145, 146, 147, 148, 149, 150, 151, 152, 153, 154, 155, 156, 157, 158, 159, 160, 161, 162, 163, 164, 165, 166, 167, 168, 169, 170, 171, 172, 173, 174, 175, 176, 177, 178, 179, 180, 181, 182, 183, 184, 185, 186, 187, 188, 189, 190, 191, 192, 193, 194, 195, 196, 197, 198, 199, 200, 201, 202, 203, 204, 205, 206, 207, 208, 209, 210, 211, 212, 213, 214, 215, 216, 217, 218, 219, 220, 221, 222, 223, 224, 225, 226, 227, 228, 229, 230, 231, 232, 233, 234, 235, 236, 237, 238, 239, 240, 241, 242, 243, 244, 245, 246, 247, 248, 249, 250, 251, 252, 253, 254, 255, 256, 257, 258, 259, 260, 261, 262, 263, 264, 265, 266, 267, 268, 269, 270, 271, 272, 273, 274, 275, 276, 277, 278, 279, 280, 281, 282, 283, 284, 285, 286, 287, 288, 289, 290, 291, 292, 293, 294, 295, 296, 297, 298, 299, 300, 301, 302, 303, 304, 305, 306, 307, 308, 309] (by decide +kernel) (by decide +kernel)) (goodIn_sub (fun _ h => List.mem_cons_of_mem _ (List.mem_append_right _ h)) (by decide +kernel))
set_option maxRecDepth 20000 in
theorem gL_load_X8_load : GoodIn wsL_load (wsV RL 7 RX8 yX8_load wsX8_load) := goodIn_app (goodIn_of _ (by decide +kernel)) ggL_load_X8_load
theorem dL_load_0 : decode cL_load 0 = .ok (.aload_n 2, 1) := by decide +kernel
theorem dL_load_1 : decode cL_load 1 = .ok (.iconst 0, 1) := by decide +kernel
theorem dL_load_2 : decode cL_load 2 = .ok (.aload_n 0, 1) := by decide +kernel
theorem dL_load_3 : decode cL_load 3 = .ok (.iload_n 1, 1) := by decide +kernel
theorem dL_load_4 : decode cL_load 4 = .ok (.invokevirtual 7, 3) := by decide +kernel
theorem dL_load_7 : decode cL_load 7 = .ok (.i2l, 1) := by decide +kernel
theorem dL_load_8 : decode cL_load 8 = .ok (.lastore, 1) := by decide +kernel
theorem dL_load_9 : decode cL_load 9 = .ok (.goto 6, 3) := by decide +kernel
theorem dL_load_12 : decode cL_load 12 = .ok (.astore_n 3, 1) := by decide +kernel
theorem dL_load_13 : decode cL_load 13 = .ok (.iconst 1, 1) := by decide +kernel
theorem dL_load_14 : decode cL_load 14 = .ok (.ireturn, 1) := by decide +kernel
theorem dL_load_15 : decode cL_load 15 = .ok (.iconst 0, 1) := by decide +kernel
theorem dL_load_16 : decode cL_load 16 = .ok (.ireturn, 1) := by decide +kernel
set_option maxRecDepth 20000 in
theorem ggL_size_X8_size : GoodIn wsL_size wsX8_size := goodIn_ca (goodIn_r _ [6, 7, 8, 9, 10, 11, 12, 13, 14, 15, 16, 17, 18, 19, 20, 21, 22, 5, 23, 24, 25, 26, 27, 28, 29, 30, 31, 32, 33, 34, 35, 36, 37, 38, 39, 40, 41, 42, 43, 44, 45, 46, 47, 48, 49, 50, 51, 52, 53, 54, 55, 56, 57, 58, 59, 60, 61, 62, 63, 64, 65, 66, 67, 68, 69, 70, 71, 72, 73, 74, 75, 76, 77, 78, 79, 80, 81, 82, 83, 84, 85, 86, 87, 88, 89, 90, 91, 92, 93, 94, 95, 96, 97, 98, 99, 100, 101, 102, 103, 104, 105, 106, 107, 108, 109, 110, 111, 112, 113, 114, 115, 116, 117, 118, 119, 120, 121, 122, 123, 124, 125, 126, 127, 128, 129, 130, 131, 132, 133, 134, 135, 136, 137, 138, 139, 140, 141, 142, 143, 144, 145, 146, 147, 148, 149, 150, 151, 152, 153, 154, 155, 156, 157, 158, 159, 160, 161, 162, 163, 164] (by decide +kernel) (by decide +kernel)) (goodIn_sub (fun _ h => List.mem_cons_of_mem _ (List.mem_append_right _ h)) (by decide +kernel))
set_option maxRecDepth 20000 in
theorem gL_size_X8_size : GoodIn wsL_size (wsV RL 15 RX8 yX8_size wsX8_size) := goodIn_app (goodIn_of _ (by decide +kernel)) ggL_size_X8_size
theorem dL_size_0 : decode cL_size 0 = .ok (.aload_n 2, 1) := by decide +kernel
theorem dL_size_1 : decode cL_size 1 = .ok (.iconst 0, 1) := by decide +kernel
theorem dL_size_2 : decode cL_size 2 = .ok (.aload_n 0, 1) := by decide +kernel
theorem dL_size_3 : decode cL_size 3 = .ok (.iload_n 1, 1) := by decide +kernel
theorem dL_size_4 : decode cL_size 4 = .ok (.invokevirtual 15, 3) := by decide +kernel
theorem dL_size_7 : decode cL_size 7 = .ok (.i2l, 1) := by decide +kernel
theorem dL_size_8 : decode cL_size 8 = .ok (.lastore, 1) := by decide +kernel
theorem dL_size_9 : decode cL_size 9 = .ok (.goto 6, 3) := by decide +kernel
theorem dL_size_12 : decode cL_size 12 = .ok (.astore_n 3, 1) := by decide +kernel
theorem dL_size_13 : decode cL_size 13 = .ok (.iconst 1, 1) := by decide +kernel
theorem dL_size_14 : decode cL_size 14 = .ok (.ireturn, 1) := by decide +kernel
theorem dL_size_15 : decode cL_size 15 = .ok (.iconst 0, 1) := by decide +kernel
theorem dL_size_16 : decode cL_size 16 = .ok (.ireturn, 1) := by decide +kernel
set_option maxRecDepth 20000 in
theorem ggL_door_X8_door : GoodIn wsL_door wsX8_door := goodIn_ca (goodIn_r _ [6, 7, 8, 9, 10, 11, 12, 13, 14, 5, 15, 16, 17, 18, 19, 20, 21, 22, 23, 24, 25, 26, 27, 28, 29, 30, 31, 32, 33, 34, 35, 36, 37, 38, 39, 40, 41, 42, 43, 44, 45, 46, 47, 48, 49, 50, 51, 52, 53, 54, 55, 56, 57, 58, 59, 60, 61, 62, 63, 64, 65, 66, 67, 68, 69, 70, 71, 72, 73, 74, 75, 76, 77, 78, 79, 80, 81, 82, 83, 84, 85, 86, 87] (by decide +kernel) (by decide +kernel)) (goodIn_sub (fun _ h => List.mem_cons_of_mem _ (List.mem_append_right _ h)) (by decide +kernel))
set_option maxRecDepth 20000 in
theorem gL_door_X8_door : GoodIn wsL_door (wsV RL 20 RX8 yX8_door wsX8_door) := goodIn_app (goodIn_of _ (by decide +kernel)) ggL_door_X8_door
theorem dL_door_0 : decode cL_door 0 = .ok (.aload_n 3, 1) := by decide +kernel
theorem dL_door_1 : decode cL_door 1 = .ok (.iconst 0, 1) := by decide +kernel
theorem dL_door_2 : decode cL_door 2 = .ok (.aload_n 0, 1) := by decide +kernel
theorem dL_door_3 : decode cL_door 3 = .ok (.iload_n 1, 1) := by decide +kernel
theorem dL_door_4 : decode cL_door 4 = .ok (.iload_n 2, 1) := by decide +kernel
theorem dL_door_5 : decode cL_door 5 = .ok (.invokevirtual 20, 3) := by decide +kernel
theorem dL_door_8 : decode cL_door 8 = .ok (.i2l, 1) := by decide +kernel
theorem dL_door_9 : decode cL_door 9 = .ok (.lastore, 1) := by decide +kernel
theorem dL_door_10 : decode cL_door 10 = .ok (.goto 7, 3) := by decide +kernel
theorem dL_door_13 : decode cL_door 13 = .ok (.astore 4, 2) := by decide +kernel
theorem dL_door_15 : decode cL_door 15 = .ok (.iconst 1, 1) := by decide +kernel
theorem dL_door_16 : decode cL_door 16 = .ok (.ireturn, 1) := by decide +kernel
theorem dL_door_17 : decode cL_door 17 = .ok (.iconst 0, 1) := by decide +kernel
theorem dL_door_18 : decode cL_door 18 = .ok (.ireturn, 1) := by decide +kernel
set_option maxRecDepth 20000 in
theorem ggL_room_X8_room : GoodIn wsL_room wsX8_room := goodIn_ca (goodIn_r _ [6, 7, 8, 9, 10, 11, 12, 13, 14, 15, 16, 17, 18, 19, 5, 20, 21, 22, 23, 24, 25, 26, 27, 28, 29, 30, 31, 32, 33, 34, 35, 36, 37, 38, 39, 40, 41, 42, 43, 44, 45, 46, 47, 48, 49, 50, 51, 52, 53, 54, 55, 56, 57, 58, 59, 60, 61, 62, 63, 64, 65, 66, 67, 68, 69, 70, 71, 72, 73, 74, 75, 76, 77, 78, 79, 80, 81, 82, 83, 84, 85, 86, 87, 88, 89, 90, 91, 92, 93, 94, 95, 96, 97, 98, 99, 100, 101, 102, 103, 104, 105, 106, 107, 108, 109, 110, 111, 112, 113, 114, 115, 116, 117, 118, 119, 120, 121, 122, 123, 124, 125, 126, 127, 128, 129, 130, 131, 132, 133, 134, 135, 136, 137, 138] (by decide +kernel) (by decide +kernel)) (goodIn_sub (fun _ h => List.mem_cons_of_mem _ (List.mem_append_right _ h)) (by decide +kernel))
set_option maxRecDepth 20000 in
theorem gL_room_X8_room : GoodIn wsL_room (wsV RL 24 RX8 yX8_room wsX8_room) := goodIn_app (goodIn_of _ (by decide +kernel)) ggL_room_X8_room
theorem dL_room_0 : decode cL_room 0 = .ok (.aload_n 3, 1) := by decide +kernel
theorem dL_room_1 : decode cL_room 1 = .ok (.iconst 0, 1) := by decide +kernel
theorem dL_room_2 : decode cL_room 2 = .ok (.aload_n 0, 1) := by decide +kernel
theorem dL_room_3 : decode cL_room 3 = .ok (.iload_n 1, 1) := by decide +kernel
theorem dL_room_4 : decode cL_room 4 = .ok (.iload_n 2, 1) := by decide +kernel
theorem dL_room_5 : decode cL_room 5 = .ok (.invokevirtual 24, 3) := by decide +kernel
theorem dL_room_8 : decode cL_room 8 = .ok (.i2l, 1) := by decide +kernel
theorem dL_room_9 : decode cL_room 9 = .ok (.lastore, 1) := by decide +kernel
theorem dL_room_10 : decode cL_room 10 = .ok (.goto 7, 3) := by decide +kernel
theorem dL_room_13 : decode cL_room 13 = .ok (.astore 4, 2) := by decide +kernel
theorem dL_room_15 : decode cL_room 15 = .ok (.iconst 1, 1) := by decide +kernel
theorem dL_room_16 : decode cL_room 16 = .ok (.ireturn, 1) := by decide +kernel
theorem dL_room_17 : decode cL_room 17 = .ok (.iconst 0, 1) := by decide +kernel
theorem dL_room_18 : decode cL_room 18 = .ok (.ireturn, 1) := by decide +kernel
set_option maxRecDepth 20000 in
theorem ggL_guard_X8_guard : GoodIn wsL_guard wsX8_guard := goodIn_ca (goodIn_r _ [6, 7, 8, 9, 10, 11, 12, 13, 14, 15, 16, 5, 17, 18, 19, 20, 21, 22, 23, 24, 25, 26, 27, 28, 29, 30, 31, 32, 33, 34, 35, 36, 37, 38, 39, 40, 41, 42, 43, 44, 45, 46, 47, 48, 49, 50, 51, 52, 53, 54, 55, 56, 57, 58, 59, 60, 61, 62, 63, 64, 65, 66, 67, 68, 69, 70, 71] (by decide +kernel) (by decide +kernel)) (goodIn_sub (fun _ h => List.mem_cons_of_mem _ (List.mem_append_right _ h)) (by decide +kernel))
set_option maxRecDepth 20000 in
theorem gL_guard_X8_guard : GoodIn wsL_guard (wsV RL 27 RX8 yX8_guard wsX8_guard) := goodIn_app (goodIn_of _ (by decide +kernel)) ggL_guard_X8_guard
theorem dL_guard_0 : decode cL_guard 0 = .ok (.aload_n 3, 1) := by decide +kernel
theorem dL_guard_1 : decode cL_guard 1 = .ok (.iconst 0, 1) := by decide +kernel
theorem dL_guard_2 : decode cL_guard 2 = .ok (.aload_n 0, 1) := by decide +kernel
theorem dL_guard_3 : decode cL_guard 3 = .ok (.iload_n 1, 1) := by decide +kernel
theorem dL_guard_4 : decode cL_guard 4 = .ok (.iload_n 2, 1) := by decide +kernel
theorem dL_guard_5 : decode cL_guard 5 = .ok (.invokevirtual 27, 3) := by decide +kernel
theorem dL_guard_8 : decode cL_guard 8 = .ok (.i2l, 1) := by decide +kernel
theorem dL_guard_9 : decode cL_guard 9 = .ok (.lastore, 1) := by decide +kernel
theorem dL_guard_10 : decode cL_guard 10 = .ok (.goto 7, 3) := by decide +kernel
theorem dL_guard_13 : decode cL_guard 13 = .ok (.astore 4, 2) := by decide +kernel
theorem dL_guard_15 : decode cL_guard 15 = .ok (.iconst 1, 1) := by decide +kernel
theorem dL_guard_16 : decode cL_guard 16 = .ok (.ireturn, 1) := by decide +kernel
theorem dL_guard_17 : decode cL_guard 17 = .ok (.iconst 0, 1) := by decide +kernel
theorem dL_guard_18 : decode cL_guard 18 = .ok (.ireturn, 1) := by decide +kernel
set_option maxRecDepth 20000 in
theorem ggL_walk_X8_walk : GoodIn wsL_walk wsX8_walk := goodIn_ca (goodIn_r _ [6, 7, 8, 9, 10, 5, 11, 12, 13, 14, 15, 16, 17, 18, 19, 20, 21, 22, 23, 24, 25, 26, 27, 28, 29, 30, 31, 32, 33, 34, 35, 36, 37, 38, 39, 40, 41, 42, 43, 44, 45, 46, 47, 48, 49, 50, 51, 52, 53, 54, 55, 56, 57, 58, 59] (by decide +kernel) (by decide +kernel)) (goodIn_sub (fun _ h => List.mem_cons_of_mem _ (List.mem_append_right _ h)) (by decide +kernel))
set_option maxRecDepth 20000 in
theorem gL_walk_X8_walk : GoodIn wsL_walk (wsV RL 30 RX8 yX8_walk wsX8_walk) := goodIn_app (goodIn_of _ (by decide +kernel)) ggL_walk_X8_walk
theorem dL_walk_0 : decode cL_walk 0 = .ok (.aload_n 3, 1) := by decide +kernel
theorem dL_walk_1 : decode cL_walk 1 = .ok (.iconst 0, 1) := by decide +kernel
theorem dL_walk_2 : decode cL_walk 2 = .ok (.aload_n 0, 1) := by decide +kernel
theorem dL_walk_3 : decode cL_walk 3 = .ok (.iload_n 1, 1) := by decide +kernel
theorem dL_walk_4 : decode cL_walk 4 = .ok (.iload_n 2, 1) := by decide +kernel
theorem dL_walk_5 : decode cL_walk 5 = .ok (.invokevirtual 30, 3) := by decide +kernel
theorem dL_walk_8 : decode cL_walk 8 = .ok (.i2l, 1) := by decide +kernel
theorem dL_walk_9 : decode cL_walk 9 = .ok (.lastore, 1) := by decide +kernel
theorem dL_walk_10 : decode cL_walk 10 = .ok (.goto 7, 3) := by decide +kernel
theorem dL_walk_13 : decode cL_walk 13 = .ok (.astore 4, 2) := by decide +kernel
theorem dL_walk_15 : decode cL_walk 15 = .ok (.iconst 1, 1) := by decide +kernel
theorem dL_walk_16 : decode cL_walk 16 = .ok (.ireturn, 1) := by decide +kernel
theorem dL_walk_17 : decode cL_walk 17 = .ok (.iconst 0, 1) := by decide +kernel
theorem dL_walk_18 : decode cL_walk 18 = .ok (.ireturn, 1) := by decide +kernel
set_option maxRecDepth 20000 in
theorem ggL_roomOf_X8_roomOf : GoodIn wsL_roomOf wsX8_roomOf := goodIn_ca (goodIn_ca (goodIn_r _ [7, 8, 9, 10, 11, 6, 12, 13, 14, 15, 16, 17, 18, 19, 20, 21, 22, 23, 24, 25, 26, 27, 28, 29, 30, 31, 32, 33, 34, 35, 36, 37, 38, 39, 40, 41, 42, 43, 44, 45, 46, 47, 48, 49, 50, 51, 52, 53, 54, 55, 56, 57, 58, 59, 60, 61, 62, 63, 64, 65, 66] (by decide +kernel) (by decide +kernel)) (goodIn_sub (fun _ h => List.mem_cons_of_mem _ (List.mem_append_left _ (List.mem_append_right _ h))) (by decide +kernel))) (goodIn_sub (fun _ h => List.mem_cons_of_mem _ (List.mem_append_right _ h)) (by decide +kernel))
set_option maxRecDepth 20000 in
theorem gL_roomOf_X8_roomOf : GoodIn wsL_roomOf (wsV RL 33 RX8 yX8_roomOf wsX8_roomOf) := goodIn_app (goodIn_of _ (by decide +kernel)) ggL_roomOf_X8_roomOf
theorem dL_roomOf_0 : decode cL_roomOf 0 = .ok (.aload_n 3, 1) := by decide +kernel
theorem dL_roomOf_1 : decode cL_roomOf 1 = .ok (.iconst 0, 1) := by decide +kernel
theorem dL_roomOf_2 : decode cL_roomOf 2 = .ok (.aload_n 0, 1) := by decide +kernel
theorem dL_roomOf_3 : decode cL_roomOf 3 = .ok (.iload_n 1, 1) := by decide +kernel
theorem dL_roomOf_4 : decode cL_roomOf 4 = .ok (.iload_n 2, 1) := by decide +kernel
theorem dL_roomOf_5 : decode cL_roomOf 5 = .ok (.invokevirtual 33, 3) := by decide +kernel
theorem dL_roomOf_8 : decode cL_roomOf 8 = .ok (.i2l, 1) := by decide +kernel
theorem dL_roomOf_9 : decode cL_roomOf 9 = .ok (.lastore, 1) := by decide +kernel
theorem dL_roomOf_10 : decode cL_roomOf 10 = .ok (.goto 11, 3) := by decide +kernel
theorem dL_roomOf_13 : decode cL_roomOf 13 = .ok (.astore 4, 2) := by decide +kernel
theorem dL_roomOf_15 : decode cL_roomOf 15 = .ok (.iconst 1, 1) := by decide +kernel
theorem dL_roomOf_16 : decode cL_roomOf 16 = .ok (.ireturn, 1) := by decide +kernel
theorem dL_roomOf_17 : decode cL_roomOf 17 = .ok (.astore 4, 2) := by decide +kernel
theorem dL_roomOf_19 : decode cL_roomOf 19 = .ok (.iconst 2, 1) := by decide +kernel
theorem dL_roomOf_20 : decode cL_roomOf 20 = .ok (.ireturn, 1) := by decide +kernel
theorem dL_roomOf_21 : decode cL_roomOf 21 = .ok (.iconst 0, 1) := by decide +kernel
theorem dL_roomOf_22 : decode cL_roomOf 22 = .ok (.ireturn, 1) := by decide +kernel
set_option maxRecDepth 20000 in
theorem ggL_guardsIn_X8_guardsIn : GoodIn wsL_guardsIn wsX8_guardsIn := goodIn_ca (goodIn_ca (goodIn_r _ [7, 8, 9, 10, 11, 6, 12, 13, 14, 15, 16, 17, 18, 19, 20, 21, 22, 23, 24, 25, 26, 27, 28, 29, 30, 31, 32, 33, 34, 35, 36, 37, 38, 39, 40, 41, 42, 43, 44, 45, 46, 47, 48, 49, 50, 51, 52, 53, 54, 55, 56, 57, 58, 59, 60, 61, 62, 63, 64, 65, 66, 67, 68, 69, 70, 71, 72, 73, 74] (by decide +kernel) (by decide +kernel)) (goodIn_sub (fun _ h => List.mem_cons_of_mem _ (List.mem_append_left _ (List.mem_append_right _ h))) (by decide +kernel))) (goodIn_sub (fun _ h => List.mem_cons_of_mem _ (List.mem_append_right _ h)) (by decide +kernel))
set_option maxRecDepth 20000 in
theorem gL_guardsIn_X8_guardsIn : GoodIn wsL_guardsIn (wsV RL 36 RX8 yX8_guardsIn wsX8_guardsIn) := goodIn_app (goodIn_of _ (by decide +kernel)) ggL_guardsIn_X8_guardsIn
theorem dL_guardsIn_0 : decode cL_guardsIn 0 = .ok (.aload_n 3, 1) := by decide +kernel
theorem dL_guardsIn_1 : decode cL_guardsIn 1 = .ok (.iconst 0, 1) := by decide +kernel
theorem dL_guardsIn_2 : decode cL_guardsIn 2 = .ok (.aload_n 0, 1) := by decide +kernel
theorem dL_guardsIn_3 : decode cL_guardsIn 3 = .ok (.iload_n 1, 1) := by decide +kernel
theorem dL_guardsIn_4 : decode cL_guardsIn 4 = .ok (.iload_n 2, 1) := by decide +kernel
theorem dL_guardsIn_5 : decode cL_guardsIn 5 = .ok (.invokevirtual 36, 3) := by decide +kernel
theorem dL_guardsIn_8 : decode cL_guardsIn 8 = .ok (.i2l, 1) := by decide +kernel
theorem dL_guardsIn_9 : decode cL_guardsIn 9 = .ok (.lastore, 1) := by decide +kernel
theorem dL_guardsIn_10 : decode cL_guardsIn 10 = .ok (.goto 11, 3) := by decide +kernel
theorem dL_guardsIn_13 : decode cL_guardsIn 13 = .ok (.astore 4, 2) := by decide +kernel
theorem dL_guardsIn_15 : decode cL_guardsIn 15 = .ok (.iconst 1, 1) := by decide +kernel
theorem dL_guardsIn_16 : decode cL_guardsIn 16 = .ok (.ireturn, 1) := by decide +kernel
theorem dL_guardsIn_17 : decode cL_guardsIn 17 = .ok (.astore 4, 2) := by decide +kernel
theorem dL_guardsIn_19 : decode cL_guardsIn 19 = .ok (.iconst 2, 1) := by decide +kernel
theorem dL_guardsIn_20 : decode cL_guardsIn 20 = .ok (.ireturn, 1) := by decide +kernel
theorem dL_guardsIn_21 : decode cL_guardsIn 21 = .ok (.iconst 0, 1) := by decide +kernel
theorem dL_guardsIn_22 : decode cL_guardsIn 22 = .ok (.ireturn, 1) := by decide +kernel
set_option maxRecDepth 20000 in
theorem ggL_nextSeen_X8_nextSeen : GoodIn wsL_nextSeen wsX8_nextSeen := goodIn_ca (goodIn_ca (goodIn_r _ [7, 8, 9, 10, 11, 12, 6, 13, 14, 15, 16, 17, 18, 19, 20, 21, 22, 23, 24, 25, 26, 27, 28, 29, 30, 31, 32, 33, 34, 35, 36, 37, 38, 39, 40, 41, 42, 43, 44, 45, 46, 47, 48, 49, 50, 51, 52, 53, 54, 55, 56, 57, 58, 59, 60, 61, 62, 63, 64, 65, 66, 67, 68, 69, 70, 71, 72, 73, 74, 75, 76, 77, 78, 79, 80, 81] (by decide +kernel) (by decide +kernel)) (goodIn_sub (fun _ h => List.mem_cons_of_mem _ (List.mem_append_left _ (List.mem_append_right _ h))) (by decide +kernel))) (goodIn_sub (fun _ h => List.mem_cons_of_mem _ (List.mem_append_right _ h)) (by decide +kernel))
set_option maxRecDepth 20000 in
theorem gL_nextSeen_X8_nextSeen : GoodIn wsL_nextSeen (wsV RL 39 RX8 yX8_nextSeen wsX8_nextSeen) := goodIn_app (goodIn_of _ (by decide +kernel)) ggL_nextSeen_X8_nextSeen
theorem dL_nextSeen_0 : decode cL_nextSeen 0 = .ok (.aload_n 3, 1) := by decide +kernel
theorem dL_nextSeen_1 : decode cL_nextSeen 1 = .ok (.iconst 0, 1) := by decide +kernel
theorem dL_nextSeen_2 : decode cL_nextSeen 2 = .ok (.aload_n 0, 1) := by decide +kernel
theorem dL_nextSeen_3 : decode cL_nextSeen 3 = .ok (.iload_n 1, 1) := by decide +kernel
theorem dL_nextSeen_4 : decode cL_nextSeen 4 = .ok (.iload_n 2, 1) := by decide +kernel
theorem dL_nextSeen_5 : decode cL_nextSeen 5 = .ok (.invokevirtual 39, 3) := by decide +kernel
theorem dL_nextSeen_8 : decode cL_nextSeen 8 = .ok (.i2l, 1) := by decide +kernel
theorem dL_nextSeen_9 : decode cL_nextSeen 9 = .ok (.lastore, 1) := by decide +kernel
theorem dL_nextSeen_10 : decode cL_nextSeen 10 = .ok (.goto 11, 3) := by decide +kernel
theorem dL_nextSeen_13 : decode cL_nextSeen 13 = .ok (.astore 4, 2) := by decide +kernel
theorem dL_nextSeen_15 : decode cL_nextSeen 15 = .ok (.iconst 1, 1) := by decide +kernel
theorem dL_nextSeen_16 : decode cL_nextSeen 16 = .ok (.ireturn, 1) := by decide +kernel
theorem dL_nextSeen_17 : decode cL_nextSeen 17 = .ok (.astore 4, 2) := by decide +kernel
theorem dL_nextSeen_19 : decode cL_nextSeen 19 = .ok (.iconst 2, 1) := by decide +kernel
theorem dL_nextSeen_20 : decode cL_nextSeen 20 = .ok (.ireturn, 1) := by decide +kernel
theorem dL_nextSeen_21 : decode cL_nextSeen 21 = .ok (.iconst 0, 1) := by decide +kernel
theorem dL_nextSeen_22 : decode cL_nextSeen 22 = .ok (.ireturn, 1) := by decide +kernel
set_option maxRecDepth 20000 in
theorem ggL_gapFrom_X8_gapFrom : GoodIn wsL_gapFrom wsX8_gapFrom := goodIn_ca (goodIn_r _ [6, 7, 8, 9, 10, 5, 11, 12, 13, 14, 15, 16, 17, 18, 19, 20, 21, 22, 23, 24, 25, 26, 27, 28, 29, 30, 31, 32, 33, 34, 35, 36, 37, 38, 39, 40, 41, 42, 43, 44, 45, 46, 47, 48, 49, 50, 51, 52, 53, 54, 55, 56, 57, 58, 59, 60, 61, 62, 63, 64, 65, 66, 67, 68, 69, 70, 71, 72, 73, 74, 75, 76, 77, 78, 79, 80, 81, 82, 83, 84, 85, 86, 87, 88, 89, 90, 91, 92, 93, 94, 95, 96, 97, 98, 99, 100, 101, 102, 103, 104, 105, 106, 107, 108, 109, 110, 111, 112, 113, 114, 115, 116, 117, 118, 119, 120, 121, 122, 123, 124, 125, 126, 127] (by decide +kernel) (by decide +kernel)) (goodIn_sub (fun _ h => List.mem_cons_of_mem _ (List.mem_append_right _ h)) (by decide +kernel))
set_option maxRecDepth 20000 in
theorem gL_gapFrom_X8_gapFrom : GoodIn wsL_gapFrom (wsV RL 42 RX8 yX8_gapFrom wsX8_gapFrom) := goodIn_app (goodIn_of _ (by decide +kernel)) ggL_gapFrom_X8_gapFrom
theorem dL_gapFrom_0 : decode cL_gapFrom 0 = .ok (.aload_n 2, 1) := by decide +kernel
theorem dL_gapFrom_1 : decode cL_gapFrom 1 = .ok (.iconst 0, 1) := by decide +kernel
theorem dL_gapFrom_2 : decode cL_gapFrom 2 = .ok (.aload_n 0, 1) := by decide +kernel
theorem dL_gapFrom_3 : decode cL_gapFrom 3 = .ok (.iload_n 1, 1) := by decide +kernel
theorem dL_gapFrom_4 : decode cL_gapFrom 4 = .ok (.invokevirtual 42, 3) := by decide +kernel
theorem dL_gapFrom_7 : decode cL_gapFrom 7 = .ok (.i2l, 1) := by decide +kernel
theorem dL_gapFrom_8 : decode cL_gapFrom 8 = .ok (.lastore, 1) := by decide +kernel
theorem dL_gapFrom_9 : decode cL_gapFrom 9 = .ok (.goto 6, 3) := by decide +kernel
theorem dL_gapFrom_12 : decode cL_gapFrom 12 = .ok (.astore_n 3, 1) := by decide +kernel
theorem dL_gapFrom_13 : decode cL_gapFrom 13 = .ok (.iconst 1, 1) := by decide +kernel
theorem dL_gapFrom_14 : decode cL_gapFrom 14 = .ok (.ireturn, 1) := by decide +kernel
theorem dL_gapFrom_15 : decode cL_gapFrom 15 = .ok (.iconst 0, 1) := by decide +kernel
theorem dL_gapFrom_16 : decode cL_gapFrom 16 = .ok (.ireturn, 1) := by decide +kernel
set_option maxRecDepth 20000 in
theorem ggL_isJoined_X8_isJoined : GoodIn wsL_isJoined wsX8_isJoined := goodIn_ca (goodIn_r _ [6, 7, 8, 9, 10, 5, 11, 12, 13, 14, 15, 16, 17, 18, 19, 20, 21, 22, 23, 24, 25, 26, 27, 28, 29, 30, 31, 32, 33, 34, 35, 36, 37, 38, 39, 40, 41, 42, 43, 44, 45, 46, 47, 48, 49, 50, 51, 52, 53, 54, 55, 56, 57, 58, 59, 60] (by decide +kernel) (by decide +kernel)) (goodIn_sub (fun _ h => List.mem_cons_of_mem _ (List.mem_append_right _ h)) (by decide +kernel))
set_option maxRecDepth 20000 in
theorem gL_isJoined_X8_isJoined : GoodIn wsL_isJoined (wsV RL 45 RX8 yX8_isJoined wsX8_isJoined) := goodIn_app (goodIn_of _ (by decide +kernel)) ggL_isJoined_X8_isJoined
theorem dL_isJoined_0 : decode cL_isJoined 0 = .ok (.aload_n 3, 1) := by decide +kernel
theorem dL_isJoined_1 : decode cL_isJoined 1 = .ok (.iconst 0, 1) := by decide +kernel
theorem dL_isJoined_2 : decode cL_isJoined 2 = .ok (.aload_n 0, 1) := by decide +kernel
theorem dL_isJoined_3 : decode cL_isJoined 3 = .ok (.iload_n 1, 1) := by decide +kernel
theorem dL_isJoined_4 : decode cL_isJoined 4 = .ok (.iload_n 2, 1) := by decide +kernel
theorem dL_isJoined_5 : decode cL_isJoined 5 = .ok (.invokevirtual 45, 3) := by decide +kernel
theorem dL_isJoined_8 : decode cL_isJoined 8 = .ok (.ifCond .eq 7, 3) := by decide +kernel
theorem dL_isJoined_11 : decode cL_isJoined 11 = .ok (.lconst 1, 1) := by decide +kernel
theorem dL_isJoined_12 : decode cL_isJoined 12 = .ok (.goto 4, 3) := by decide +kernel
theorem dL_isJoined_15 : decode cL_isJoined 15 = .ok (.lconst 0, 1) := by decide +kernel
theorem dL_isJoined_16 : decode cL_isJoined 16 = .ok (.lastore, 1) := by decide +kernel
theorem dL_isJoined_17 : decode cL_isJoined 17 = .ok (.goto 7, 3) := by decide +kernel
theorem dL_isJoined_20 : decode cL_isJoined 20 = .ok (.astore 4, 2) := by decide +kernel
theorem dL_isJoined_22 : decode cL_isJoined 22 = .ok (.iconst 1, 1) := by decide +kernel
theorem dL_isJoined_23 : decode cL_isJoined 23 = .ok (.ireturn, 1) := by decide +kernel
theorem dL_isJoined_24 : decode cL_isJoined 24 = .ok (.iconst 0, 1) := by decide +kernel
theorem dL_isJoined_25 : decode cL_isJoined 25 = .ok (.ireturn, 1) := by decide +kernel
set_option maxRecDepth 20000 in
theorem ggL_distance_X8_distance : GoodIn wsL_distance wsX8_distance := goodIn_ca (goodIn_r _ [6, 7, 8, 9, 10, 5, 11, 12, 13, 14, 15, 16, 17, 18, 19, 20, 21, 22, 23, 24, 25, 26, 27, 28, 29, 30, 31, 32, 33, 34, 35, 36, 37, 38, 39, 40, 41, 42, 43, 44, 45, 46, 47, 48, 49, 50, 51, 52, 53, 54, 55, 56, 57, 58, 59] (by decide +kernel) (by decide +kernel)) (goodIn_sub (fun _ h => List.mem_cons_of_mem _ (List.mem_append_right _ h)) (by decide +kernel))
set_option maxRecDepth 20000 in
theorem gL_distance_X8_distance : GoodIn wsL_distance (wsV RL 49 RX8 yX8_distance wsX8_distance) := goodIn_app (goodIn_of _ (by decide +kernel)) ggL_distance_X8_distance
theorem dL_distance_0 : decode cL_distance 0 = .ok (.aload_n 3, 1) := by decide +kernel
theorem dL_distance_1 : decode cL_distance 1 = .ok (.iconst 0, 1) := by decide +kernel
theorem dL_distance_2 : decode cL_distance 2 = .ok (.aload_n 0, 1) := by decide +kernel
theorem dL_distance_3 : decode cL_distance 3 = .ok (.iload_n 1, 1) := by decide +kernel
theorem dL_distance_4 : decode cL_distance 4 = .ok (.iload_n 2, 1) := by decide +kernel
theorem dL_distance_5 : decode cL_distance 5 = .ok (.invokevirtual 49, 3) := by decide +kernel
theorem dL_distance_8 : decode cL_distance 8 = .ok (.i2l, 1) := by decide +kernel
theorem dL_distance_9 : decode cL_distance 9 = .ok (.lastore, 1) := by decide +kernel
theorem dL_distance_10 : decode cL_distance 10 = .ok (.goto 7, 3) := by decide +kernel
theorem dL_distance_13 : decode cL_distance 13 = .ok (.astore 4, 2) := by decide +kernel
theorem dL_distance_15 : decode cL_distance 15 = .ok (.iconst 1, 1) := by decide +kernel
theorem dL_distance_16 : decode cL_distance 16 = .ok (.ireturn, 1) := by decide +kernel
theorem dL_distance_17 : decode cL_distance 17 = .ok (.iconst 0, 1) := by decide +kernel
theorem dL_distance_18 : decode cL_distance 18 = .ok (.ireturn, 1) := by decide +kernel
set_option maxRecDepth 20000 in
theorem ggL_meetings_X8_meetings : GoodIn wsL_meetings wsX8_meetings := goodIn_ca (goodIn_r _ [6, 7, 8, 9, 10, 5, 11, 12, 13, 14, 15, 16, 17, 18, 19, 20, 21, 22, 23, 24, 25, 26, 27, 28, 29, 30, 31, 32, 33, 34, 35, 36, 37, 38, 39, 40, 41, 42, 43, 44, 45, 46, 47, 48, 49, 50, 51, 52, 53, 54, 55, 56, 57, 58, 59, 60, 61, 62, 63, 64, 65, 66, 67, 68, 69, 70] (by decide +kernel) (by decide +kernel)) (goodIn_sub (fun _ h => List.mem_cons_of_mem _ (List.mem_append_right _ h)) (by decide +kernel))
set_option maxRecDepth 20000 in
theorem gL_meetings_X8_meetings : GoodIn wsL_meetings (wsV RL 52 RX8 yX8_meetings wsX8_meetings) := goodIn_app (goodIn_of _ (by decide +kernel)) ggL_meetings_X8_meetings
theorem dL_meetings_0 : decode cL_meetings 0 = .ok (.aload_n 3, 1) := by decide +kernel
theorem dL_meetings_1 : decode cL_meetings 1 = .ok (.iconst 0, 1) := by decide +kernel
theorem dL_meetings_2 : decode cL_meetings 2 = .ok (.aload_n 0, 1) := by decide +kernel
theorem dL_meetings_3 : decode cL_meetings 3 = .ok (.iload_n 1, 1) := by decide +kernel
theorem dL_meetings_4 : decode cL_meetings 4 = .ok (.iload_n 2, 1) := by decide +kernel
theorem dL_meetings_5 : decode cL_meetings 5 = .ok (.invokevirtual 52, 3) := by decide +kernel
theorem dL_meetings_8 : decode cL_meetings 8 = .ok (.i2l, 1) := by decide +kernel
theorem dL_meetings_9 : decode cL_meetings 9 = .ok (.lastore, 1) := by decide +kernel
theorem dL_meetings_10 : decode cL_meetings 10 = .ok (.goto 7, 3) := by decide +kernel
theorem dL_meetings_13 : decode cL_meetings 13 = .ok (.astore 4, 2) := by decide +kernel
theorem dL_meetings_15 : decode cL_meetings 15 = .ok (.iconst 1, 1) := by decide +kernel
theorem dL_meetings_16 : decode cL_meetings 16 = .ok (.ireturn, 1) := by decide +kernel
theorem dL_meetings_17 : decode cL_meetings 17 = .ok (.iconst 0, 1) := by decide +kernel
theorem dL_meetings_18 : decode cL_meetings 18 = .ok (.ireturn, 1) := by decide +kernel
set_option maxRecDepth 20000 in
theorem ggL_passings_X8_passings : GoodIn wsL_passings wsX8_passings := goodIn_ca (goodIn_r _ [6, 7, 8, 9, 10, 5, 11, 12, 13, 14, 15, 16, 17, 18, 19, 20, 21, 22, 23, 24, 25, 26, 27, 28, 29, 30, 31, 32, 33, 34, 35, 36, 37, 38, 39, 40, 41, 42, 43, 44, 45, 46, 47, 48, 49, 50, 51, 52, 53, 54, 55, 56, 57, 58, 59, 60, 61, 62, 63, 64, 65, 66, 67, 68, 69, 70] (by decide +kernel) (by decide +kernel)) (goodIn_sub (fun _ h => List.mem_cons_of_mem _ (List.mem_append_right _ h)) (by decide +kernel))
set_option maxRecDepth 20000 in
theorem gL_passings_X8_passings : GoodIn wsL_passings (wsV RL 55 RX8 yX8_passings wsX8_passings) := goodIn_app (goodIn_of _ (by decide +kernel)) ggL_passings_X8_passings
theorem dL_passings_0 : decode cL_passings 0 = .ok (.aload_n 3, 1) := by decide +kernel
theorem dL_passings_1 : decode cL_passings 1 = .ok (.iconst 0, 1) := by decide +kernel
theorem dL_passings_2 : decode cL_passings 2 = .ok (.aload_n 0, 1) := by decide +kernel
theorem dL_passings_3 : decode cL_passings 3 = .ok (.iload_n 1, 1) := by decide +kernel
theorem dL_passings_4 : decode cL_passings 4 = .ok (.iload_n 2, 1) := by decide +kernel
theorem dL_passings_5 : decode cL_passings 5 = .ok (.invokevirtual 55, 3) := by decide +kernel
theorem dL_passings_8 : decode cL_passings 8 = .ok (.i2l, 1) := by decide +kernel
theorem dL_passings_9 : decode cL_passings 9 = .ok (.lastore, 1) := by decide +kernel
theorem dL_passings_10 : decode cL_passings 10 = .ok (.goto 7, 3) := by decide +kernel
theorem dL_passings_13 : decode cL_passings 13 = .ok (.astore 4, 2) := by decide +kernel
theorem dL_passings_15 : decode cL_passings 15 = .ok (.iconst 1, 1) := by decide +kernel
theorem dL_passings_16 : decode cL_passings 16 = .ok (.ireturn, 1) := by decide +kernel
theorem dL_passings_17 : decode cL_passings 17 = .ok (.iconst 0, 1) := by decide +kernel
theorem dL_passings_18 : decode cL_passings 18 = .ok (.ireturn, 1) := by decide +kernel
set_option maxRecDepth 20000 in
theorem ggL_nextMeeting_X8_nextMeeting : GoodIn wsL_nextMeeting wsX8_nextMeeting := goodIn_ca (goodIn_ca (goodIn_r _ [7, 8, 9, 10, 11, 12, 6, 13, 14, 15, 16, 17, 18, 19, 20, 21, 22, 23, 24, 25, 26, 27, 28, 29, 30, 31, 32, 33, 34, 35, 36, 37, 38, 39, 40, 41, 42, 43, 44, 45, 46, 47, 48, 49, 50, 51, 52, 53, 54, 55, 56, 57, 58, 59, 60, 61, 62, 63, 64, 65, 66, 67, 68, 69, 70, 71, 72, 73] (by decide +kernel) (by decide +kernel)) (goodIn_sub (fun _ h => List.mem_cons_of_mem _ (List.mem_append_left _ (List.mem_append_right _ h))) (by decide +kernel))) (goodIn_sub (fun _ h => List.mem_cons_of_mem _ (List.mem_append_right _ h)) (by decide +kernel))
set_option maxRecDepth 20000 in
theorem gL_nextMeeting_X8_nextMeeting : GoodIn wsL_nextMeeting (wsV RL 58 RX8 yX8_nextMeeting wsX8_nextMeeting) := goodIn_app (goodIn_of _ (by decide +kernel)) ggL_nextMeeting_X8_nextMeeting
theorem dL_nextMeeting_0 : decode cL_nextMeeting 0 = .ok (.aload 4, 2) := by decide +kernel
theorem dL_nextMeeting_2 : decode cL_nextMeeting 2 = .ok (.iconst 0, 1) := by decide +kernel
theorem dL_nextMeeting_3 : decode cL_nextMeeting 3 = .ok (.aload_n 0, 1) := by decide +kernel
theorem dL_nextMeeting_4 : decode cL_nextMeeting 4 = .ok (.iload_n 1, 1) := by decide +kernel
theorem dL_nextMeeting_5 : decode cL_nextMeeting 5 = .ok (.iload_n 2, 1) := by decide +kernel
theorem dL_nextMeeting_6 : decode cL_nextMeeting 6 = .ok (.iload_n 3, 1) := by decide +kernel
theorem dL_nextMeeting_7 : decode cL_nextMeeting 7 = .ok (.invokevirtual 58, 3) := by decide +kernel
theorem dL_nextMeeting_10 : decode cL_nextMeeting 10 = .ok (.i2l, 1) := by decide +kernel
theorem dL_nextMeeting_11 : decode cL_nextMeeting 11 = .ok (.lastore, 1) := by decide +kernel
theorem dL_nextMeeting_12 : decode cL_nextMeeting 12 = .ok (.goto 11, 3) := by decide +kernel
theorem dL_nextMeeting_15 : decode cL_nextMeeting 15 = .ok (.astore 5, 2) := by decide +kernel
theorem dL_nextMeeting_17 : decode cL_nextMeeting 17 = .ok (.iconst 1, 1) := by decide +kernel
theorem dL_nextMeeting_18 : decode cL_nextMeeting 18 = .ok (.ireturn, 1) := by decide +kernel
theorem dL_nextMeeting_19 : decode cL_nextMeeting 19 = .ok (.astore 5, 2) := by decide +kernel
theorem dL_nextMeeting_21 : decode cL_nextMeeting 21 = .ok (.iconst 2, 1) := by decide +kernel
theorem dL_nextMeeting_22 : decode cL_nextMeeting 22 = .ok (.ireturn, 1) := by decide +kernel
theorem dL_nextMeeting_23 : decode cL_nextMeeting 23 = .ok (.iconst 0, 1) := by decide +kernel
theorem dL_nextMeeting_24 : decode cL_nextMeeting 24 = .ok (.ireturn, 1) := by decide +kernel
set_option maxRecDepth 20000 in
theorem ggL_worstWith_X8_worstWith : GoodIn wsL_worstWith wsX8_worstWith := goodIn_ca (goodIn_ca (goodIn_r _ [7, 8, 9, 10, 11, 12, 13, 14, 15, 16, 6, 17, 18, 19, 20, 21, 22, 23, 24, 25, 26, 27, 28, 29, 30, 31, 32, 33, 34, 35, 36, 37, 38, 39, 40, 41, 42, 43, 44, 45, 46, 47, 48, 49, 50, 51, 52, 53, 54, 55, 56, 57, 58, 59, 60, 61, 62, 63, 64, 65, 66, 67, 68, 69, 70, 71, 72, 73, 74, 75, 76, 77, 78, 79, 80, 81, 82, 83, 84, 85, 86, 87, 88, 89, 90, 91, 92, 93, 94, 95, 96, 97, 98, 99, 100, 101, 102, 103, 104, 105, 106, 107, 108, 109, 110, 111, 112, 113, 114, 115, 116, 117, 118, 119, 120, 121, 122, 123, 124, 125, 126, 127, 128, 129, 130, 131, 132, 133, 134, 135, 136, 137, 138, 139, 140, 141, 142, 143, 144, 145, 146, 147] (by decide +kernel) (by decide +kernel)) (goodIn_sub (fun _ h => List.mem_cons_of_mem _ (List.mem_append_left _ (List.mem_append_right _ h))) (by decide +kernel))) (goodIn_sub (fun _ h => List.mem_cons_of_mem _ (List.mem_append_right _ h)) (by decide +kernel))
set_option maxRecDepth 20000 in
theorem gL_worstWith_X8_worstWith : GoodIn wsL_worstWith (wsV RL 62 RX8 yX8_worstWith wsX8_worstWith) := goodIn_app (goodIn_of _ (by decide +kernel)) ggL_worstWith_X8_worstWith
theorem dL_worstWith_0 : decode cL_worstWith 0 = .ok (.aload_n 3, 1) := by decide +kernel
theorem dL_worstWith_1 : decode cL_worstWith 1 = .ok (.iconst 0, 1) := by decide +kernel
theorem dL_worstWith_2 : decode cL_worstWith 2 = .ok (.aload_n 0, 1) := by decide +kernel
theorem dL_worstWith_3 : decode cL_worstWith 3 = .ok (.iload_n 1, 1) := by decide +kernel
theorem dL_worstWith_4 : decode cL_worstWith 4 = .ok (.iload_n 2, 1) := by decide +kernel
theorem dL_worstWith_5 : decode cL_worstWith 5 = .ok (.invokevirtual 62, 3) := by decide +kernel
theorem dL_worstWith_8 : decode cL_worstWith 8 = .ok (.i2l, 1) := by decide +kernel
theorem dL_worstWith_9 : decode cL_worstWith 9 = .ok (.lastore, 1) := by decide +kernel
theorem dL_worstWith_10 : decode cL_worstWith 10 = .ok (.goto 11, 3) := by decide +kernel
theorem dL_worstWith_13 : decode cL_worstWith 13 = .ok (.astore 4, 2) := by decide +kernel
theorem dL_worstWith_15 : decode cL_worstWith 15 = .ok (.iconst 1, 1) := by decide +kernel
theorem dL_worstWith_16 : decode cL_worstWith 16 = .ok (.ireturn, 1) := by decide +kernel
theorem dL_worstWith_17 : decode cL_worstWith 17 = .ok (.astore 4, 2) := by decide +kernel
theorem dL_worstWith_19 : decode cL_worstWith 19 = .ok (.iconst 2, 1) := by decide +kernel
theorem dL_worstWith_20 : decode cL_worstWith 20 = .ok (.ireturn, 1) := by decide +kernel
theorem dL_worstWith_21 : decode cL_worstWith 21 = .ok (.iconst 0, 1) := by decide +kernel
theorem dL_worstWith_22 : decode cL_worstWith 22 = .ok (.ireturn, 1) := by decide +kernel
set_option maxRecDepth 20000 in
theorem ggL_bestPhase_X8_bestPhase : GoodIn wsL_bestPhase wsX8_bestPhase := goodIn_ca (goodIn_r _ [6, 7, 8, 9, 10, 5, 11, 12, 13, 14, 15, 16, 17, 18, 19, 20, 21, 22, 23, 24, 25, 26, 27, 28, 29, 30, 31, 32, 33, 34, 35, 36, 37, 38, 39, 40, 41, 42, 43, 44, 45, 46, 47, 48, 49, 50, 51, 52, 53, 54, 55, 56, 57, 58, 59, 60, 61, 62, 63, 64, 65, 66, 67, 68, 69, 70, 71, 72, 73, 74, 75, 76, 77, 78, 79, 80, 81, 82, 83, 84, 85, 86, 87, 88, 89, 90, 91, 92, 93, 94, 95, 96, 97, 98, 99, 100, 101, 102, 103, 104, 105, 106, 107, 108, 109, 110, 111, 112, 113, 114, 115, 116, 117, 118, 119, 120, 121, 122, 123, 124, 125, 126, 127, 128, 129, 130, 131, 132, 133, 134, 135, 136, 137, 138, 139, 140, 141, 142, 143, 144, 145, 146, 147, 148, 149, 150, 151, 152, 153, 154, 155, 156, 157, 158, 159, 160, 161, 162, 163, 164, 165, 166, 167, 168, 169, 170, 171, 172, 173, 174, 175, 176, 177, 178, 179, 180, 181, 182, 183, 184, 185, 186, 187, 188, 189, 190, 191, 192, 193, 194, 195, 196, 197] (by decide +kernel) (by decide +kernel)) (goodIn_sub (fun _ h => List.mem_cons_of_mem _ (List.mem_append_right _ h)) (by decide +kernel))
set_option maxRecDepth 20000 in
theorem gL_bestPhase_X8_bestPhase : GoodIn wsL_bestPhase (wsV RL 65 RX8 yX8_bestPhase wsX8_bestPhase) := goodIn_app (goodIn_of _ (by decide +kernel)) ggL_bestPhase_X8_bestPhase
theorem dL_bestPhase_0 : decode cL_bestPhase 0 = .ok (.aload_n 2, 1) := by decide +kernel
theorem dL_bestPhase_1 : decode cL_bestPhase 1 = .ok (.iconst 0, 1) := by decide +kernel
theorem dL_bestPhase_2 : decode cL_bestPhase 2 = .ok (.aload_n 0, 1) := by decide +kernel
theorem dL_bestPhase_3 : decode cL_bestPhase 3 = .ok (.iload_n 1, 1) := by decide +kernel
theorem dL_bestPhase_4 : decode cL_bestPhase 4 = .ok (.invokevirtual 65, 3) := by decide +kernel
theorem dL_bestPhase_7 : decode cL_bestPhase 7 = .ok (.i2l, 1) := by decide +kernel
theorem dL_bestPhase_8 : decode cL_bestPhase 8 = .ok (.lastore, 1) := by decide +kernel
theorem dL_bestPhase_9 : decode cL_bestPhase 9 = .ok (.goto 6, 3) := by decide +kernel
theorem dL_bestPhase_12 : decode cL_bestPhase 12 = .ok (.astore_n 3, 1) := by decide +kernel
theorem dL_bestPhase_13 : decode cL_bestPhase 13 = .ok (.iconst 1, 1) := by decide +kernel
theorem dL_bestPhase_14 : decode cL_bestPhase 14 = .ok (.ireturn, 1) := by decide +kernel
theorem dL_bestPhase_15 : decode cL_bestPhase 15 = .ok (.iconst 0, 1) := by decide +kernel
theorem dL_bestPhase_16 : decode cL_bestPhase 16 = .ok (.ireturn, 1) := by decide +kernel
set_option maxRecDepth 20000 in
theorem ggL_arrival_X8_arrival : GoodIn wsL_arrival wsX8_arrival := goodIn_ca (goodIn_ca (goodIn_r _ [7, 8, 9, 10, 11, 12, 13, 6, 14, 15, 16, 17, 18, 19, 20, 21, 22, 23, 24, 25, 26, 27, 28, 29, 30, 31, 32, 33, 34, 35, 36, 37, 38, 39, 40, 41, 42, 43, 44, 45, 46, 47, 48, 49, 50, 51, 52, 53, 54, 55, 56, 57, 58, 59, 60, 61, 62, 63, 64, 65, 66, 67, 68, 69, 70, 71, 72, 73, 74, 75, 76, 77, 78, 79, 80, 81, 82, 83, 84, 85, 86, 87, 88, 89, 90, 91, 92, 93, 94, 95, 96, 97, 98, 99, 100, 101, 102, 103, 104, 105, 106, 107, 108, 109] (by decide +kernel) (by decide +kernel)) (goodIn_sub (fun _ h => List.mem_cons_of_mem _ (List.mem_append_left _ (List.mem_append_right _ h))) (by decide +kernel))) (goodIn_sub (fun _ h => List.mem_cons_of_mem _ (List.mem_append_right _ h)) (by decide +kernel))
set_option maxRecDepth 20000 in
theorem gL_arrival_X8_arrival : GoodIn wsL_arrival (wsV RL 68 RX8 yX8_arrival wsX8_arrival) := goodIn_app (goodIn_of _ (by decide +kernel)) ggL_arrival_X8_arrival
theorem dL_arrival_0 : decode cL_arrival 0 = .ok (.aload 4, 2) := by decide +kernel
theorem dL_arrival_2 : decode cL_arrival 2 = .ok (.iconst 0, 1) := by decide +kernel
theorem dL_arrival_3 : decode cL_arrival 3 = .ok (.aload_n 0, 1) := by decide +kernel
theorem dL_arrival_4 : decode cL_arrival 4 = .ok (.iload_n 1, 1) := by decide +kernel
theorem dL_arrival_5 : decode cL_arrival 5 = .ok (.iload_n 2, 1) := by decide +kernel
theorem dL_arrival_6 : decode cL_arrival 6 = .ok (.iload_n 3, 1) := by decide +kernel
theorem dL_arrival_7 : decode cL_arrival 7 = .ok (.invokevirtual 68, 3) := by decide +kernel
theorem dL_arrival_10 : decode cL_arrival 10 = .ok (.i2l, 1) := by decide +kernel
theorem dL_arrival_11 : decode cL_arrival 11 = .ok (.lastore, 1) := by decide +kernel
theorem dL_arrival_12 : decode cL_arrival 12 = .ok (.goto 11, 3) := by decide +kernel
theorem dL_arrival_15 : decode cL_arrival 15 = .ok (.astore 5, 2) := by decide +kernel
theorem dL_arrival_17 : decode cL_arrival 17 = .ok (.iconst 1, 1) := by decide +kernel
theorem dL_arrival_18 : decode cL_arrival 18 = .ok (.ireturn, 1) := by decide +kernel
theorem dL_arrival_19 : decode cL_arrival 19 = .ok (.astore 5, 2) := by decide +kernel
theorem dL_arrival_21 : decode cL_arrival 21 = .ok (.iconst 2, 1) := by decide +kernel
theorem dL_arrival_22 : decode cL_arrival 22 = .ok (.ireturn, 1) := by decide +kernel
theorem dL_arrival_23 : decode cL_arrival 23 = .ok (.iconst 0, 1) := by decide +kernel
theorem dL_arrival_24 : decode cL_arrival 24 = .ok (.ireturn, 1) := by decide +kernel
set_option maxRecDepth 20000 in
theorem ggL_hiding_X8_hiding : GoodIn wsL_hiding wsX8_hiding := goodIn_ca (goodIn_ca (goodIn_r _ [7, 8, 9, 10, 11, 12, 13, 6, 14, 15, 16, 17, 18, 19, 20, 21, 22, 23, 24, 25, 26, 27, 28, 29, 30, 31, 32, 33, 34, 35, 36, 37, 38, 39, 40, 41, 42, 43, 44, 45, 46, 47, 48, 49, 50, 51, 52, 53, 54, 55, 56, 57, 58, 59, 60, 61, 62, 63, 64, 65, 66, 67, 68, 69, 70, 71, 72, 73, 74, 75, 76, 77, 78, 79, 80, 81, 82, 83, 84, 85, 86, 87, 88, 89, 90, 91, 92, 93, 94, 95, 96, 97, 98, 99, 100, 101, 102] (by decide +kernel) (by decide +kernel)) (goodIn_sub (fun _ h => List.mem_cons_of_mem _ (List.mem_append_left _ (List.mem_append_right _ h))) (by decide +kernel))) (goodIn_sub (fun _ h => List.mem_cons_of_mem _ (List.mem_append_right _ h)) (by decide +kernel))
set_option maxRecDepth 20000 in
theorem gL_hiding_X8_hiding : GoodIn wsL_hiding (wsV RL 71 RX8 yX8_hiding wsX8_hiding) := goodIn_app (goodIn_of _ (by decide +kernel)) ggL_hiding_X8_hiding
theorem dL_hiding_0 : decode cL_hiding 0 = .ok (.aload 4, 2) := by decide +kernel
theorem dL_hiding_2 : decode cL_hiding 2 = .ok (.iconst 0, 1) := by decide +kernel
theorem dL_hiding_3 : decode cL_hiding 3 = .ok (.aload_n 0, 1) := by decide +kernel
theorem dL_hiding_4 : decode cL_hiding 4 = .ok (.iload_n 1, 1) := by decide +kernel
theorem dL_hiding_5 : decode cL_hiding 5 = .ok (.iload_n 2, 1) := by decide +kernel
theorem dL_hiding_6 : decode cL_hiding 6 = .ok (.iload_n 3, 1) := by decide +kernel
theorem dL_hiding_7 : decode cL_hiding 7 = .ok (.invokevirtual 71, 3) := by decide +kernel
theorem dL_hiding_10 : decode cL_hiding 10 = .ok (.i2l, 1) := by decide +kernel
theorem dL_hiding_11 : decode cL_hiding 11 = .ok (.lastore, 1) := by decide +kernel
theorem dL_hiding_12 : decode cL_hiding 12 = .ok (.goto 11, 3) := by decide +kernel
theorem dL_hiding_15 : decode cL_hiding 15 = .ok (.astore 5, 2) := by decide +kernel
theorem dL_hiding_17 : decode cL_hiding 17 = .ok (.iconst 1, 1) := by decide +kernel
theorem dL_hiding_18 : decode cL_hiding 18 = .ok (.ireturn, 1) := by decide +kernel
theorem dL_hiding_19 : decode cL_hiding 19 = .ok (.astore 5, 2) := by decide +kernel
theorem dL_hiding_21 : decode cL_hiding 21 = .ok (.iconst 2, 1) := by decide +kernel
theorem dL_hiding_22 : decode cL_hiding 22 = .ok (.ireturn, 1) := by decide +kernel
theorem dL_hiding_23 : decode cL_hiding 23 = .ok (.iconst 0, 1) := by decide +kernel
theorem dL_hiding_24 : decode cL_hiding 24 = .ok (.ireturn, 1) := by decide +kernel
set_option maxRecDepth 20000 in
theorem ggL_pass_X8_pass : GoodIn wsL_pass wsX8_pass := goodIn_ca (goodIn_r _ [6, 7, 8, 9, 10, 11, 12, 5, 13, 14, 15, 16, 17, 18, 19, 20, 21, 22, 23, 24, 25, 26, 27, 28, 29, 30, 31, 32, 33, 34, 35, 36, 37, 38, 39, 40, 41, 42, 43, 44, 45, 46, 47, 48, 49, 50, 51, 52, 53, 54, 55, 56, 57, 58, 59, 60, 61, 62, 63, 64, 65, 66, 67, 68, 69, 70, 71, 72, 73, 74, 75, 76, 77, 78, 79, 80, 81, 82, 83, 84, 85, 86, 87, 88, 89, 90, 91, 92, 93, 94, 95, 96, 97, 98, 99, 100, 101, 102, 103, 104, 105, 106, 107, 108, 109, 110, 111, 112, 113, 114, 115, 116, 117, 118, 119, 120, 121] (by decide +kernel) (by decide +kernel)) (goodIn_sub (fun _ h => List.mem_cons_of_mem _ (List.mem_append_right _ h)) (by decide +kernel))
set_option maxRecDepth 20000 in
theorem gL_pass_X8_pass : GoodIn wsL_pass (wsV RL 74 RX8 yX8_pass wsX8_pass) := goodIn_app (goodIn_of _ (by decide +kernel)) ggL_pass_X8_pass
theorem dL_pass_0 : decode cL_pass 0 = .ok (.aload_n 2, 1) := by decide +kernel
theorem dL_pass_1 : decode cL_pass 1 = .ok (.iconst 0, 1) := by decide +kernel
theorem dL_pass_2 : decode cL_pass 2 = .ok (.aload_n 0, 1) := by decide +kernel
theorem dL_pass_3 : decode cL_pass 3 = .ok (.iload_n 1, 1) := by decide +kernel
theorem dL_pass_4 : decode cL_pass 4 = .ok (.invokevirtual 74, 3) := by decide +kernel
theorem dL_pass_7 : decode cL_pass 7 = .ok (.i2l, 1) := by decide +kernel
theorem dL_pass_8 : decode cL_pass 8 = .ok (.lastore, 1) := by decide +kernel
theorem dL_pass_9 : decode cL_pass 9 = .ok (.goto 6, 3) := by decide +kernel
theorem dL_pass_12 : decode cL_pass 12 = .ok (.astore_n 3, 1) := by decide +kernel
theorem dL_pass_13 : decode cL_pass 13 = .ok (.iconst 1, 1) := by decide +kernel
theorem dL_pass_14 : decode cL_pass 14 = .ok (.ireturn, 1) := by decide +kernel
theorem dL_pass_15 : decode cL_pass 15 = .ok (.iconst 0, 1) := by decide +kernel
theorem dL_pass_16 : decode cL_pass 16 = .ok (.ireturn, 1) := by decide +kernel
set_option maxRecDepth 20000 in
theorem ggL_shift_X8_shift : GoodIn wsL_shift wsX8_shift := goodIn_ca (goodIn_ca (goodIn_r _ [7, 8, 9, 10, 11, 12, 13, 14, 15, 6, 16, 17, 18, 19, 20, 21, 22, 23, 24, 25, 26, 27, 28, 29, 30, 31, 32, 33, 34, 35, 36, 37, 38, 39, 40, 41, 42, 43, 44, 45, 46, 47, 48, 49, 50, 51, 52, 53, 54, 55, 56, 57, 58, 59, 60, 61, 62, 63, 64, 65, 66, 67, 68, 69, 70, 71, 72, 73, 74, 75, 76, 77, 78, 79, 80, 81, 82, 83, 84, 85, 86, 87, 88, 89, 90, 91, 92, 93, 94, 95, 96, 97, 98, 99, 100, 101, 102, 103, 104, 105, 106, 107, 108, 109, 110, 111, 112, 113, 114, 115, 116, 117, 118, 119, 120, 121, 122, 123, 124, 125, 126, 127, 128, 129, 130, 131, 132, 133, 134, 135, 136, 137, 138, 139, 140, 141, 142, 143, 144, 145, 146, 147, 148, 149, 150, 151, 152, 153, 154, 155, 156, 157, 158, 159, 160, 161, 162, 163, 164, 165, 166, 167, 168, 169, 170, 171, 172, 173, 174] (by decide +kernel) (by decide +kernel)) (goodIn_sub (fun _ h => List.mem_cons_of_mem _ (List.mem_append_left _ (List.mem_append_right _ h))) (by decide +kernel))) (goodIn_sub (fun _ h => List.mem_cons_of_mem _ (List.mem_append_right _ h)) (by decide +kernel))

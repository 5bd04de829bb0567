set_option maxRecDepth 20000 in
theorem gL_isSound_X8_guardsIn : GoodIn wsL_isSound (wsV RL 200 RX8 yX8_guardsIn wsX8_guardsIn) := goodIn_app (goodIn_of _ (by decide +kernel)) ggL_isSound_X8_guardsIn
set_option maxRecDepth 20000 in
theorem ggL_isSound_X8_nextSeen : GoodIn wsL_isSound wsX8_nextSeen := goodIn_ca (goodIn_ca (goodIn_r _ [165, 166, 12, 135, 136, 137, 8, 138, 10, 11, 139, 140, 141, 21, 142, 122, 167, 168, 169, 156, 157, 18, 19, 20, 22, 23, 24, 25, 26, 158, 159, 160, 161, 101, 102, 103, 104, 105, 70, 71, 72, 73, 74, 306, 307, 308, 309, 310, 311, 312, 313, 314, 315, 316, 317, 318, 319, 320, 321, 322, 323, 324, 325, 326, 327, 328, 329, 330, 331, 332, 333, 334, 335, 336, 337, 338] (by decide +kernel) (by decide +kernel)) (goodIn_sub (fun _ h => List.mem_cons_of_mem _ (List.mem_append_left _ (List.mem_append_right _ h))) (by decide +kernel))) (goodIn_sub (fun _ h => List.mem_cons_of_mem _ (List.mem_append_right _ h)) (by decide +kernel))
set_option maxRecDepth 20000 in
theorem gL_isSound_X8_nextSeen : GoodIn wsL_isSound (wsV RL 203 RX8 yX8_nextSeen wsX8_nextSeen) := goodIn_app (goodIn_of _ (by decide +kernel)) ggL_isSound_X8_nextSeen
set_option maxRecDepth 20000 in
theorem ggL_isSound_X8_meetings : GoodIn wsL_isSound wsX8_meetings := goodIn_ca (goodIn_r _ [173, 12, 174, 175, 176, 8, 177, 10, 11, 178, 72, 73, 21, 74, 23, 179, 97, 98, 99, 100, 19, 20, 22, 24, 25, 26, 101, 102, 103, 104, 105, 70, 71, 306, 307, 308, 309, 310, 311, 312, 313, 314, 315, 316, 317, 318, 319, 320, 321, 322, 323, 324, 325, 326, 327, 328, 329, 330, 331, 332, 333, 334, 335, 336, 337, 338] (by decide +kernel) (by decide +kernel)) (goodIn_sub (fun _ h => List.mem_cons_of_mem _ (List.mem_append_left _ (List.mem_append_right _ h))) (by decide +kernel))
set_option maxRecDepth 20000 in
theorem gL_isSound_X8_meetings : GoodIn wsL_isSound (wsV RL 206 RX8 yX8_meetings wsX8_meetings) := goodIn_app (goodIn_of _ (by decide +kernel)) ggL_isSound_X8_meetings
set_option maxRecDepth 20000 in
theorem ggL_isSound_X8_passings : GoodIn wsL_isSound wsX8_passings := goodIn_ca (goodIn_r _ [183, 12, 174, 175, 176, 8, 177, 10, 11, 178, 72, 73, 21, 74, 23, 179, 97, 98, 99, 100, 19, 20, 22, 24, 25, 26, 101, 102, 103, 104, 105, 70, 71, 306, 307, 308, 309, 310, 311, 312, 313, 314, 315, 316, 317, 318, 319, 320, 321, 322, 323, 324, 325, 326, 327, 328, 329, 330, 331, 332, 333, 334, 335, 336, 337, 338] (by decide +kernel) (by decide +kernel)) (goodIn_sub (fun _ h => List.mem_cons_of_mem _ (List.mem_append_left _ (List.mem_append_right _ h))) (by decide +kernel))
set_option maxRecDepth 20000 in
theorem gL_isSound_X8_passings : GoodIn wsL_isSound (wsV RL 209 RX8 yX8_passings wsX8_passings) := goodIn_app (goodIn_of _ (by decide +kernel)) ggL_isSound_X8_passings
set_option maxRecDepth 20000 in
theorem ggL_isSound_X8_guard : GoodIn wsL_isSound wsX8_guard := goodIn_ca (goodIn_r _ [187, 10, 11, 12, 188, 189, 16, 190, 174, 175, 176, 8, 177, 178, 72, 73, 21, 74, 23, 191, 102, 103, 104, 24, 105, 70, 71, 192, 112, 113, 114, 115, 116, 117, 306, 307, 308, 309, 310, 311, 312, 313, 314, 315, 316, 317, 318, 319, 320, 321, 322, 323, 324, 325, 326, 327, 328, 329, 330, 331, 332, 333, 334, 335, 336, 337, 338] (by decide +kernel) (by decide +kernel)) (goodIn_sub (fun _ h => List.mem_cons_of_mem _ (List.mem_append_left _ (List.mem_append_right _ h))) (by decide +kernel))
set_option maxRecDepth 20000 in
theorem gL_isSound_X8_guard : GoodIn wsL_isSound (wsV RL 155 RX8 yX8_guard wsX8_guard) := goodIn_app (goodIn_of _ (by decide +kernel)) ggL_isSound_X8_guard
set_option maxRecDepth 20000 in
theorem ggL_isSound_X8_walk : GoodIn wsL_isSound wsX8_walk := goodIn_ca (goodIn_r _ [196, 12, 174, 175, 176, 8, 177, 10, 11, 178, 72, 73, 21, 74, 23, 197, 67, 68, 69, 24, 70, 71, 306, 307, 308, 309, 310, 311, 312, 313, 314, 315, 316, 317, 318, 319, 320, 321, 322, 323, 324, 325, 326, 327, 328, 329, 330, 331, 332, 333, 334, 335, 336, 337, 338] (by decide +kernel) (by decide +kernel)) (goodIn_sub (fun _ h => List.mem_cons_of_mem _ (List.mem_append_left _ (List.mem_append_right _ h))) (by decide +kernel))
set_option maxRecDepth 20000 in
theorem gL_isSound_X8_walk : GoodIn wsL_isSound (wsV RL 157 RX8 yX8_walk wsX8_walk) := goodIn_app (goodIn_of _ (by decide +kernel)) ggL_isSound_X8_walk
set_option maxRecDepth 20000 in
theorem ggL_isSound_X8_isJoined : GoodIn wsL_isSound wsX8_isJoined := goodIn_ca (goodIn_r _ [201, 12, 135, 136, 137, 8, 138, 10, 11, 139, 140, 141, 21, 142, 122, 202, 203, 204, 205, 206, 207, 208, 209, 306, 307, 308, 309, 310, 311, 312, 313, 314, 315, 316, 317, 318, 319, 320, 321, 322, 323, 324, 325, 326, 327, 328, 329, 330, 331, 332, 333, 334, 335, 336, 337, 338] (by decide +kernel) (by decide +kernel)) (goodIn_sub (fun _ h => List.mem_cons_of_mem _ (List.mem_append_left _ (List.mem_append_right _ h))) (by decide +kernel))
set_option maxRecDepth 20000 in
theorem gL_isSound_X8_isJoined : GoodIn wsL_isSound (wsV RL 212 RX8 yX8_isJoined wsX8_isJoined) := goodIn_app (goodIn_of _ (by decide +kernel)) ggL_isSound_X8_isJoined
set_option maxRecDepth 20000 in
theorem ggL_isSound_X8_roomOf : GoodIn wsL_isSound wsX8_roomOf := goodIn_ca (goodIn_ca (goodIn_r _ [213, 12, 174, 175, 176, 8, 177, 10, 11, 178, 72, 73, 21, 74, 23, 153, 154, 155, 156, 157, 191, 102, 103, 104, 24, 105, 70, 71, 306, 307, 308, 309, 310, 311, 312, 313, 314, 315, 316, 317, 318, 319, 320, 321, 322, 323, 324, 325, 326, 327, 328, 329, 330, 331, 332, 333, 334, 335, 336, 337, 338] (by decide +kernel) (by decide +kernel)) (goodIn_sub (fun _ h => List.mem_cons_of_mem _ (List.mem_append_left _ (List.mem_append_right _ h))) (by decide +kernel))) (goodIn_sub (fun _ h => List.mem_cons_of_mem _ (List.mem_append_right _ h)) (by decide +kernel))
set_option maxRecDepth 20000 in
theorem gL_isSound_X8_roomOf : GoodIn wsL_isSound (wsV RL 216 RX8 yX8_roomOf wsX8_roomOf) := goodIn_app (goodIn_of _ (by decide +kernel)) ggL_isSound_X8_roomOf
set_option maxRecDepth 20000 in
theorem ggL_isSound_X8_door : GoodIn wsL_isSound wsX8_door := goodIn_ca (goodIn_r _ [217, 10, 11, 12, 218, 219, 220, 221, 222, 8, 223, 224, 225, 226, 21, 227, 228, 229, 230, 231, 232, 110, 208, 209, 233, 234, 235, 236, 23, 237, 238, 239, 240, 241, 242, 243, 244, 245, 246, 247, 24, 70, 71, 72, 73, 74, 248, 67, 68, 69, 306, 307, 308, 309, 310, 311, 312, 313, 314, 315, 316, 317, 318, 319, 320, 321, 322, 323, 324, 325, 326, 327, 328, 329, 330, 331, 332, 333, 334, 335, 336, 337, 338] (by decide +kernel) (by decide +kernel)) (goodIn_sub (fun _ h => List.mem_cons_of_mem _ (List.mem_append_left _ (List.mem_append_right _ h))) (by decide +kernel))
set_option maxRecDepth 20000 in
theorem gL_isSound_X8_door : GoodIn wsL_isSound (wsV RL 141 RX8 yX8_door wsX8_door) := goodIn_app (goodIn_of _ (by decide +kernel)) ggL_isSound_X8_door
set_option maxRecDepth 20000 in
theorem ggL_isSound_L_isQuick : GoodIn wsL_isSound wsL_isQuick := goodIn_ca (goodIn_ca (goodIn_r _ [252, 253, 254, 3, 255, 5, 6, 7, 8, 9, 10, 11, 12, 13, 14, 15, 16, 17, 18, 19, 20, 21, 22, 23, 24, 25, 26, 27, 28, 29, 30, 31, 32, 33, 34, 35, 36, 37, 38, 39, 40, 41, 42, 43, 44, 45, 46, 47, 48, 49, 50, 51, 52, 2, 4, 53, 54, 55, 56, 57, 58, 59, 60, 61, 62, 63, 64, 65, 66, 67, 68, 69, 70, 71, 72, 73, 74, 75, 76, 77, 78, 79, 80, 81, 82, 83, 84, 85, 86, 87, 88, 89, 90, 91, 92, 93, 94, 95, 96, 97, 98, 99, 100, 101, 102, 103, 104, 105, 106, 107, 108, 109, 110, 111, 112, 113, 114, 115, 116, 117, 118, 119, 120, 121, 122, 123, 256, 257, 251, 258, 259, 260, 261, 262, 263, 166, 264, 135, 136, 137, 138, 139, 140, 141, 142, 167, 168, 169, 156, 157, 265, 266, 267, 268, 269, 270, 271, 272, 273, 274, 275, 276, 208, 209, 277, 278, 279, 280, 281, 282, 283, 284, 285, 286, 287, 288, 289, 149, 150, 151, 152, 153, 154, 155, 158, 159, 160, 161, 290, 291, 292, 293, 294, 295, 296, 297, 298, 299, 300, 301, 302, 303, 304, 305, 206, 306, 307, 308, 309, 310, 311, 312, 313, 314, 315, 316, 317, 318, 319, 320, 321, 322, 323, 324, 325, 326, 327, 328, 329, 330, 331, 332, 333, 334, 335, 336, 337, 338, 339, 340, 341, 342, 343, 344, 345, 346, 347, 348] (by decide +kernel) (by decide +kernel)) (goodIn_sub (fun _ h => List.mem_cons_of_mem _ (List.mem_append_left _ (List.mem_append_right _ h))) (by decide +kernel))) (goodIn_sub (fun _ h => List.mem_cons_of_mem _ (List.mem_append_right _ h)) (by decide +kernel))
set_option maxRecDepth 20000 in
theorem gL_isSound_L_isQuick : GoodIn wsL_isSound (va_wsS RL 219 yL_isQuick wsL_isQuick) := goodIn_app (goodIn_of _ (by decide +kernel)) ggL_isSound_L_isQuick
theorem dL_isSound_0 : decode cL_isSound 0 = .ok (.aload_n 0, 1) := by decide +kernel
theorem dL_isSound_1 : decode cL_isSound 1 = .ok (.iconst 3, 1) := by decide +kernel
theorem dL_isSound_2 : decode cL_isSound 2 = .ok (.invokevirtual 138, 3) := by decide +kernel
theorem dL_isSound_5 : decode cL_isSound 5 = .ok (.istore_n 2, 1) := by decide +kernel
theorem dL_isSound_6 : decode cL_isSound 6 = .ok (.iconst 0, 1) := by decide +kernel
theorem dL_isSound_7 : decode cL_isSound 7 = .ok (.istore_n 3, 1) := by decide +kernel
theorem dL_isSound_8 : decode cL_isSound 8 = .ok (.iconst 0, 1) := by decide +kernel
theorem dL_isSound_9 : decode cL_isSound 9 = .ok (.istore 4, 2) := by decide +kernel
theorem dL_isSound_11 : decode cL_isSound 11 = .ok (.iload 4, 2) := by decide +kernel
theorem dL_isSound_13 : decode cL_isSound 13 = .ok (.aload_n 0, 1) := by decide +kernel
theorem dL_isSound_14 : decode cL_isSound 14 = .ok (.iconst 0, 1) := by decide +kernel
theorem dL_isSound_15 : decode cL_isSound 15 = .ok (.invokevirtual 138, 3) := by decide +kernel
theorem dL_isSound_18 : decode cL_isSound 18 = .ok (.if_icmp .ge 255, 3) := by decide +kernel
theorem dL_isSound_21 : decode cL_isSound 21 = .ok (.aload_n 0, 1) := by decide +kernel
theorem dL_isSound_22 : decode cL_isSound 22 = .ok (.iload 4, 2) := by decide +kernel
theorem dL_isSound_24 : decode cL_isSound 24 = .ok (.iconst 1, 1) := by decide +kernel
theorem dL_isSound_25 : decode cL_isSound 25 = .ok (.invokevirtual 118, 3) := by decide +kernel
theorem dL_isSound_28 : decode cL_isSound 28 = .ok (.istore 5, 2) := by decide +kernel
theorem dL_isSound_30 : decode cL_isSound 30 = .ok (.aload_n 0, 1) := by decide +kernel
theorem dL_isSound_31 : decode cL_isSound 31 = .ok (.iload 4, 2) := by decide +kernel
theorem dL_isSound_33 : decode cL_isSound 33 = .ok (.invokevirtual 192, 3) := by decide +kernel
theorem dL_isSound_36 : decode cL_isSound 36 = .ok (.istore 6, 2) := by decide +kernel
theorem dL_isSound_38 : decode cL_isSound 38 = .ok (.iload_n 3, 1) := by decide +kernel
theorem dL_isSound_39 : decode cL_isSound 39 = .ok (.iload 5, 2) := by decide +kernel
theorem dL_isSound_41 : decode cL_isSound 41 = .ok (.invokestatic 195, 3) := by decide +kernel
theorem dL_isSound_44 : decode cL_isSound 44 = .ok (.istore_n 3, 1) := by decide +kernel
theorem dL_isSound_45 : decode cL_isSound 45 = .ok (.iload 5, 2) := by decide +kernel
theorem dL_isSound_47 : decode cL_isSound 47 = .ok (.ifCond .ge 7, 3) := by decide +kernel
theorem dL_isSound_50 : decode cL_isSound 50 = .ok (.iconst 1, 1) := by decide +kernel
theorem dL_isSound_51 : decode cL_isSound 51 = .ok (.goto 4, 3) := by decide +kernel
theorem dL_isSound_54 : decode cL_isSound 54 = .ok (.iconst 0, 1) := by decide +kernel
theorem dL_isSound_55 : decode cL_isSound 55 = .ok (.aload_n 0, 1) := by decide +kernel
theorem dL_isSound_56 : decode cL_isSound 56 = .ok (.iload 4, 2) := by decide +kernel
theorem dL_isSound_58 : decode cL_isSound 58 = .ok (.iconst 3, 1) := by decide +kernel
theorem dL_isSound_59 : decode cL_isSound 59 = .ok (.invokevirtual 118, 3) := by decide +kernel
theorem dL_isSound_62 : decode cL_isSound 62 = .ok (.ifCond .ne 7, 3) := by decide +kernel
theorem dL_isSound_65 : decode cL_isSound 65 = .ok (.iconst 1, 1) := by decide +kernel
theorem dL_isSound_66 : decode cL_isSound 66 = .ok (.goto 4, 3) := by decide +kernel
theorem dL_isSound_69 : decode cL_isSound 69 = .ok (.iconst 0, 1) := by decide +kernel
theorem dL_isSound_70 : decode cL_isSound 70 = .ok (.if_icmp .ne 75, 3) := by decide +kernel
theorem dL_isSound_73 : decode cL_isSound 73 = .ok (.iload 5, 2) := by decide +kernel
theorem dL_isSound_75 : decode cL_isSound 75 = .ok (.iload_n 2, 1) := by decide +kernel
theorem dL_isSound_76 : decode cL_isSound 76 = .ok (.iconst 1, 1) := by decide +kernel
theorem dL_isSound_77 : decode cL_isSound 77 = .ok (.isub, 1) := by decide +kernel
theorem dL_isSound_78 : decode cL_isSound 78 = .ok (.if_icmp .gt 67, 3) := by decide +kernel
theorem dL_isSound_81 : decode cL_isSound 81 = .ok (.iload 5, 2) := by decide +kernel
theorem dL_isSound_83 : decode cL_isSound 83 = .ok (.ifCond .le 7, 3) := by decide +kernel
theorem dL_isSound_86 : decode cL_isSound 86 = .ok (.iconst 1, 1) := by decide +kernel
theorem dL_isSound_87 : decode cL_isSound 87 = .ok (.goto 4, 3) := by decide +kernel
theorem dL_isSound_90 : decode cL_isSound 90 = .ok (.iconst 0, 1) := by decide +kernel
theorem dL_isSound_91 : decode cL_isSound 91 = .ok (.iload 6, 2) := by decide +kernel
theorem dL_isSound_93 : decode cL_isSound 93 = .ok (.ifCond .lt 7, 3) := by decide +kernel
theorem dL_isSound_96 : decode cL_isSound 96 = .ok (.iconst 1, 1) := by decide +kernel
theorem dL_isSound_97 : decode cL_isSound 97 = .ok (.goto 4, 3) := by decide +kernel
theorem dL_isSound_100 : decode cL_isSound 100 = .ok (.iconst 0, 1) := by decide +kernel
theorem dL_isSound_101 : decode cL_isSound 101 = .ok (.if_icmp .ne 44, 3) := by decide +kernel
theorem dL_isSound_104 : decode cL_isSound 104 = .ok (.aload_n 0, 1) := by decide +kernel
theorem dL_isSound_105 : decode cL_isSound 105 = .ok (.iload 4, 2) := by decide +kernel
theorem dL_isSound_107 : decode cL_isSound 107 = .ok (.iconst 2, 1) := by decide +kernel
theorem dL_isSound_108 : decode cL_isSound 108 = .ok (.invokevirtual 118, 3) := by decide +kernel
theorem dL_isSound_111 : decode cL_isSound 111 = .ok (.iconst 1, 1) := by decide +kernel
theorem dL_isSound_112 : decode cL_isSound 112 = .ok (.if_icmp .ne 7, 3) := by decide +kernel
theorem dL_isSound_115 : decode cL_isSound 115 = .ok (.iconst 1, 1) := by decide +kernel
theorem dL_isSound_116 : decode cL_isSound 116 = .ok (.goto 4, 3) := by decide +kernel
theorem dL_isSound_119 : decode cL_isSound 119 = .ok (.iconst 0, 1) := by decide +kernel
theorem dL_isSound_120 : decode cL_isSound 120 = .ok (.iload 5, 2) := by decide +kernel
theorem dL_isSound_122 : decode cL_isSound 122 = .ok (.ifCond .lt 15, 3) := by decide +kernel
theorem dL_isSound_125 : decode cL_isSound 125 = .ok (.iload 5, 2) := by decide +kernel
theorem dL_isSound_127 : decode cL_isSound 127 = .ok (.aload_n 0, 1) := by decide +kernel
theorem dL_isSound_128 : decode cL_isSound 128 = .ok (.iload 4, 2) := by decide +kernel
theorem dL_isSound_130 : decode cL_isSound 130 = .ok (.iconst 0, 1) := by decide +kernel
theorem dL_isSound_131 : decode cL_isSound 131 = .ok (.invokevirtual 118, 3) := by decide +kernel
theorem dL_isSound_134 : decode cL_isSound 134 = .ok (.if_icmp .le 7, 3) := by decide +kernel
theorem dL_isSound_137 : decode cL_isSound 137 = .ok (.iconst 1, 1) := by decide +kernel
theorem dL_isSound_138 : decode cL_isSound 138 = .ok (.goto 4, 3) := by decide +kernel
theorem dL_isSound_141 : decode cL_isSound 141 = .ok (.iconst 0, 1) := by decide +kernel
theorem dL_isSound_142 : decode cL_isSound 142 = .ok (.if_icmp .eq 5, 3) := by decide +kernel
theorem dL_isSound_145 : decode cL_isSound 145 = .ok (.iconst 0, 1) := by decide +kernel
theorem dL_isSound_146 : decode cL_isSound 146 = .ok (.ireturn, 1) := by decide +kernel
theorem dL_isSound_147 : decode cL_isSound 147 = .ok (.iconst 0, 1) := by decide +kernel
theorem dL_isSound_148 : decode cL_isSound 148 = .ok (.istore 7, 2) := by decide +kernel
theorem dL_isSound_150 : decode cL_isSound 150 = .ok (.iload 7, 2) := by decide +kernel
theorem dL_isSound_152 : decode cL_isSound 152 = .ok (.iload 5, 2) := by decide +kernel
theorem dL_isSound_154 : decode cL_isSound 154 = .ok (.if_icmp .ge 25, 3) := by decide +kernel
theorem dL_isSound_157 : decode cL_isSound 157 = .ok (.aload_n 0, 1) := by decide +kernel
theorem dL_isSound_158 : decode cL_isSound 158 = .ok (.iload 4, 2) := by decide +kernel
theorem dL_isSound_160 : decode cL_isSound 160 = .ok (.iload 6, 2) := by decide +kernel
theorem dL_isSound_162 : decode cL_isSound 162 = .ok (.iload 7, 2) := by decide +kernel
theorem dL_isSound_164 : decode cL_isSound 164 = .ok (.iadd, 1) := by decide +kernel
theorem dL_isSound_165 : decode cL_isSound 165 = .ok (.invokevirtual 200, 3) := by decide +kernel
theorem dL_isSound_168 : decode cL_isSound 168 = .ok (.ifCond .eq 5, 3) := by decide +kernel
theorem dL_isSound_171 : decode cL_isSound 171 = .ok (.iconst 0, 1) := by decide +kernel
theorem dL_isSound_172 : decode cL_isSound 172 = .ok (.ireturn, 1) := by decide +kernel
theorem dL_isSound_173 : decode cL_isSound 173 = .ok (.iinc 7 1, 3) := by decide +kernel
theorem dL_isSound_176 : decode cL_isSound 176 = .ok (.goto (-26), 3) := by decide +kernel
theorem dL_isSound_179 : decode cL_isSound 179 = .ok (.iload 5, 2) := by decide +kernel
theorem dL_isSound_181 : decode cL_isSound 181 = .ok (.ifCond .le 50, 3) := by decide +kernel
theorem dL_isSound_184 : decode cL_isSound 184 = .ok (.aload_n 0, 1) := by decide +kernel
theorem dL_isSound_185 : decode cL_isSound 185 = .ok (.iload 4, 2) := by decide +kernel
theorem dL_isSound_187 : decode cL_isSound 187 = .ok (.iload 6, 2) := by decide +kernel
theorem dL_isSound_189 : decode cL_isSound 189 = .ok (.iload 5, 2) := by decide +kernel
theorem dL_isSound_191 : decode cL_isSound 191 = .ok (.iadd, 1) := by decide +kernel
theorem dL_isSound_192 : decode cL_isSound 192 = .ok (.invokevirtual 200, 3) := by decide +kernel
theorem dL_isSound_195 : decode cL_isSound 195 = .ok (.ifCond .eq 34, 3) := by decide +kernel
theorem dL_isSound_198 : decode cL_isSound 198 = .ok (.aload_n 0, 1) := by decide +kernel
theorem dL_isSound_199 : decode cL_isSound 199 = .ok (.iload 4, 2) := by decide +kernel
theorem dL_isSound_201 : decode cL_isSound 201 = .ok (.iload 6, 2) := by decide +kernel
theorem dL_isSound_203 : decode cL_isSound 203 = .ok (.iload_n 2, 1) := by decide +kernel
theorem dL_isSound_204 : decode cL_isSound 204 = .ok (.iadd, 1) := by decide +kernel
theorem dL_isSound_205 : decode cL_isSound 205 = .ok (.iconst 1, 1) := by decide +kernel
theorem dL_isSound_206 : decode cL_isSound 206 = .ok (.isub, 1) := by decide +kernel
theorem dL_isSound_207 : decode cL_isSound 207 = .ok (.invokevirtual 200, 3) := by decide +kernel
theorem dL_isSound_210 : decode cL_isSound 210 = .ok (.ifCond .eq 19, 3) := by decide +kernel
theorem dL_isSound_213 : decode cL_isSound 213 = .ok (.aload_n 0, 1) := by decide +kernel
theorem dL_isSound_214 : decode cL_isSound 214 = .ok (.iload 4, 2) := by decide +kernel
theorem dL_isSound_216 : decode cL_isSound 216 = .ok (.iload 6, 2) := by decide +kernel
theorem dL_isSound_218 : decode cL_isSound 218 = .ok (.invokevirtual 203, 3) := by decide +kernel
theorem dL_isSound_221 : decode cL_isSound 221 = .ok (.iload 6, 2) := by decide +kernel
theorem dL_isSound_223 : decode cL_isSound 223 = .ok (.iload 5, 2) := by decide +kernel
theorem dL_isSound_225 : decode cL_isSound 225 = .ok (.iadd, 1) := by decide +kernel
theorem dL_isSound_226 : decode cL_isSound 226 = .ok (.if_icmp .eq 5, 3) := by decide +kernel
theorem dL_isSound_229 : decode cL_isSound 229 = .ok (.iconst 0, 1) := by decide +kernel
theorem dL_isSound_230 : decode cL_isSound 230 = .ok (.ireturn, 1) := by decide +kernel
theorem dL_isSound_231 : decode cL_isSound 231 = .ok (.aload_n 0, 1) := by decide +kernel
theorem dL_isSound_232 : decode cL_isSound 232 = .ok (.iload 4, 2) := by decide +kernel
theorem dL_isSound_234 : decode cL_isSound 234 = .ok (.bipush 6, 2) := by decide +kernel
theorem dL_isSound_236 : decode cL_isSound 236 = .ok (.invokevirtual 118, 3) := by decide +kernel
theorem dL_isSound_239 : decode cL_isSound 239 = .ok (.aload_n 0, 1) := by decide +kernel
theorem dL_isSound_240 : decode cL_isSound 240 = .ok (.iload 4, 2) := by decide +kernel
theorem dL_isSound_242 : decode cL_isSound 242 = .ok (.bipush 7, 2) := by decide +kernel
theorem dL_isSound_244 : decode cL_isSound 244 = .ok (.invokevirtual 118, 3) := by decide +kernel
theorem dL_isSound_247 : decode cL_isSound 247 = .ok (.if_icmp .gt 18, 3) := by decide +kernel
theorem dL_isSound_250 : decode cL_isSound 250 = .ok (.aload_n 0, 1) := by decide +kernel
theorem dL_isSound_251 : decode cL_isSound 251 = .ok (.iload 4, 2) := by decide +kernel
theorem dL_isSound_253 : decode cL_isSound 253 = .ok (.iconst 5, 1) := by decide +kernel
theorem dL_isSound_254 : decode cL_isSound 254 = .ok (.invokevirtual 118, 3) := by decide +kernel
theorem dL_isSound_257 : decode cL_isSound 257 = .ok (.aload_n 0, 1) := by decide +kernel
theorem dL_isSound_258 : decode cL_isSound 258 = .ok (.iconst 4, 1) := by decide +kernel
theorem dL_isSound_259 : decode cL_isSound 259 = .ok (.invokevirtual 138, 3) := by decide +kernel
theorem dL_isSound_262 : decode cL_isSound 262 = .ok (.if_icmp .lt 5, 3) := by decide +kernel
theorem dL_isSound_265 : decode cL_isSound 265 = .ok (.iconst 0, 1) := by decide +kernel
theorem dL_isSound_266 : decode cL_isSound 266 = .ok (.ireturn, 1) := by decide +kernel
theorem dL_isSound_267 : decode cL_isSound 267 = .ok (.iinc 4 1, 3) := by decide +kernel
theorem dL_isSound_270 : decode cL_isSound 270 = .ok (.goto (-259), 3) := by decide +kernel
theorem dL_isSound_273 : decode cL_isSound 273 = .ok (.iload_n 3, 1) := by decide +kernel
theorem dL_isSound_274 : decode cL_isSound 274 = .ok (.aload_n 0, 1) := by decide +kernel
theorem dL_isSound_275 : decode cL_isSound 275 = .ok (.iconst 5, 1) := by decide +kernel
theorem dL_isSound_276 : decode cL_isSound 276 = .ok (.invokevirtual 138, 3) := by decide +kernel
theorem dL_isSound_279 : decode cL_isSound 279 = .ok (.if_icmp .eq 5, 3) := by decide +kernel
theorem dL_isSound_282 : decode cL_isSound 282 = .ok (.iconst 0, 1) := by decide +kernel
theorem dL_isSound_283 : decode cL_isSound 283 = .ok (.ireturn, 1) := by decide +kernel
theorem dL_isSound_284 : decode cL_isSound 284 = .ok (.iconst 0, 1) := by decide +kernel
theorem dL_isSound_285 : decode cL_isSound 285 = .ok (.istore 4, 2) := by decide +kernel
theorem dL_isSound_287 : decode cL_isSound 287 = .ok (.iconst 0, 1) := by decide +kernel
theorem dL_isSound_288 : decode cL_isSound 288 = .ok (.istore 5, 2) := by decide +kernel
theorem dL_isSound_290 : decode cL_isSound 290 = .ok (.iload 5, 2) := by decide +kernel
theorem dL_isSound_292 : decode cL_isSound 292 = .ok (.aload_n 0, 1) := by decide +kernel
theorem dL_isSound_293 : decode cL_isSound 293 = .ok (.iconst 2, 1) := by decide +kernel
theorem dL_isSound_294 : decode cL_isSound 294 = .ok (.invokevirtual 138, 3) := by decide +kernel
theorem dL_isSound_297 : decode cL_isSound 297 = .ok (.if_icmp .ge 147, 3) := by decide +kernel
theorem dL_isSound_300 : decode cL_isSound 300 = .ok (.iconst 0, 1) := by decide +kernel
theorem dL_isSound_301 : decode cL_isSound 301 = .ok (.istore 6, 2) := by decide +kernel
theorem dL_isSound_303 : decode cL_isSound 303 = .ok (.iload 6, 2) := by decide +kernel
theorem dL_isSound_305 : decode cL_isSound 305 = .ok (.iload 5, 2) := by decide +kernel
theorem dL_isSound_307 : decode cL_isSound 307 = .ok (.if_icmp .ge 31, 3) := by decide +kernel
theorem dL_isSound_310 : decode cL_isSound 310 = .ok (.iload 4, 2) := by decide +kernel
theorem dL_isSound_312 : decode cL_isSound 312 = .ok (.aload_n 0, 1) := by decide +kernel
theorem dL_isSound_313 : decode cL_isSound 313 = .ok (.iload 5, 2) := by decide +kernel
theorem dL_isSound_315 : decode cL_isSound 315 = .ok (.iload 6, 2) := by decide +kernel
theorem dL_isSound_317 : decode cL_isSound 317 = .ok (.invokevirtual 206, 3) := by decide +kernel
theorem dL_isSound_320 : decode cL_isSound 320 = .ok (.aload_n 0, 1) := by decide +kernel
theorem dL_isSound_321 : decode cL_isSound 321 = .ok (.iload 5, 2) := by decide +kernel
theorem dL_isSound_323 : decode cL_isSound 323 = .ok (.iload 6, 2) := by decide +kernel
theorem dL_isSound_325 : decode cL_isSound 325 = .ok (.invokevirtual 209, 3) := by decide +kernel
theorem dL_isSound_328 : decode cL_isSound 328 = .ok (.iadd, 1) := by decide +kernel
theorem dL_isSound_329 : decode cL_isSound 329 = .ok (.iadd, 1) := by decide +kernel
theorem dL_isSound_330 : decode cL_isSound 330 = .ok (.istore 4, 2) := by decide +kernel
theorem dL_isSound_332 : decode cL_isSound 332 = .ok (.iinc 6 1, 3) := by decide +kernel
theorem dL_isSound_335 : decode cL_isSound 335 = .ok (.goto (-32), 3) := by decide +kernel
theorem dL_isSound_338 : decode cL_isSound 338 = .ok (.aload_n 0, 1) := by decide +kernel
theorem dL_isSound_339 : decode cL_isSound 339 = .ok (.iload 5, 2) := by decide +kernel
theorem dL_isSound_341 : decode cL_isSound 341 = .ok (.iconst 0, 1) := by decide +kernel
theorem dL_isSound_342 : decode cL_isSound 342 = .ok (.invokevirtual 155, 3) := by decide +kernel
theorem dL_isSound_345 : decode cL_isSound 345 = .ok (.istore 6, 2) := by decide +kernel
theorem dL_isSound_347 : decode cL_isSound 347 = .ok (.iconst 0, 1) := by decide +kernel
theorem dL_isSound_348 : decode cL_isSound 348 = .ok (.istore 7, 2) := by decide +kernel
theorem dL_isSound_350 : decode cL_isSound 350 = .ok (.iload 7, 2) := by decide +kernel
theorem dL_isSound_352 : decode cL_isSound 352 = .ok (.iload 6, 2) := by decide +kernel
theorem dL_isSound_354 : decode cL_isSound 354 = .ok (.if_icmp .ge 84, 3) := by decide +kernel
theorem dL_isSound_357 : decode cL_isSound 357 = .ok (.aload_n 0, 1) := by decide +kernel
theorem dL_isSound_358 : decode cL_isSound 358 = .ok (.iload 5, 2) := by decide +kernel
theorem dL_isSound_360 : decode cL_isSound 360 = .ok (.iload 7, 2) := by decide +kernel
theorem dL_isSound_362 : decode cL_isSound 362 = .ok (.invokevirtual 157, 3) := by decide +kernel
theorem dL_isSound_365 : decode cL_isSound 365 = .ok (.istore 8, 2) := by decide +kernel
theorem dL_isSound_367 : decode cL_isSound 367 = .ok (.aload_n 0, 1) := by decide +kernel
theorem dL_isSound_368 : decode cL_isSound 368 = .ok (.iload 5, 2) := by decide +kernel
theorem dL_isSound_370 : decode cL_isSound 370 = .ok (.iload 7, 2) := by decide +kernel
theorem dL_isSound_372 : decode cL_isSound 372 = .ok (.iconst 1, 1) := by decide +kernel
theorem dL_isSound_373 : decode cL_isSound 373 = .ok (.iadd, 1) := by decide +kernel
theorem dL_isSound_374 : decode cL_isSound 374 = .ok (.iload 6, 2) := by decide +kernel
theorem dL_isSound_376 : decode cL_isSound 376 = .ok (.irem, 1) := by decide +kernel
theorem dL_isSound_377 : decode cL_isSound 377 = .ok (.invokevirtual 157, 3) := by decide +kernel
theorem dL_isSound_380 : decode cL_isSound 380 = .ok (.istore 9, 2) := by decide +kernel
theorem dL_isSound_382 : decode cL_isSound 382 = .ok (.iload 8, 2) := by decide +kernel
theorem dL_isSound_384 : decode cL_isSound 384 = .ok (.iload 9, 2) := by decide +kernel
theorem dL_isSound_386 : decode cL_isSound 386 = .ok (.if_icmp .eq 14, 3) := by decide +kernel
theorem dL_isSound_389 : decode cL_isSound 389 = .ok (.aload_n 0, 1) := by decide +kernel
theorem dL_isSound_390 : decode cL_isSound 390 = .ok (.iload 8, 2) := by decide +kernel
theorem dL_isSound_392 : decode cL_isSound 392 = .ok (.iload 9, 2) := by decide +kernel
theorem dL_isSound_394 : decode cL_isSound 394 = .ok (.invokevirtual 212, 3) := by decide +kernel
theorem dL_isSound_397 : decode cL_isSound 397 = .ok (.ifCond .eq 33, 3) := by decide +kernel
theorem dL_isSound_400 : decode cL_isSound 400 = .ok (.aload_n 0, 1) := by decide +kernel
theorem dL_isSound_401 : decode cL_isSound 401 = .ok (.iload 5, 2) := by decide +kernel
theorem dL_isSound_403 : decode cL_isSound 403 = .ok (.iload 7, 2) := by decide +kernel
theorem dL_isSound_405 : decode cL_isSound 405 = .ok (.invokevirtual 216, 3) := by decide +kernel
theorem dL_isSound_408 : decode cL_isSound 408 = .ok (.aload_n 0, 1) := by decide +kernel
theorem dL_isSound_409 : decode cL_isSound 409 = .ok (.iload 5, 2) := by decide +kernel
theorem dL_isSound_411 : decode cL_isSound 411 = .ok (.iload 7, 2) := by decide +kernel
theorem dL_isSound_413 : decode cL_isSound 413 = .ok (.aload_n 0, 1) := by decide +kernel
theorem dL_isSound_414 : decode cL_isSound 414 = .ok (.iload 5, 2) := by decide +kernel
theorem dL_isSound_416 : decode cL_isSound 416 = .ok (.iconst 1, 1) := by decide +kernel
theorem dL_isSound_417 : decode cL_isSound 417 = .ok (.invokevirtual 155, 3) := by decide +kernel
theorem dL_isSound_420 : decode cL_isSound 420 = .ok (.iadd, 1) := by decide +kernel
theorem dL_isSound_421 : decode cL_isSound 421 = .ok (.iload 6, 2) := by decide +kernel
theorem dL_isSound_423 : decode cL_isSound 423 = .ok (.irem, 1) := by decide +kernel
theorem dL_isSound_424 : decode cL_isSound 424 = .ok (.invokevirtual 157, 3) := by decide +kernel
theorem dL_isSound_427 : decode cL_isSound 427 = .ok (.if_icmp .eq 5, 3) := by decide +kernel
theorem dL_isSound_430 : decode cL_isSound 430 = .ok (.iconst 0, 1) := by decide +kernel
theorem dL_isSound_431 : decode cL_isSound 431 = .ok (.ireturn, 1) := by decide +kernel
theorem dL_isSound_432 : decode cL_isSound 432 = .ok (.iinc 7 1, 3) := by decide +kernel
theorem dL_isSound_435 : decode cL_isSound 435 = .ok (.goto (-85), 3) := by decide +kernel
theorem dL_isSound_438 : decode cL_isSound 438 = .ok (.iinc 5 1, 3) := by decide +kernel
theorem dL_isSound_441 : decode cL_isSound 441 = .ok (.goto (-151), 3) := by decide +kernel
theorem dL_isSound_444 : decode cL_isSound 444 = .ok (.iload 4, 2) := by decide +kernel
theorem dL_isSound_446 : decode cL_isSound 446 = .ok (.aload_n 0, 1) := by decide +kernel
theorem dL_isSound_447 : decode cL_isSound 447 = .ok (.bipush 7, 2) := by decide +kernel
theorem dL_isSound_449 : decode cL_isSound 449 = .ok (.invokevirtual 138, 3) := by decide +kernel
theorem dL_isSound_452 : decode cL_isSound 452 = .ok (.if_icmp .eq 5, 3) := by decide +kernel
theorem dL_isSound_455 : decode cL_isSound 455 = .ok (.iconst 0, 1) := by decide +kernel
theorem dL_isSound_456 : decode cL_isSound 456 = .ok (.ireturn, 1) := by decide +kernel
theorem dL_isSound_457 : decode cL_isSound 457 = .ok (.iconst 0, 1) := by decide +kernel
theorem dL_isSound_458 : decode cL_isSound 458 = .ok (.istore 5, 2) := by decide +kernel
theorem dL_isSound_460 : decode cL_isSound 460 = .ok (.iload 5, 2) := by decide +kernel
theorem dL_isSound_462 : decode cL_isSound 462 = .ok (.aload_n 0, 1) := by decide +kernel
theorem dL_isSound_463 : decode cL_isSound 463 = .ok (.iconst 1, 1) := by decide +kernel
theorem dL_isSound_464 : decode cL_isSound 464 = .ok (.invokevirtual 138, 3) := by decide +kernel
theorem dL_isSound_467 : decode cL_isSound 467 = .ok (.if_icmp .ge 74, 3) := by decide +kernel
theorem dL_isSound_470 : decode cL_isSound 470 = .ok (.aload_n 0, 1) := by decide +kernel
theorem dL_isSound_471 : decode cL_isSound 471 = .ok (.iload 5, 2) := by decide +kernel
theorem dL_isSound_473 : decode cL_isSound 473 = .ok (.iconst 2, 1) := by decide +kernel
theorem dL_isSound_474 : decode cL_isSound 474 = .ok (.invokevirtual 141, 3) := by decide +kernel
theorem dL_isSound_477 : decode cL_isSound 477 = .ok (.iconst 1, 1) := by decide +kernel
theorem dL_isSound_478 : decode cL_isSound 478 = .ok (.if_icmp .ne 24, 3) := by decide +kernel
theorem dL_isSound_481 : decode cL_isSound 481 = .ok (.aload_n 0, 1) := by decide +kernel
theorem dL_isSound_482 : decode cL_isSound 482 = .ok (.aload_n 0, 1) := by decide +kernel
theorem dL_isSound_483 : decode cL_isSound 483 = .ok (.iload 5, 2) := by decide +kernel
theorem dL_isSound_485 : decode cL_isSound 485 = .ok (.iconst 0, 1) := by decide +kernel
theorem dL_isSound_486 : decode cL_isSound 486 = .ok (.invokevirtual 141, 3) := by decide +kernel
theorem dL_isSound_489 : decode cL_isSound 489 = .ok (.aload_n 0, 1) := by decide +kernel
theorem dL_isSound_490 : decode cL_isSound 490 = .ok (.iload 5, 2) := by decide +kernel
theorem dL_isSound_492 : decode cL_isSound 492 = .ok (.iconst 1, 1) := by decide +kernel
theorem dL_isSound_493 : decode cL_isSound 493 = .ok (.invokevirtual 141, 3) := by decide +kernel
theorem dL_isSound_496 : decode cL_isSound 496 = .ok (.invokevirtual 212, 3) := by decide +kernel
theorem dL_isSound_499 : decode cL_isSound 499 = .ok (.ifCond .eq 34, 3) := by decide +kernel
theorem dL_isSound_502 : decode cL_isSound 502 = .ok (.aload_n 0, 1) := by decide +kernel
theorem dL_isSound_503 : decode cL_isSound 503 = .ok (.iload 5, 2) := by decide +kernel
theorem dL_isSound_505 : decode cL_isSound 505 = .ok (.iconst 3, 1) := by decide +kernel
theorem dL_isSound_506 : decode cL_isSound 506 = .ok (.invokevirtual 141, 3) := by decide +kernel
theorem dL_isSound_509 : decode cL_isSound 509 = .ok (.ifCond .le 26, 3) := by decide +kernel
theorem dL_isSound_512 : decode cL_isSound 512 = .ok (.aload_n 0, 1) := by decide +kernel
theorem dL_isSound_513 : decode cL_isSound 513 = .ok (.aload_n 0, 1) := by decide +kernel
theorem dL_isSound_514 : decode cL_isSound 514 = .ok (.iload 5, 2) := by decide +kernel
theorem dL_isSound_516 : decode cL_isSound 516 = .ok (.iconst 0, 1) := by decide +kernel
theorem dL_isSound_517 : decode cL_isSound 517 = .ok (.invokevirtual 141, 3) := by decide +kernel
theorem dL_isSound_520 : decode cL_isSound 520 = .ok (.aload_n 0, 1) := by decide +kernel
theorem dL_isSound_521 : decode cL_isSound 521 = .ok (.iload 5, 2) := by decide +kernel
theorem dL_isSound_523 : decode cL_isSound 523 = .ok (.iconst 1, 1) := by decide +kernel
theorem dL_isSound_524 : decode cL_isSound 524 = .ok (.invokevirtual 141, 3) := by decide +kernel
theorem dL_isSound_527 : decode cL_isSound 527 = .ok (.invokevirtual 212, 3) := by decide +kernel
theorem dL_isSound_530 : decode cL_isSound 530 = .ok (.ifCond .ne 5, 3) := by decide +kernel
theorem dL_isSound_533 : decode cL_isSound 533 = .ok (.iconst 0, 1) := by decide +kernel
theorem dL_isSound_534 : decode cL_isSound 534 = .ok (.ireturn, 1) := by decide +kernel
theorem dL_isSound_535 : decode cL_isSound 535 = .ok (.iinc 5 1, 3) := by decide +kernel
theorem dL_isSound_538 : decode cL_isSound 538 = .ok (.goto (-78), 3) := by decide +kernel
theorem dL_isSound_541 : decode cL_isSound 541 = .ok (.aload_n 0, 1) := by decide +kernel
theorem dL_isSound_542 : decode cL_isSound 542 = .ok (.iload_n 1, 1) := by decide +kernel
theorem dL_isSound_543 : decode cL_isSound 543 = .ok (.invokestatic 219, 3) := by decide +kernel
theorem dL_isSound_546 : decode cL_isSound 546 = .ok (.ireturn, 1) := by decide +kernel
set_option maxRecDepth 20000 in
theorem ggL_isQuick_X8_size : GoodIn wsL_isQuick wsX8_size := goodIn_ca (goodIn_r _ [9, 10, 11, 12, 13, 14, 15, 16, 17, 18, 19, 20, 21, 22, 23, 24, 25, 8, 26, 27, 28, 29, 30, 31, 32, 33, 34, 35, 36, 37, 38, 39, 40, 41, 42, 43, 44, 45, 46, 47, 48, 49, 50, 51, 52, 53, 3, 54, 55, 56, 57, 58, 59, 60, 61, 62, 63, 64, 65, 66, 67, 68, 69, 70, 71, 72, 73, 74, 75, 76, 77, 78, 79, 80, 81, 82, 83, 84, 85, 86, 87, 88, 89, 90, 91, 92, 93, 94, 95, 96, 97, 98, 99, 100, 101, 102, 103, 104, 105, 106, 107, 108, 109, 110, 111, 112, 113, 114, 115, 116, 117, 118, 119, 120, 121, 122, 123, 124, 125, 205, 206, 207, 208, 209, 210, 211, 212, 213, 214, 215, 216, 217, 218, 219, 220, 221, 222, 223, 224, 225, 226, 227, 228, 229, 230, 231, 232, 233, 234, 235, 236, 237, 238, 239, 240, 241, 242, 243, 244, 245] (by decide +kernel) (by decide +kernel)) (goodIn_sub (fun _ h => List.mem_cons_of_mem _ (List.mem_append_left _ (List.mem_append_right _ h))) (by decide +kernel))
set_option maxRecDepth 20000 in
theorem gL_isQuick_X8_size : GoodIn wsL_isQuick (wsV RL 138 RX8 yX8_size wsX8_size) := goodIn_app (goodIn_of _ (by decide +kernel)) ggL_isQuick_X8_size
set_option maxRecDepth 20000 in
theorem ggL_isQuick_L_most : GoodIn wsL_isQuick wsL_most := goodIn_r _ [129, 130] (by decide +kernel) (by decide +kernel)
set_option maxRecDepth 20000 in
theorem gL_isQuick_L_most : GoodIn wsL_isQuick (va_wsS RL 27 yL_most wsL_most) := goodIn_app (goodIn_of _ (by decide +kernel)) ggL_isQuick_L_most
set_option maxRecDepth 20000 in
theorem ggL_isQuick_X8_arrival : GoodIn wsL_isQuick wsX8_arrival := goodIn_ca (goodIn_ca (goodIn_r _ [134, 135, 136, 12, 137, 138, 139, 8, 140, 10, 11, 141, 142, 143, 21, 144, 124, 145, 146, 147, 148, 149, 150, 151, 152, 153, 154, 155, 156, 19, 20, 22, 23, 24, 25, 26, 157, 58, 59, 60, 158, 159, 160, 161, 103, 104, 105, 106, 107, 72, 73, 74, 75, 76, 162, 163, 164, 165, 166, 167, 168, 169, 170, 171, 172, 173, 174, 175, 176, 205, 206, 207, 208, 209, 210, 211, 212, 213, 214, 215, 216, 217, 218, 219, 220, 221, 222, 223, 224, 225, 226, 227, 228, 229, 230, 231, 232, 233, 234, 235, 236, 237, 246, 247] (by decide +kernel) (by decide +kernel)) (goodIn_sub (fun _ h => List.mem_cons_of_mem _ (List.mem_append_left _ (List.mem_append_right _ h))) (by decide +kernel))) (goodIn_sub (fun _ h => List.mem_cons_of_mem _ (List.mem_append_right _ h)) (by decide +kernel))
set_option maxRecDepth 20000 in
theorem gL_isQuick_X8_arrival : GoodIn wsL_isQuick (wsV RL 223 RX8 yX8_arrival wsX8_arrival) := goodIn_app (goodIn_of _ (by decide +kernel)) ggL_isQuick_X8_arrival
set_option maxRecDepth 20000 in
theorem ggL_isQuick_X8_guardsIn : GoodIn wsL_isQuick wsX8_guardsIn := goodIn_ca (goodIn_ca (goodIn_r _ [180, 12, 137, 138, 139, 8, 140, 10, 11, 141, 142, 143, 21, 144, 124, 181, 182, 183, 148, 149, 184, 185, 186, 187, 23, 103, 104, 105, 106, 24, 107, 72, 73, 74, 75, 76, 205, 206, 207, 208, 209, 210, 211, 212, 213, 214, 215, 216, 217, 218, 219, 220, 221, 222, 223, 224, 225, 226, 227, 228, 229, 230, 231, 232, 233, 234, 235, 236, 237] (by decide +kernel) (by decide +kernel)) (goodIn_sub (fun _ h => List.mem_cons_of_mem _ (List.mem_append_left _ (List.mem_append_right _ h))) (by decide +kernel))) (goodIn_sub (fun _ h => List.mem_cons_of_mem _ (List.mem_append_right _ h)) (by decide +kernel))
set_option maxRecDepth 20000 in
theorem gL_isQuick_X8_guardsIn : GoodIn wsL_isQuick (wsV RL 200 RX8 yX8_guardsIn wsX8_guardsIn) := goodIn_app (goodIn_of _ (by decide +kernel)) ggL_isQuick_X8_guardsIn
set_option maxRecDepth 20000 in
theorem ggL_isQuick_X8_hiding : GoodIn wsL_isQuick wsX8_hiding := goodIn_ca (goodIn_ca (goodIn_r _ [191, 135, 136, 12, 137, 138, 139, 8, 140, 10, 11, 141, 142, 143, 21, 144, 124, 145, 146, 147, 148, 149, 192, 193, 194, 153, 195, 158, 159, 160, 161, 23, 103, 104, 105, 106, 24, 107, 72, 73, 74, 75, 76, 164, 165, 166, 167, 168, 169, 170, 171, 172, 173, 174, 175, 157, 58, 59, 60, 176, 162, 163, 205, 206, 207, 208, 209, 210, 211, 212, 213, 214, 215, 216, 217, 218, 219, 220, 221, 222, 223, 224, 225, 226, 227, 228, 229, 230, 231, 232, 233, 234, 235, 236, 237, 246, 247] (by decide +kernel) (by decide +kernel)) (goodIn_sub (fun _ h => List.mem_cons_of_mem _ (List.mem_append_left _ (List.mem_append_right _ h))) (by decide +kernel))) (goodIn_sub (fun _ h => List.mem_cons_of_mem _ (List.mem_append_right _ h)) (by decide +kernel))
set_option maxRecDepth 20000 in
theorem gL_isQuick_X8_hiding : GoodIn wsL_isQuick (wsV RL 227 RX8 yX8_hiding wsX8_hiding) := goodIn_app (goodIn_of _ (by decide +kernel)) ggL_isQuick_X8_hiding
set_option maxRecDepth 20000 in
theorem ggL_isQuick_X8_distance : GoodIn wsL_isQuick wsX8_distance := goodIn_ca (goodIn_r _ [199, 12, 137, 138, 139, 8, 140, 10, 11, 141, 142, 143, 21, 144, 124, 200, 201, 202, 203, 204, 162, 163, 205, 206, 207, 208, 209, 210, 211, 212, 213, 214, 215, 216, 217, 218, 219, 220, 221, 222, 223, 224, 225, 226, 227, 228, 229, 230, 231, 232, 233, 234, 235, 236, 237] (by decide +kernel) (by decide +kernel)) (goodIn_sub (fun _ h => List.mem_cons_of_mem _ (List.mem_append_left _ (List.mem_append_right _ h))) (by decide +kernel))
set_option maxRecDepth 20000 in
theorem gL_isQuick_X8_distance : GoodIn wsL_isQuick (wsV RL 233 RX8 yX8_distance wsX8_distance) := goodIn_app (goodIn_of _ (by decide +kernel)) ggL_isQuick_X8_distance
theorem dL_isQuick_0 : decode cL_isQuick 0 = .ok (.iload_n 1, 1) := by decide +kernel
theorem dL_isQuick_1 : decode cL_isQuick 1 = .ok (.aload_n 0, 1) := by decide +kernel
theorem dL_isQuick_2 : decode cL_isQuick 2 = .ok (.iconst 0, 1) := by decide +kernel
theorem dL_isQuick_3 : decode cL_isQuick 3 = .ok (.invokevirtual 138, 3) := by decide +kernel
theorem dL_isQuick_6 : decode cL_isQuick 6 = .ok (.invokestatic 27, 3) := by decide +kernel
theorem dL_isQuick_9 : decode cL_isQuick 9 = .ok (.istore_n 2, 1) := by decide +kernel
theorem dL_isQuick_10 : decode cL_isQuick 10 = .ok (.iload_n 1, 1) := by decide +kernel
theorem dL_isQuick_11 : decode cL_isQuick 11 = .ok (.iconst 3, 1) := by decide +kernel
theorem dL_isQuick_12 : decode cL_isQuick 12 = .ok (.ishr, 1) := by decide +kernel
theorem dL_isQuick_13 : decode cL_isQuick 13 = .ok (.aload_n 0, 1) := by decide +kernel
theorem dL_isQuick_14 : decode cL_isQuick 14 = .ok (.iconst 0, 1) := by decide +kernel
theorem dL_isQuick_15 : decode cL_isQuick 15 = .ok (.invokevirtual 138, 3) := by decide +kernel
theorem dL_isQuick_18 : decode cL_isQuick 18 = .ok (.invokestatic 27, 3) := by decide +kernel
theorem dL_isQuick_21 : decode cL_isQuick 21 = .ok (.istore_n 3, 1) := by decide +kernel
theorem dL_isQuick_22 : decode cL_isQuick 22 = .ok (.iload_n 1, 1) := by decide +kernel
theorem dL_isQuick_23 : decode cL_isQuick 23 = .ok (.iconst 5, 1) := by decide +kernel
theorem dL_isQuick_24 : decode cL_isQuick 24 = .ok (.ishr, 1) := by decide +kernel
theorem dL_isQuick_25 : decode cL_isQuick 25 = .ok (.bipush 50, 2) := by decide +kernel
theorem dL_isQuick_27 : decode cL_isQuick 27 = .ok (.invokestatic 27, 3) := by decide +kernel
theorem dL_isQuick_30 : decode cL_isQuick 30 = .ok (.istore 4, 2) := by decide +kernel
theorem dL_isQuick_32 : decode cL_isQuick 32 = .ok (.aload_n 0, 1) := by decide +kernel
theorem dL_isQuick_33 : decode cL_isQuick 33 = .ok (.iload_n 2, 1) := by decide +kernel
theorem dL_isQuick_34 : decode cL_isQuick 34 = .ok (.iload_n 3, 1) := by decide +kernel
theorem dL_isQuick_35 : decode cL_isQuick 35 = .ok (.iload 4, 2) := by decide +kernel
theorem dL_isQuick_37 : decode cL_isQuick 37 = .ok (.invokevirtual 223, 3) := by decide +kernel
theorem dL_isQuick_40 : decode cL_isQuick 40 = .ok (.istore 5, 2) := by decide +kernel
theorem dL_isQuick_42 : decode cL_isQuick 42 = .ok (.aload_n 0, 1) := by decide +kernel
theorem dL_isQuick_43 : decode cL_isQuick 43 = .ok (.iload_n 2, 1) := by decide +kernel
theorem dL_isQuick_44 : decode cL_isQuick 44 = .ok (.iload 4, 2) := by decide +kernel
theorem dL_isQuick_46 : decode cL_isQuick 46 = .ok (.invokevirtual 200, 3) := by decide +kernel
theorem dL_isQuick_49 : decode cL_isQuick 49 = .ok (.ifCond .eq 37, 3) := by decide +kernel
theorem dL_isQuick_52 : decode cL_isQuick 52 = .ok (.iload 5, 2) := by decide +kernel
theorem dL_isQuick_54 : decode cL_isQuick 54 = .ok (.ifCond .ge 30, 3) := by decide +kernel
theorem dL_isQuick_57 : decode cL_isQuick 57 = .ok (.aload_n 0, 1) := by decide +kernel
theorem dL_isQuick_58 : decode cL_isQuick 58 = .ok (.iload_n 2, 1) := by decide +kernel
theorem dL_isQuick_59 : decode cL_isQuick 59 = .ok (.iload 4, 2) := by decide +kernel
theorem dL_isQuick_61 : decode cL_isQuick 61 = .ok (.iconst 0, 1) := by decide +kernel
theorem dL_isQuick_62 : decode cL_isQuick 62 = .ok (.invokevirtual 227, 3) := by decide +kernel
theorem dL_isQuick_65 : decode cL_isQuick 65 = .ok (.ifCond .ne 19, 3) := by decide +kernel
theorem dL_isQuick_68 : decode cL_isQuick 68 = .ok (.aload_n 0, 1) := by decide +kernel
theorem dL_isQuick_69 : decode cL_isQuick 69 = .ok (.iload_n 2, 1) := by decide +kernel
theorem dL_isQuick_70 : decode cL_isQuick 70 = .ok (.iload 4, 2) := by decide +kernel
theorem dL_isQuick_72 : decode cL_isQuick 72 = .ok (.bipush 9, 2) := by decide +kernel
theorem dL_isQuick_74 : decode cL_isQuick 74 = .ok (.invokevirtual 227, 3) := by decide +kernel
theorem dL_isQuick_77 : decode cL_isQuick 77 = .ok (.ifCond .ne 7, 3) := by decide +kernel
theorem dL_isQuick_80 : decode cL_isQuick 80 = .ok (.iconst 1, 1) := by decide +kernel
theorem dL_isQuick_81 : decode cL_isQuick 81 = .ok (.goto 4, 3) := by decide +kernel
theorem dL_isQuick_84 : decode cL_isQuick 84 = .ok (.iconst 0, 1) := by decide +kernel
theorem dL_isQuick_85 : decode cL_isQuick 85 = .ok (.ireturn, 1) := by decide +kernel
theorem dL_isQuick_86 : decode cL_isQuick 86 = .ok (.iload 5, 2) := by decide +kernel
theorem dL_isQuick_88 : decode cL_isQuick 88 = .ok (.ifCond .ge 8, 3) := by decide +kernel
theorem dL_isQuick_91 : decode cL_isQuick 91 = .ok (.bipush 40, 2) := by decide +kernel
theorem dL_isQuick_93 : decode cL_isQuick 93 = .ok (.goto 13, 3) := by decide +kernel
theorem dL_isQuick_96 : decode cL_isQuick 96 = .ok (.bipush 100, 2) := by decide +kernel
theorem dL_isQuick_98 : decode cL_isQuick 98 = .ok (.iload 5, 2) := by decide +kernel
theorem dL_isQuick_100 : decode cL_isQuick 100 = .ok (.iload 4, 2) := by decide +kernel
theorem dL_isQuick_102 : decode cL_isQuick 102 = .ok (.isub, 1) := by decide +kernel
theorem dL_isQuick_103 : decode cL_isQuick 103 = .ok (.invokestatic 230, 3) := by decide +kernel
theorem dL_isQuick_106 : decode cL_isQuick 106 = .ok (.istore 6, 2) := by decide +kernel
theorem dL_isQuick_108 : decode cL_isQuick 108 = .ok (.iconst 0, 1) := by decide +kernel
theorem dL_isQuick_109 : decode cL_isQuick 109 = .ok (.istore 7, 2) := by decide +kernel
theorem dL_isQuick_111 : decode cL_isQuick 111 = .ok (.iload 7, 2) := by decide +kernel
theorem dL_isQuick_113 : decode cL_isQuick 113 = .ok (.iload 6, 2) := by decide +kernel
theorem dL_isQuick_115 : decode cL_isQuick 115 = .ok (.if_icmp .gt 101, 3) := by decide +kernel
theorem dL_isQuick_118 : decode cL_isQuick 118 = .ok (.aload_n 0, 1) := by decide +kernel
theorem dL_isQuick_119 : decode cL_isQuick 119 = .ok (.iload_n 2, 1) := by decide +kernel
theorem dL_isQuick_120 : decode cL_isQuick 120 = .ok (.iload 4, 2) := by decide +kernel
theorem dL_isQuick_122 : decode cL_isQuick 122 = .ok (.iload 7, 2) := by decide +kernel
theorem dL_isQuick_124 : decode cL_isQuick 124 = .ok (.invokevirtual 227, 3) := by decide +kernel
theorem dL_isQuick_127 : decode cL_isQuick 127 = .ok (.istore 8, 2) := by decide +kernel
theorem dL_isQuick_129 : decode cL_isQuick 129 = .ok (.iconst 0, 1) := by decide +kernel
theorem dL_isQuick_130 : decode cL_isQuick 130 = .ok (.istore 9, 2) := by decide +kernel
theorem dL_isQuick_132 : decode cL_isQuick 132 = .ok (.iload 9, 2) := by decide +kernel
theorem dL_isQuick_134 : decode cL_isQuick 134 = .ok (.aload_n 0, 1) := by decide +kernel
theorem dL_isQuick_135 : decode cL_isQuick 135 = .ok (.iconst 0, 1) := by decide +kernel
theorem dL_isQuick_136 : decode cL_isQuick 136 = .ok (.invokevirtual 138, 3) := by decide +kernel
theorem dL_isQuick_139 : decode cL_isQuick 139 = .ok (.if_icmp .ge 36, 3) := by decide +kernel
theorem dL_isQuick_142 : decode cL_isQuick 142 = .ok (.iload 8, 2) := by decide +kernel
theorem dL_isQuick_144 : decode cL_isQuick 144 = .ok (.iload 9, 2) := by decide +kernel
theorem dL_isQuick_146 : decode cL_isQuick 146 = .ok (.ishr, 1) := by decide +kernel
theorem dL_isQuick_147 : decode cL_isQuick 147 = .ok (.iconst 1, 1) := by decide +kernel
theorem dL_isQuick_148 : decode cL_isQuick 148 = .ok (.iand, 1) := by decide +kernel
theorem dL_isQuick_149 : decode cL_isQuick 149 = .ok (.iconst 1, 1) := by decide +kernel
theorem dL_isQuick_150 : decode cL_isQuick 150 = .ok (.if_icmp .ne 19, 3) := by decide +kernel
theorem dL_isQuick_153 : decode cL_isQuick 153 = .ok (.aload_n 0, 1) := by decide +kernel
theorem dL_isQuick_154 : decode cL_isQuick 154 = .ok (.iload 9, 2) := by decide +kernel
theorem dL_isQuick_156 : decode cL_isQuick 156 = .ok (.iload 4, 2) := by decide +kernel
theorem dL_isQuick_158 : decode cL_isQuick 158 = .ok (.iload 7, 2) := by decide +kernel
theorem dL_isQuick_160 : decode cL_isQuick 160 = .ok (.iadd, 1) := by decide +kernel
theorem dL_isQuick_161 : decode cL_isQuick 161 = .ok (.invokevirtual 200, 3) := by decide +kernel
theorem dL_isQuick_164 : decode cL_isQuick 164 = .ok (.ifCond .eq 5, 3) := by decide +kernel
theorem dL_isQuick_167 : decode cL_isQuick 167 = .ok (.iconst 0, 1) := by decide +kernel
theorem dL_isQuick_168 : decode cL_isQuick 168 = .ok (.ireturn, 1) := by decide +kernel
theorem dL_isQuick_169 : decode cL_isQuick 169 = .ok (.iinc 9 1, 3) := by decide +kernel
theorem dL_isQuick_172 : decode cL_isQuick 172 = .ok (.goto (-40), 3) := by decide +kernel
theorem dL_isQuick_175 : decode cL_isQuick 175 = .ok (.iload 8, 2) := by decide +kernel
theorem dL_isQuick_177 : decode cL_isQuick 177 = .ok (.iload_n 3, 1) := by decide +kernel
theorem dL_isQuick_178 : decode cL_isQuick 178 = .ok (.ishr, 1) := by decide +kernel
theorem dL_isQuick_179 : decode cL_isQuick 179 = .ok (.iconst 1, 1) := by decide +kernel
theorem dL_isQuick_180 : decode cL_isQuick 180 = .ok (.iand, 1) := by decide +kernel
theorem dL_isQuick_181 : decode cL_isQuick 181 = .ok (.iconst 1, 1) := by decide +kernel
theorem dL_isQuick_182 : decode cL_isQuick 182 = .ok (.if_icmp .ne 7, 3) := by decide +kernel
theorem dL_isQuick_185 : decode cL_isQuick 185 = .ok (.iconst 1, 1) := by decide +kernel
theorem dL_isQuick_186 : decode cL_isQuick 186 = .ok (.goto 4, 3) := by decide +kernel
theorem dL_isQuick_189 : decode cL_isQuick 189 = .ok (.iconst 0, 1) := by decide +kernel
theorem dL_isQuick_190 : decode cL_isQuick 190 = .ok (.iload 4, 2) := by decide +kernel
theorem dL_isQuick_192 : decode cL_isQuick 192 = .ok (.iload 7, 2) := by decide +kernel
theorem dL_isQuick_194 : decode cL_isQuick 194 = .ok (.iadd, 1) := by decide +kernel
theorem dL_isQuick_195 : decode cL_isQuick 195 = .ok (.iload 5, 2) := by decide +kernel
theorem dL_isQuick_197 : decode cL_isQuick 197 = .ok (.if_icmp .ne 7, 3) := by decide +kernel
theorem dL_isQuick_200 : decode cL_isQuick 200 = .ok (.iconst 1, 1) := by decide +kernel
theorem dL_isQuick_201 : decode cL_isQuick 201 = .ok (.goto 4, 3) := by decide +kernel
theorem dL_isQuick_204 : decode cL_isQuick 204 = .ok (.iconst 0, 1) := by decide +kernel
theorem dL_isQuick_205 : decode cL_isQuick 205 = .ok (.if_icmp .eq 5, 3) := by decide +kernel
theorem dL_isQuick_208 : decode cL_isQuick 208 = .ok (.iconst 0, 1) := by decide +kernel
theorem dL_isQuick_209 : decode cL_isQuick 209 = .ok (.ireturn, 1) := by decide +kernel
theorem dL_isQuick_210 : decode cL_isQuick 210 = .ok (.iinc 7 1, 3) := by decide +kernel
theorem dL_isQuick_213 : decode cL_isQuick 213 = .ok (.goto (-102), 3) := by decide +kernel
theorem dL_isQuick_216 : decode cL_isQuick 216 = .ok (.iload 5, 2) := by decide +kernel
theorem dL_isQuick_218 : decode cL_isQuick 218 = .ok (.ifCond .lt 26, 3) := by decide +kernel
theorem dL_isQuick_221 : decode cL_isQuick 221 = .ok (.aload_n 0, 1) := by decide +kernel
theorem dL_isQuick_222 : decode cL_isQuick 222 = .ok (.iload_n 2, 1) := by decide +kernel
theorem dL_isQuick_223 : decode cL_isQuick 223 = .ok (.iload_n 3, 1) := by decide +kernel
theorem dL_isQuick_224 : decode cL_isQuick 224 = .ok (.invokevirtual 233, 3) := by decide +kernel
theorem dL_isQuick_227 : decode cL_isQuick 227 = .ok (.ifCond .lt 21, 3) := by decide +kernel
theorem dL_isQuick_230 : decode cL_isQuick 230 = .ok (.iload 5, 2) := by decide +kernel
theorem dL_isQuick_232 : decode cL_isQuick 232 = .ok (.iload 4, 2) := by decide +kernel
theorem dL_isQuick_234 : decode cL_isQuick 234 = .ok (.isub, 1) := by decide +kernel
theorem dL_isQuick_235 : decode cL_isQuick 235 = .ok (.aload_n 0, 1) := by decide +kernel
theorem dL_isQuick_236 : decode cL_isQuick 236 = .ok (.iload_n 2, 1) := by decide +kernel
theorem dL_isQuick_237 : decode cL_isQuick 237 = .ok (.iload_n 3, 1) := by decide +kernel
theorem dL_isQuick_238 : decode cL_isQuick 238 = .ok (.invokevirtual 233, 3) := by decide +kernel
theorem dL_isQuick_241 : decode cL_isQuick 241 = .ok (.if_icmp .lt 7, 3) := by decide +kernel
theorem dL_isQuick_244 : decode cL_isQuick 244 = .ok (.iconst 1, 1) := by decide +kernel
theorem dL_isQuick_245 : decode cL_isQuick 245 = .ok (.goto 4, 3) := by decide +kernel
theorem dL_isQuick_248 : decode cL_isQuick 248 = .ok (.iconst 0, 1) := by decide +kernel
theorem dL_isQuick_249 : decode cL_isQuick 249 = .ok (.ireturn, 1) := by decide +kernel
set_option maxRecDepth 20000 in
theorem ggL_isBest_L_all : GoodIn wsL_isBest wsL_all := goodIn_ca (goodIn_r _ [4, 5, 6, 7, 8, 9, 10, 11, 12, 13, 14, 15, 16, 17, 18, 19, 20, 21, 22, 23, 24, 25, 26, 27, 28, 29, 30, 31, 32, 33, 34, 35, 36, 37, 38, 39, 40, 41, 42, 43, 44, 45, 46, 47, 48, 49, 50, 51, 52, 53, 54, 55, 56, 57, 58, 59, 60, 61, 62, 63, 64, 65, 66, 67, 68, 69, 70, 71, 72, 73, 74, 75, 76, 77, 78, 79, 80, 81, 82, 83, 84, 85, 86, 87, 88, 89, 90, 91, 92, 93, 94, 95, 96, 97, 98, 99, 100, 101, 102, 103, 104, 105, 106, 107, 108, 109, 110, 111, 112, 113, 114, 115, 116, 117, 118, 119, 120, 121, 122, 123, 124, 125, 126, 127, 128, 129, 130, 131, 132, 133, 134, 135, 136, 137, 138, 139, 140, 141, 142, 143, 144, 145, 146, 147, 148, 149, 150, 151, 152, 153, 154, 155, 156, 157, 158, 159, 160, 161, 162, 163, 164, 165, 166, 167, 168, 169, 170, 171, 172, 173, 174, 175, 176, 177, 178, 179, 180, 181, 182, 183, 184, 185, 186, 187, 188, 189, 190, 191, 192, 193, 194, 195, 196, 197, 198, 199, 200, 201, 202, 203, 316, 317, 318, 319, 320, 321, 322, 323, 324, 325, 326, 327, 328, 329, 330, 331, 332, 333, 334, 335, 336, 337, 338, 339, 340, 341, 342, 343, 344, 345, 346, 347, 348, 349, 350, 351, 352, 353, 354, 355, 356] (by decide +kernel) (by decide +kernel)) (goodIn_sub (fun _ h => List.mem_cons_of_mem _ (List.mem_append_left _ (List.mem_append_right _ h))) (by decide +kernel))
set_option maxRecDepth 20000 in
theorem gL_isBest_L_all : GoodIn wsL_isBest (va_wsS RL 236 yL_all wsL_all) := goodIn_app (goodIn_of _ (by decide +kernel)) ggL_isBest_L_all
set_option maxRecDepth 20000 in
theorem ggL_isBest_X8_bestWorst : GoodIn wsL_isBest wsX8_bestWorst := goodIn_r _ [207, 208, 209, 210, 211, 9, 212, 213, 214, 13, 215, 216, 217, 218, 219, 220, 221, 222, 223, 224, 225, 226, 22, 227, 126, 162, 24, 228, 114, 229, 230, 173, 231, 48, 49, 50, 174, 232, 233, 25, 109, 74, 234, 127, 235, 236, 237, 238, 239, 240, 241, 242, 243, 244, 245, 26, 27, 246, 247, 248, 249, 250, 251, 252, 253, 254, 255, 256, 36, 37, 38, 39, 40, 41, 42, 43, 44, 45, 46, 47, 51, 52, 53, 54, 55, 56, 57, 58, 59, 60, 61, 62, 63, 20, 21, 23, 64, 65, 66, 67, 68, 69, 70, 71, 72, 73, 75, 76, 77, 78, 79, 80, 81, 82, 83, 84, 85, 86, 257, 97, 98, 99, 100, 101, 102, 103, 104, 105, 106, 107, 108, 258, 259, 260, 261, 262, 263, 264, 357, 358, 359, 360, 361, 362, 363, 316, 317, 318, 319, 320, 321, 322, 323, 324, 325, 326, 327, 328, 329, 330, 331, 332, 333, 334, 335, 336, 337, 338, 339, 340, 341, 342, 343, 344, 345, 346, 347, 348, 349, 350, 351, 352, 353, 354, 355, 356] (by decide +kernel) (by decide +kernel)
set_option maxRecDepth 20000 in
theorem gL_isBest_X8_bestWorst : GoodIn wsL_isBest (wsV RL 240 RX8 yX8_bestWorst wsX8_bestWorst) := goodIn_app (goodIn_of _ (by decide +kernel)) ggL_isBest_X8_bestWorst
set_option maxRecDepth 20000 in
theorem ggL_isBest_X8_bestCrossings : GoodIn wsL_isBest wsX8_bestCrossings := goodIn_r _ [268, 269, 209, 210, 211, 9, 212, 213, 214, 13, 215, 216, 217, 218, 219, 220, 221, 222, 223, 224, 225, 226, 22, 227, 126, 162, 24, 228, 114, 229, 230, 173, 231, 48, 49, 50, 174, 232, 233, 25, 109, 74, 234, 127, 235, 236, 237, 238, 239, 240, 241, 242, 243, 244, 245, 26, 27, 246, 247, 248, 249, 250, 251, 252, 253, 254, 255, 256, 36, 37, 38, 39, 40, 41, 42, 43, 44, 45, 46, 47, 51, 52, 53, 54, 55, 56, 57, 58, 59, 60, 61, 62, 63, 20, 21, 23, 64, 65, 66, 67, 68, 69, 70, 71, 72, 73, 75, 76, 77, 78, 79, 80, 81, 82, 83, 84, 85, 86, 257, 97, 98, 99, 100, 101, 102, 103, 104, 105, 106, 107, 108, 258, 259, 260, 261, 262, 263, 264, 357, 358, 359, 360, 361, 362, 363, 316, 317, 318, 319, 320, 321, 322, 323, 324, 325, 326, 327, 328, 329, 330, 331, 332, 333, 334, 335, 336, 337, 338, 339, 340, 341, 342, 343, 344, 345, 346, 347, 348, 349, 350, 351, 352, 353, 354, 355, 356] (by decide +kernel) (by decide +kernel)
set_option maxRecDepth 20000 in
theorem gL_isBest_X8_bestCrossings : GoodIn wsL_isBest (wsV RL 243 RX8 yX8_bestCrossings wsX8_bestCrossings) := goodIn_app (goodIn_of _ (by decide +kernel)) ggL_isBest_X8_bestCrossings
set_option maxRecDepth 20000 in
theorem ggL_isBest_X8_size : GoodIn wsL_isBest wsX8_size := goodIn_ca (goodIn_r _ [10, 11, 12, 13, 14, 15, 16, 17, 18, 19, 20, 21, 22, 23, 24, 25, 26, 9, 27, 28, 29, 30, 31, 32, 33, 34, 35, 36, 37, 38, 39, 40, 41, 42, 43, 44, 45, 46, 47, 48, 49, 50, 51, 52, 53, 54, 55, 56, 57, 58, 59, 60, 61, 62, 63, 64, 65, 66, 67, 68, 69, 70, 71, 72, 73, 74, 75, 76, 77, 78, 79, 80, 81, 82, 83, 84, 85, 86, 87, 88, 89, 90, 91, 92, 93, 94, 95, 96, 97, 98, 99, 100, 101, 102, 103, 104, 105, 106, 107, 108, 109, 110, 111, 112, 113, 114, 115, 116, 117, 118, 119, 120, 121, 122, 123, 124, 125, 126, 127, 316, 317, 318, 319, 320, 321, 322, 323, 324, 325, 326, 327, 328, 329, 330, 331, 332, 333, 334, 335, 336, 337, 338, 339, 340, 341, 342, 343, 344, 345, 346, 347, 348, 349, 350, 351, 352, 353, 354, 355, 356] (by decide +kernel) (by decide +kernel)) (goodIn_sub (fun _ h => List.mem_cons_of_mem _ (List.mem_append_left _ (List.mem_append_right _ h))) (by decide +kernel))
set_option maxRecDepth 20000 in
theorem gL_isBest_X8_size : GoodIn wsL_isBest (wsV RL 138 RX8 yX8_size wsX8_size) := goodIn_app (goodIn_of _ (by decide +kernel)) ggL_isBest_X8_size
set_option maxRecDepth 20000 in
theorem ggL_isBest_X8_bestPhase : GoodIn wsL_isBest wsX8_bestPhase := goodIn_ca (goodIn_r _ [273, 274, 192, 193, 194, 9, 195, 11, 12, 13, 196, 76, 77, 22, 78, 24, 209, 210, 211, 212, 213, 214, 215, 216, 217, 218, 219, 220, 221, 222, 223, 224, 225, 226, 227, 126, 162, 228, 114, 229, 230, 173, 231, 48, 49, 50, 174, 232, 233, 25, 109, 74, 234, 127, 235, 236, 237, 238, 239, 240, 241, 242, 243, 244, 245, 26, 27, 246, 247, 248, 249, 250, 251, 252, 253, 254, 255, 256, 36, 37, 38, 39, 40, 41, 42, 43, 44, 45, 46, 47, 51, 52, 53, 54, 55, 56, 57, 58, 59, 60, 61, 62, 63, 20, 21, 23, 64, 65, 66, 67, 68, 69, 70, 71, 72, 73, 75, 79, 80, 81, 82, 83, 84, 85, 86, 257, 97, 98, 99, 100, 101, 102, 103, 104, 105, 106, 107, 108, 258, 259, 260, 261, 262, 263, 264, 357, 358, 359, 360, 361, 362, 363, 316, 317, 318, 319, 320, 321, 322, 323, 324, 325, 326, 327, 328, 329, 330, 331, 332, 333, 334, 335, 336, 337, 338, 339, 340, 341, 342, 343, 344, 345, 346, 347, 348, 349, 350, 351, 352, 353, 354, 355, 356] (by decide +kernel) (by decide +kernel)) (goodIn_sub (fun _ h => List.mem_cons_of_mem _ (List.mem_append_left _ (List.mem_append_right _ h))) (by decide +kernel))
set_option maxRecDepth 20000 in
theorem gL_isBest_X8_bestPhase : GoodIn wsL_isBest (wsV RL 246 RX8 yX8_bestPhase wsX8_bestPhase) := goodIn_app (goodIn_of _ (by decide +kernel)) ggL_isBest_X8_bestPhase
set_option maxRecDepth 20000 in
theorem ggL_isBest_X8_guard : GoodIn wsL_isBest wsX8_guard := goodIn_ca (goodIn_r _ [188, 11, 12, 13, 189, 190, 17, 191, 192, 193, 194, 9, 195, 196, 76, 77, 22, 78, 24, 197, 106, 107, 108, 25, 109, 74, 75, 198, 116, 117, 118, 119, 120, 121, 316, 317, 318, 319, 320, 321, 322, 323, 324, 325, 326, 327, 328, 329, 330, 331, 332, 333, 334, 335, 336, 337, 338, 339, 340, 341, 342, 343, 344, 345, 346, 347, 348] (by decide +kernel) (by decide +kernel)) (goodIn_sub (fun _ h => List.mem_cons_of_mem _ (List.mem_append_left _ (List.mem_append_right _ h))) (by decide +kernel))
set_option maxRecDepth 20000 in
theorem gL_isBest_X8_guard : GoodIn wsL_isBest (wsV RL 155 RX8 yX8_guard wsX8_guard) := goodIn_app (goodIn_of _ (by decide +kernel)) ggL_isBest_X8_guard
set_option maxRecDepth 20000 in
theorem ggL_isBest_X8_worstWith : GoodIn wsL_isBest wsX8_worstWith := goodIn_ca (goodIn_ca (goodIn_r _ [278, 13, 189, 279, 190, 280, 18, 192, 193, 194, 9, 195, 11, 12, 196, 76, 77, 22, 78, 24, 281, 282, 283, 284, 285, 286, 225, 226, 227, 126, 162, 228, 114, 229, 230, 173, 231, 48, 49, 50, 174, 232, 233, 25, 109, 74, 234, 127, 235, 236, 237, 35, 36, 37, 38, 39, 40, 41, 42, 43, 44, 45, 46, 47, 51, 52, 53, 54, 55, 56, 57, 58, 59, 60, 61, 62, 63, 20, 21, 23, 26, 27, 64, 65, 66, 67, 68, 69, 70, 71, 72, 73, 75, 79, 80, 81, 82, 83, 84, 85, 86, 316, 317, 318, 319, 320, 321, 322, 323, 324, 325, 326, 327, 328, 329, 330, 331, 332, 333, 334, 335, 336, 337, 338, 339, 340, 341, 342, 343, 344, 345, 346, 347, 348, 349, 350, 351, 352, 353, 354, 355, 356] (by decide +kernel) (by decide +kernel)) (goodIn_sub (fun _ h => List.mem_cons_of_mem _ (List.mem_append_left _ (List.mem_append_right _ h))) (by decide +kernel))) (goodIn_sub (fun _ h => List.mem_cons_of_mem _ (List.mem_append_right _ h)) (by decide +kernel))
set_option maxRecDepth 20000 in
theorem gL_isBest_X8_worstWith : GoodIn wsL_isBest (wsV RL 249 RX8 yX8_worstWith wsX8_worstWith) := goodIn_app (goodIn_of _ (by decide +kernel)) ggL_isBest_X8_worstWith
set_option maxRecDepth 20000 in
theorem ggL_isBest_X8_adopt : GoodIn wsL_isBest wsX8_adopt := goodIn_r _ [290, 291, 13, 16, 190, 274, 209, 210, 211, 9, 212, 213, 214, 215, 216, 217, 218, 219, 220, 221, 222, 223, 224, 225, 226, 22, 227, 126, 162, 24, 228, 114, 229, 230, 173, 231, 48, 49, 50, 174, 232, 233, 25, 109, 74, 234, 127, 235, 236, 237, 238, 239, 240, 241, 242, 243, 244, 245, 26, 27, 246, 247, 248, 249, 250, 251, 252, 253, 254, 255, 256, 36, 37, 38, 39, 40, 41, 42, 43, 44, 45, 46, 47, 51, 52, 53, 54, 55, 56, 57, 58, 59, 60, 61, 62, 63, 20, 21, 23, 64, 65, 66, 67, 68, 69, 70, 71, 72, 73, 75, 76, 77, 78, 79, 80, 81, 82, 83, 84, 85, 86, 257, 97, 98, 99, 100, 101, 102, 103, 104, 105, 106, 107, 108, 258, 259, 260, 261, 262, 263, 264, 292, 293, 294, 295, 296, 297, 298, 299, 300, 301, 302, 303, 304, 305, 306, 34, 316, 317, 318, 319, 320, 321, 322, 323, 324, 325, 326, 327, 328, 329, 330, 331, 332, 333, 334, 335, 336, 337, 338, 339, 340, 341, 342, 343, 344, 345, 346, 347, 348, 357, 358, 359, 360, 361, 362, 363, 349, 350, 351, 352, 353, 354, 355, 356, 364, 365, 366, 367, 368] (by decide +kernel) (by decide +kernel)
set_option maxRecDepth 20000 in
theorem gL_isBest_X8_adopt : GoodIn wsL_isBest (wsV RL 170 RX8 yX8_adopt wsX8_adopt) := goodIn_app (goodIn_of _ (by decide +kernel)) ggL_isBest_X8_adopt
set_option maxRecDepth 20000 in
theorem ggL_isBest_X8_undo : GoodIn wsL_isBest wsX8_undo := goodIn_r _ [310, 291, 13, 311, 312, 313, 314, 295, 315, 297, 299, 298, 301, 225, 226, 22, 227, 126, 162, 24, 228, 114, 229, 230, 173, 231, 48, 49, 50, 174, 232, 233, 25, 109, 74, 234, 127, 235, 236, 237, 316, 317, 318, 319, 320, 321, 322, 323, 324, 325, 326, 327, 328, 329, 364, 365, 366, 367, 368, 330, 331, 332, 333, 334, 335, 336, 337, 338, 339, 340, 341, 342, 343, 344, 345, 346, 347, 348] (by decide +kernel) (by decide +kernel)
set_option maxRecDepth 20000 in
theorem gL_isBest_X8_undo : GoodIn wsL_isBest (wsV RL 252 RX8 yX8_undo wsX8_undo) := goodIn_app (goodIn_of _ (by decide +kernel)) ggL_isBest_X8_undo
theorem dL_isBest_0 : decode cL_isBest 0 = .ok (.aload_n 0, 1) := by decide +kernel
theorem dL_isBest_1 : decode cL_isBest 1 = .ok (.invokestatic 236, 3) := by decide +kernel
theorem dL_isBest_4 : decode cL_isBest 4 = .ok (.lstore_n 1, 1) := by decide +kernel
theorem dL_isBest_5 : decode cL_isBest 5 = .ok (.aload_n 0, 1) := by decide +kernel
theorem dL_isBest_6 : decode cL_isBest 6 = .ok (.invokevirtual 240, 3) := by decide +kernel
theorem dL_isBest_9 : decode cL_isBest 9 = .ok (.istore_n 3, 1) := by decide +kernel
theorem dL_isBest_10 : decode cL_isBest 10 = .ok (.aload_n 0, 1) := by decide +kernel
theorem dL_isBest_11 : decode cL_isBest 11 = .ok (.invokevirtual 243, 3) := by decide +kernel
theorem dL_isBest_14 : decode cL_isBest 14 = .ok (.istore 4, 2) := by decide +kernel
theorem dL_isBest_16 : decode cL_isBest 16 = .ok (.iconst 0, 1) := by decide +kernel
theorem dL_isBest_17 : decode cL_isBest 17 = .ok (.istore 5, 2) := by decide +kernel
theorem dL_isBest_19 : decode cL_isBest 19 = .ok (.iconst 0, 1) := by decide +kernel
theorem dL_isBest_20 : decode cL_isBest 20 = .ok (.istore 6, 2) := by decide +kernel
theorem dL_isBest_22 : decode cL_isBest 22 = .ok (.iload 6, 2) := by decide +kernel
theorem dL_isBest_24 : decode cL_isBest 24 = .ok (.aload_n 0, 1) := by decide +kernel
theorem dL_isBest_25 : decode cL_isBest 25 = .ok (.iconst 2, 1) := by decide +kernel
theorem dL_isBest_26 : decode cL_isBest 26 = .ok (.invokevirtual 138, 3) := by decide +kernel
theorem dL_isBest_29 : decode cL_isBest 29 = .ok (.if_icmp .ge 70, 3) := by decide +kernel
theorem dL_isBest_32 : decode cL_isBest 32 = .ok (.iload 5, 2) := by decide +kernel
theorem dL_isBest_34 : decode cL_isBest 34 = .ok (.aload_n 0, 1) := by decide +kernel
theorem dL_isBest_35 : decode cL_isBest 35 = .ok (.iload 6, 2) := by decide +kernel
theorem dL_isBest_37 : decode cL_isBest 37 = .ok (.invokevirtual 246, 3) := by decide +kernel
theorem dL_isBest_40 : decode cL_isBest 40 = .ok (.aload_n 0, 1) := by decide +kernel
theorem dL_isBest_41 : decode cL_isBest 41 = .ok (.iload 6, 2) := by decide +kernel
theorem dL_isBest_43 : decode cL_isBest 43 = .ok (.iconst 1, 1) := by decide +kernel
theorem dL_isBest_44 : decode cL_isBest 44 = .ok (.invokevirtual 155, 3) := by decide +kernel
theorem dL_isBest_47 : decode cL_isBest 47 = .ok (.if_icmp .ne 7, 3) := by decide +kernel
theorem dL_isBest_50 : decode cL_isBest 50 = .ok (.iconst 0, 1) := by decide +kernel
theorem dL_isBest_51 : decode cL_isBest 51 = .ok (.goto 4, 3) := by decide +kernel
theorem dL_isBest_54 : decode cL_isBest 54 = .ok (.iconst 1, 1) := by decide +kernel
theorem dL_isBest_55 : decode cL_isBest 55 = .ok (.iadd, 1) := by decide +kernel
theorem dL_isBest_56 : decode cL_isBest 56 = .ok (.istore 5, 2) := by decide +kernel
theorem dL_isBest_58 : decode cL_isBest 58 = .ok (.iconst 0, 1) := by decide +kernel
theorem dL_isBest_59 : decode cL_isBest 59 = .ok (.istore 7, 2) := by decide +kernel
theorem dL_isBest_61 : decode cL_isBest 61 = .ok (.iload 7, 2) := by decide +kernel
theorem dL_isBest_63 : decode cL_isBest 63 = .ok (.aload_n 0, 1) := by decide +kernel
theorem dL_isBest_64 : decode cL_isBest 64 = .ok (.iload 6, 2) := by decide +kernel
theorem dL_isBest_66 : decode cL_isBest 66 = .ok (.iconst 0, 1) := by decide +kernel
theorem dL_isBest_67 : decode cL_isBest 67 = .ok (.invokevirtual 155, 3) := by decide +kernel
theorem dL_isBest_70 : decode cL_isBest 70 = .ok (.if_icmp .ge 23, 3) := by decide +kernel
theorem dL_isBest_73 : decode cL_isBest 73 = .ok (.aload_n 0, 1) := by decide +kernel
theorem dL_isBest_74 : decode cL_isBest 74 = .ok (.iload 6, 2) := by decide +kernel
theorem dL_isBest_76 : decode cL_isBest 76 = .ok (.iload 7, 2) := by decide +kernel
theorem dL_isBest_78 : decode cL_isBest 78 = .ok (.invokevirtual 249, 3) := by decide +kernel
theorem dL_isBest_81 : decode cL_isBest 81 = .ok (.iload_n 3, 1) := by decide +kernel
theorem dL_isBest_82 : decode cL_isBest 82 = .ok (.if_icmp .ge 5, 3) := by decide +kernel
theorem dL_isBest_85 : decode cL_isBest 85 = .ok (.iconst 0, 1) := by decide +kernel
theorem dL_isBest_86 : decode cL_isBest 86 = .ok (.ireturn, 1) := by decide +kernel
theorem dL_isBest_87 : decode cL_isBest 87 = .ok (.iinc 7 1, 3) := by decide +kernel
theorem dL_isBest_90 : decode cL_isBest 90 = .ok (.goto (-29), 3) := by decide +kernel
theorem dL_isBest_93 : decode cL_isBest 93 = .ok (.iinc 6 1, 3) := by decide +kernel
theorem dL_isBest_96 : decode cL_isBest 96 = .ok (.goto (-74), 3) := by decide +kernel
theorem dL_isBest_99 : decode cL_isBest 99 = .ok (.aload_n 0, 1) := by decide +kernel
theorem dL_isBest_100 : decode cL_isBest 100 = .ok (.invokestatic 236, 3) := by decide +kernel
theorem dL_isBest_103 : decode cL_isBest 103 = .ok (.lload_n 1, 1) := by decide +kernel
theorem dL_isBest_104 : decode cL_isBest 104 = .ok (.lcmp, 1) := by decide +kernel
theorem dL_isBest_105 : decode cL_isBest 105 = .ok (.ifCond .ne 40, 3) := by decide +kernel
theorem dL_isBest_108 : decode cL_isBest 108 = .ok (.aload_n 0, 1) := by decide +kernel
theorem dL_isBest_109 : decode cL_isBest 109 = .ok (.invokevirtual 170, 3) := by decide +kernel
theorem dL_isBest_112 : decode cL_isBest 112 = .ok (.iload 5, 2) := by decide +kernel
theorem dL_isBest_114 : decode cL_isBest 114 = .ok (.if_icmp .ne 31, 3) := by decide +kernel
theorem dL_isBest_117 : decode cL_isBest 117 = .ok (.aload_n 0, 1) := by decide +kernel
theorem dL_isBest_118 : decode cL_isBest 118 = .ok (.iconst 5, 1) := by decide +kernel
theorem dL_isBest_119 : decode cL_isBest 119 = .ok (.invokevirtual 138, 3) := by decide +kernel
theorem dL_isBest_122 : decode cL_isBest 122 = .ok (.iload_n 3, 1) := by decide +kernel
theorem dL_isBest_123 : decode cL_isBest 123 = .ok (.if_icmp .ne 22, 3) := by decide +kernel
theorem dL_isBest_126 : decode cL_isBest 126 = .ok (.aload_n 0, 1) := by decide +kernel
theorem dL_isBest_127 : decode cL_isBest 127 = .ok (.bipush 7, 2) := by decide +kernel
theorem dL_isBest_129 : decode cL_isBest 129 = .ok (.invokevirtual 138, 3) := by decide +kernel
theorem dL_isBest_132 : decode cL_isBest 132 = .ok (.iload 4, 2) := by decide +kernel
theorem dL_isBest_134 : decode cL_isBest 134 = .ok (.if_icmp .ne 11, 3) := by decide +kernel
theorem dL_isBest_137 : decode cL_isBest 137 = .ok (.aload_n 0, 1) := by decide +kernel
theorem dL_isBest_138 : decode cL_isBest 138 = .ok (.invokevirtual 240, 3) := by decide +kernel
theorem dL_isBest_141 : decode cL_isBest 141 = .ok (.iload_n 3, 1) := by decide +kernel
theorem dL_isBest_142 : decode cL_isBest 142 = .ok (.if_icmp .eq 5, 3) := by decide +kernel
theorem dL_isBest_145 : decode cL_isBest 145 = .ok (.iconst 0, 1) := by decide +kernel
theorem dL_isBest_146 : decode cL_isBest 146 = .ok (.ireturn, 1) := by decide +kernel
theorem dL_isBest_147 : decode cL_isBest 147 = .ok (.iconst 0, 1) := by decide +kernel
theorem dL_isBest_148 : decode cL_isBest 148 = .ok (.istore 6, 2) := by decide +kernel
theorem dL_isBest_150 : decode cL_isBest 150 = .ok (.iload 6, 2) := by decide +kernel
theorem dL_isBest_152 : decode cL_isBest 152 = .ok (.aload_n 0, 1) := by decide +kernel
theorem dL_isBest_153 : decode cL_isBest 153 = .ok (.iconst 2, 1) := by decide +kernel
theorem dL_isBest_154 : decode cL_isBest 154 = .ok (.invokevirtual 138, 3) := by decide +kernel
theorem dL_isBest_157 : decode cL_isBest 157 = .ok (.if_icmp .ge 27, 3) := by decide +kernel
theorem dL_isBest_160 : decode cL_isBest 160 = .ok (.aload_n 0, 1) := by decide +kernel
theorem dL_isBest_161 : decode cL_isBest 161 = .ok (.iload 6, 2) := by decide +kernel
theorem dL_isBest_163 : decode cL_isBest 163 = .ok (.iconst 1, 1) := by decide +kernel
theorem dL_isBest_164 : decode cL_isBest 164 = .ok (.invokevirtual 155, 3) := by decide +kernel
theorem dL_isBest_167 : decode cL_isBest 167 = .ok (.aload_n 0, 1) := by decide +kernel
theorem dL_isBest_168 : decode cL_isBest 168 = .ok (.iload 6, 2) := by decide +kernel
theorem dL_isBest_170 : decode cL_isBest 170 = .ok (.invokevirtual 246, 3) := by decide +kernel
theorem dL_isBest_173 : decode cL_isBest 173 = .ok (.if_icmp .eq 5, 3) := by decide +kernel
theorem dL_isBest_176 : decode cL_isBest 176 = .ok (.iconst 0, 1) := by decide +kernel
theorem dL_isBest_177 : decode cL_isBest 177 = .ok (.ireturn, 1) := by decide +kernel
theorem dL_isBest_178 : decode cL_isBest 178 = .ok (.iinc 6 1, 3) := by decide +kernel
theorem dL_isBest_181 : decode cL_isBest 181 = .ok (.goto (-31), 3) := by decide +kernel
theorem dL_isBest_184 : decode cL_isBest 184 = .ok (.aload_n 0, 1) := by decide +kernel
theorem dL_isBest_185 : decode cL_isBest 185 = .ok (.invokevirtual 170, 3) := by decide +kernel
theorem dL_isBest_188 : decode cL_isBest 188 = .ok (.ifCond .ne 30, 3) := by decide +kernel
theorem dL_isBest_191 : decode cL_isBest 191 = .ok (.aload_n 0, 1) := by decide +kernel
theorem dL_isBest_192 : decode cL_isBest 192 = .ok (.invokevirtual 252, 3) := by decide +kernel
theorem dL_isBest_195 : decode cL_isBest 195 = .ok (.ifCond .lt 23, 3) := by decide +kernel
theorem dL_isBest_198 : decode cL_isBest 198 = .ok (.aload_n 0, 1) := by decide +kernel
theorem dL_isBest_199 : decode cL_isBest 199 = .ok (.invokevirtual 252, 3) := by decide +kernel
theorem dL_isBest_202 : decode cL_isBest 202 = .ok (.ifCond .lt 16, 3) := by decide +kernel
theorem dL_isBest_205 : decode cL_isBest 205 = .ok (.aload_n 0, 1) := by decide +kernel
theorem dL_isBest_206 : decode cL_isBest 206 = .ok (.invokestatic 236, 3) := by decide +kernel
theorem dL_isBest_209 : decode cL_isBest 209 = .ok (.lload_n 1, 1) := by decide +kernel
theorem dL_isBest_210 : decode cL_isBest 210 = .ok (.lcmp, 1) := by decide +kernel
theorem dL_isBest_211 : decode cL_isBest 211 = .ok (.ifCond .ne 7, 3) := by decide +kernel
theorem dL_isBest_214 : decode cL_isBest 214 = .ok (.iconst 1, 1) := by decide +kernel
theorem dL_isBest_215 : decode cL_isBest 215 = .ok (.goto 4, 3) := by decide +kernel
theorem dL_isBest_218 : decode cL_isBest 218 = .ok (.iconst 0, 1) := by decide +kernel
theorem dL_isBest_219 : decode cL_isBest 219 = .ok (.ireturn, 1) := by decide +kernel
set_option maxRecDepth 20000 in
theorem ggL_isPassed_L_all : GoodIn wsL_isPassed wsL_all := goodIn_ca (goodIn_r _ [12, 13, 14, 15, 16, 17, 18, 19, 20, 21, 22, 23, 24, 25, 26, 27, 28, 29, 30, 31, 32, 33, 34, 35, 36, 37, 38, 39, 40, 41, 42, 43, 44, 45, 46, 47, 48, 49, 50, 51, 52, 53, 54, 55, 56, 57, 58, 59, 60, 61, 3, 4, 5, 62, 63, 64, 65, 66, 67, 68, 69, 70, 71, 72, 73, 74, 75, 76, 77, 78, 79, 80, 81, 82, 83, 84, 85, 86, 87, 88, 89, 90, 91, 92, 93, 94, 95, 96, 97, 98, 99, 100, 101, 102, 103, 104, 105, 106, 107, 108, 109, 110, 111, 112, 113, 114, 115, 116, 117, 118, 119, 120, 121, 122, 123, 124, 125, 126, 127, 128, 129, 130, 131, 132, 133, 134, 135, 136, 137, 138, 139, 140, 141, 142, 143, 144, 145, 146, 147, 148, 149, 150, 151, 152, 153, 154, 155, 156, 157, 158, 159, 160, 161, 162, 163, 164, 165, 166, 167, 168, 169, 170, 171, 172, 173, 174, 175, 176, 177, 178, 179, 180, 181, 182, 183, 184, 185, 186, 187, 188, 189, 190, 191, 192, 193, 194, 195, 196, 197, 198, 199, 200, 201, 202, 203, 204, 205, 206, 207, 208, 261, 262, 263, 264, 265, 266, 267, 268, 269, 270, 271, 272, 273, 274, 275, 276, 277, 278, 279, 280, 281, 282, 283, 284, 285, 286, 287, 288, 289, 290, 291, 292, 293, 294, 295, 296, 297, 298, 299, 300, 301] (by decide +kernel) (by decide +kernel)) (goodIn_sub (fun _ h => List.mem_cons_of_mem _ (List.mem_append_left _ (List.mem_append_right _ h))) (by decide +kernel))
set_option maxRecDepth 20000 in
theorem gL_isPassed_L_all : GoodIn wsL_isPassed (va_wsS RL 236 yL_all wsL_all) := goodIn_app (goodIn_of _ (by decide +kernel)) ggL_isPassed_L_all
set_option maxRecDepth 20000 in
theorem ggL_isPassed_X8_size : GoodIn wsL_isPassed wsX8_size := goodIn_ca (goodIn_r _ [18, 19, 20, 21, 22, 23, 24, 25, 26, 27, 28, 29, 30, 31, 32, 33, 34, 17, 35, 36, 37, 38, 39, 40, 41, 42, 43, 44, 45, 46, 47, 48, 49, 50, 51, 52, 53, 54, 55, 56, 57, 58, 59, 60, 61, 3, 4, 5, 62, 63, 64, 65, 66, 67, 68, 69, 70, 71, 72, 73, 74, 75, 76, 77, 78, 79, 80, 81, 82, 83, 84, 85, 86, 87, 88, 89, 90, 91, 92, 93, 94, 95, 96, 97, 98, 99, 100, 101, 102, 103, 104, 105, 106, 107, 108, 109, 110, 111, 112, 113, 114, 115, 116, 117, 118, 119, 120, 121, 122, 123, 124, 125, 126, 127, 128, 129, 130, 131, 132, 261, 262, 263, 264, 265, 266, 267, 268, 269, 270, 271, 272, 273, 274, 275, 276, 277, 278, 279, 280, 281, 282, 283, 284, 285, 286, 287, 288, 289, 290, 291, 292, 293, 294, 295, 296, 297, 298, 299, 300, 301] (by decide +kernel) (by decide +kernel)) (goodIn_sub (fun _ h => List.mem_cons_of_mem _ (List.mem_append_left _ (List.mem_append_right _ h))) (by decide +kernel))
set_option maxRecDepth 20000 in
theorem gL_isPassed_X8_size : GoodIn wsL_isPassed (wsV RL 138 RX8 yX8_size wsX8_size) := goodIn_app (goodIn_of _ (by decide +kernel)) ggL_isPassed_X8_size
set_option maxRecDepth 20000 in
theorem ggL_isPassed_X8_room : GoodIn wsL_isPassed wsX8_room := goodIn_ca (goodIn_r _ [136, 19, 20, 21, 137, 138, 139, 140, 141, 142, 143, 144, 145, 146, 17, 147, 148, 149, 150, 30, 151, 131, 36, 37, 38, 39, 40, 41, 42, 43, 44, 45, 46, 47, 48, 49, 50, 51, 52, 53, 54, 55, 56, 57, 58, 59, 60, 61, 3, 4, 5, 62, 63, 64, 65, 66, 67, 68, 28, 29, 31, 32, 33, 34, 35, 69, 70, 71, 72, 73, 74, 75, 76, 77, 78, 79, 80, 81, 82, 83, 84, 85, 86, 87, 88, 89, 90, 91, 152, 97, 98, 99, 100, 261, 262, 263, 264, 265, 266, 267, 268, 269, 270, 271, 272, 273, 274, 275, 276, 277, 278, 279, 280, 281, 282, 283, 284, 285, 286, 287, 288, 289, 290, 291, 292, 293, 294, 295, 296, 297, 298, 299, 300, 301] (by decide +kernel) (by decide +kernel)) (goodIn_sub (fun _ h => List.mem_cons_of_mem _ (List.mem_append_left _ (List.mem_append_right _ h))) (by decide +kernel))
set_option maxRecDepth 20000 in
theorem gL_isPassed_X8_room : GoodIn wsL_isPassed (wsV RL 118 RX8 yX8_room wsX8_room) := goodIn_app (goodIn_of _ (by decide +kernel)) ggL_isPassed_X8_room
set_option maxRecDepth 20000 in
theorem ggL_isPassed_X8_pass : GoodIn wsL_isPassed wsX8_pass := goodIn_ca (goodIn_r _ [212, 21, 25, 213, 214, 215, 216, 17, 217, 218, 219, 220, 221, 222, 223, 224, 225, 226, 227, 228, 7, 4, 8, 229, 230, 231, 30, 232, 131, 167, 32, 233, 119, 234, 235, 178, 236, 56, 57, 58, 179, 237, 238, 33, 114, 79, 239, 132, 240, 241, 242, 243, 244, 245, 246, 247, 3, 5, 248, 249, 250, 251, 110, 111, 112, 113, 80, 81, 82, 83, 172, 173, 120, 121, 122, 123, 124, 125, 126, 261, 262, 263, 264, 265, 266, 267, 268, 269, 270, 271, 272, 273, 274, 275, 276, 277, 278, 279, 280, 281, 282, 283, 284, 285, 286, 287, 288, 289, 290, 291, 292, 293, 302, 303, 304, 305, 306] (by decide +kernel) (by decide +kernel)) (goodIn_sub (fun _ h => List.mem_cons_of_mem _ (List.mem_append_right _ h)) (by decide +kernel))
set_option maxRecDepth 20000 in
theorem gL_isPassed_X8_pass : GoodIn wsL_isPassed (wsV RL 162 RX8 yX8_pass wsX8_pass) := goodIn_app (goodIn_of _ (by decide +kernel)) ggL_isPassed_X8_pass
set_option maxRecDepth 20000 in
theorem ggL_isPassed_X8_undo : GoodIn wsL_isPassed wsX8_undo := goodIn_r _ [255, 214, 21, 256, 257, 258, 259, 223, 260, 225, 227, 226, 229, 230, 231, 30, 232, 131, 167, 32, 233, 119, 234, 235, 178, 236, 56, 57, 58, 179, 237, 238, 33, 114, 79, 239, 132, 240, 241, 242, 261, 262, 263, 264, 265, 266, 267, 268, 269, 270, 271, 272, 273, 274, 302, 303, 304, 305, 306, 275, 276, 277, 278, 279, 280, 281, 282, 283, 284, 285, 286, 287, 288, 289, 290, 291, 292, 293] (by decide +kernel) (by decide +kernel)
set_option maxRecDepth 20000 in
theorem gL_isPassed_X8_undo : GoodIn wsL_isPassed (wsV RL 252 RX8 yX8_undo wsX8_undo) := goodIn_app (goodIn_of _ (by decide +kernel)) ggL_isPassed_X8_undo
theorem dL_isPassed_0 : decode cL_isPassed 0 = .ok (.aload_n 0, 1) := by decide +kernel
theorem dL_isPassed_1 : decode cL_isPassed 1 = .ok (.invokestatic 236, 3) := by decide +kernel
theorem dL_isPassed_4 : decode cL_isPassed 4 = .ok (.lstore_n 1, 1) := by decide +kernel
theorem dL_isPassed_5 : decode cL_isPassed 5 = .ok (.aload_n 0, 1) := by decide +kernel
theorem dL_isPassed_6 : decode cL_isPassed 6 = .ok (.iconst 3, 1) := by decide +kernel
theorem dL_isPassed_7 : decode cL_isPassed 7 = .ok (.invokevirtual 138, 3) := by decide +kernel
theorem dL_isPassed_10 : decode cL_isPassed 10 = .ok (.istore_n 3, 1) := by decide +kernel
theorem dL_isPassed_11 : decode cL_isPassed 11 = .ok (.aload_n 0, 1) := by decide +kernel
theorem dL_isPassed_12 : decode cL_isPassed 12 = .ok (.iconst 0, 1) := by decide +kernel
theorem dL_isPassed_13 : decode cL_isPassed 13 = .ok (.invokevirtual 138, 3) := by decide +kernel
theorem dL_isPassed_16 : decode cL_isPassed 16 = .ok (.istore 4, 2) := by decide +kernel
theorem dL_isPassed_18 : decode cL_isPassed 18 = .ok (.iconst 0, 1) := by decide +kernel
theorem dL_isPassed_19 : decode cL_isPassed 19 = .ok (.istore 5, 2) := by decide +kernel
theorem dL_isPassed_21 : decode cL_isPassed 21 = .ok (.iload 4, 2) := by decide +kernel
theorem dL_isPassed_23 : decode cL_isPassed 23 = .ok (.newarray .int, 2) := by decide +kernel
theorem dL_isPassed_25 : decode cL_isPassed 25 = .ok (.astore 6, 2) := by decide +kernel
theorem dL_isPassed_27 : decode cL_isPassed 27 = .ok (.iload 4, 2) := by decide +kernel
theorem dL_isPassed_29 : decode cL_isPassed 29 = .ok (.newarray .int, 2) := by decide +kernel
theorem dL_isPassed_31 : decode cL_isPassed 31 = .ok (.astore 7, 2) := by decide +kernel
theorem dL_isPassed_33 : decode cL_isPassed 33 = .ok (.iload 4, 2) := by decide +kernel
theorem dL_isPassed_35 : decode cL_isPassed 35 = .ok (.newarray .int, 2) := by decide +kernel
theorem dL_isPassed_37 : decode cL_isPassed 37 = .ok (.astore 8, 2) := by decide +kernel
theorem dL_isPassed_39 : decode cL_isPassed 39 = .ok (.iconst 0, 1) := by decide +kernel
theorem dL_isPassed_40 : decode cL_isPassed 40 = .ok (.istore 9, 2) := by decide +kernel
theorem dL_isPassed_42 : decode cL_isPassed 42 = .ok (.iload 9, 2) := by decide +kernel
theorem dL_isPassed_44 : decode cL_isPassed 44 = .ok (.iload 4, 2) := by decide +kernel
theorem dL_isPassed_46 : decode cL_isPassed 46 = .ok (.if_icmp .ge 61, 3) := by decide +kernel
theorem dL_isPassed_49 : decode cL_isPassed 49 = .ok (.iload 5, 2) := by decide +kernel
theorem dL_isPassed_51 : decode cL_isPassed 51 = .ok (.iconst 2, 1) := by decide +kernel
theorem dL_isPassed_52 : decode cL_isPassed 52 = .ok (.aload_n 0, 1) := by decide +kernel
theorem dL_isPassed_53 : decode cL_isPassed 53 = .ok (.iload 9, 2) := by decide +kernel
theorem dL_isPassed_55 : decode cL_isPassed 55 = .ok (.iconst 3, 1) := by decide +kernel
theorem dL_isPassed_56 : decode cL_isPassed 56 = .ok (.invokevirtual 118, 3) := by decide +kernel
theorem dL_isPassed_59 : decode cL_isPassed 59 = .ok (.imul, 1) := by decide +kernel
theorem dL_isPassed_60 : decode cL_isPassed 60 = .ok (.iadd, 1) := by decide +kernel
theorem dL_isPassed_61 : decode cL_isPassed 61 = .ok (.istore 5, 2) := by decide +kernel
theorem dL_isPassed_63 : decode cL_isPassed 63 = .ok (.aload 6, 2) := by decide +kernel
theorem dL_isPassed_65 : decode cL_isPassed 65 = .ok (.iload 9, 2) := by decide +kernel
theorem dL_isPassed_67 : decode cL_isPassed 67 = .ok (.aload_n 0, 1) := by decide +kernel
theorem dL_isPassed_68 : decode cL_isPassed 68 = .ok (.iload 9, 2) := by decide +kernel
theorem dL_isPassed_70 : decode cL_isPassed 70 = .ok (.bipush 6, 2) := by decide +kernel
theorem dL_isPassed_72 : decode cL_isPassed 72 = .ok (.invokevirtual 118, 3) := by decide +kernel
theorem dL_isPassed_75 : decode cL_isPassed 75 = .ok (.iastore, 1) := by decide +kernel
theorem dL_isPassed_76 : decode cL_isPassed 76 = .ok (.aload 7, 2) := by decide +kernel
theorem dL_isPassed_78 : decode cL_isPassed 78 = .ok (.iload 9, 2) := by decide +kernel
theorem dL_isPassed_80 : decode cL_isPassed 80 = .ok (.aload_n 0, 1) := by decide +kernel
theorem dL_isPassed_81 : decode cL_isPassed 81 = .ok (.iload 9, 2) := by decide +kernel
theorem dL_isPassed_83 : decode cL_isPassed 83 = .ok (.bipush 7, 2) := by decide +kernel
theorem dL_isPassed_85 : decode cL_isPassed 85 = .ok (.invokevirtual 118, 3) := by decide +kernel
theorem dL_isPassed_88 : decode cL_isPassed 88 = .ok (.iastore, 1) := by decide +kernel
theorem dL_isPassed_89 : decode cL_isPassed 89 = .ok (.aload 8, 2) := by decide +kernel
theorem dL_isPassed_91 : decode cL_isPassed 91 = .ok (.iload 9, 2) := by decide +kernel
theorem dL_isPassed_93 : decode cL_isPassed 93 = .ok (.aload_n 0, 1) := by decide +kernel
theorem dL_isPassed_94 : decode cL_isPassed 94 = .ok (.iload 9, 2) := by decide +kernel
theorem dL_isPassed_96 : decode cL_isPassed 96 = .ok (.iconst 4, 1) := by decide +kernel
theorem dL_isPassed_97 : decode cL_isPassed 97 = .ok (.invokevirtual 118, 3) := by decide +kernel
theorem dL_isPassed_100 : decode cL_isPassed 100 = .ok (.iastore, 1) := by decide +kernel
theorem dL_isPassed_101 : decode cL_isPassed 101 = .ok (.iinc 9 1, 3) := by decide +kernel
theorem dL_isPassed_104 : decode cL_isPassed 104 = .ok (.goto (-62), 3) := by decide +kernel
theorem dL_isPassed_107 : decode cL_isPassed 107 = .ok (.aload_n 0, 1) := by decide +kernel
theorem dL_isPassed_108 : decode cL_isPassed 108 = .ok (.iconst 2, 1) := by decide +kernel
theorem dL_isPassed_109 : decode cL_isPassed 109 = .ok (.iload_n 3, 1) := by decide +kernel
theorem dL_isPassed_110 : decode cL_isPassed 110 = .ok (.imul, 1) := by decide +kernel
theorem dL_isPassed_111 : decode cL_isPassed 111 = .ok (.invokevirtual 162, 3) := by decide +kernel
theorem dL_isPassed_114 : decode cL_isPassed 114 = .ok (.iload 5, 2) := by decide +kernel
theorem dL_isPassed_116 : decode cL_isPassed 116 = .ok (.if_icmp .eq 5, 3) := by decide +kernel
theorem dL_isPassed_119 : decode cL_isPassed 119 = .ok (.iconst 0, 1) := by decide +kernel
theorem dL_isPassed_120 : decode cL_isPassed 120 = .ok (.ireturn, 1) := by decide +kernel
theorem dL_isPassed_121 : decode cL_isPassed 121 = .ok (.iconst 0, 1) := by decide +kernel
theorem dL_isPassed_122 : decode cL_isPassed 122 = .ok (.istore 9, 2) := by decide +kernel
theorem dL_isPassed_124 : decode cL_isPassed 124 = .ok (.iload 9, 2) := by decide +kernel
theorem dL_isPassed_126 : decode cL_isPassed 126 = .ok (.iload 4, 2) := by decide +kernel
theorem dL_isPassed_128 : decode cL_isPassed 128 = .ok (.if_icmp .ge 107, 3) := by decide +kernel
theorem dL_isPassed_131 : decode cL_isPassed 131 = .ok (.aload_n 0, 1) := by decide +kernel
theorem dL_isPassed_132 : decode cL_isPassed 132 = .ok (.iload 9, 2) := by decide +kernel
theorem dL_isPassed_134 : decode cL_isPassed 134 = .ok (.iconst 1, 1) := by decide +kernel
theorem dL_isPassed_135 : decode cL_isPassed 135 = .ok (.invokevirtual 118, 3) := by decide +kernel
theorem dL_isPassed_138 : decode cL_isPassed 138 = .ok (.ifCond .ge 9, 3) := by decide +kernel
theorem dL_isPassed_141 : decode cL_isPassed 141 = .ok (.iconst 2, 1) := by decide +kernel
theorem dL_isPassed_142 : decode cL_isPassed 142 = .ok (.iload_n 3, 1) := by decide +kernel
theorem dL_isPassed_143 : decode cL_isPassed 143 = .ok (.imul, 1) := by decide +kernel
theorem dL_isPassed_144 : decode cL_isPassed 144 = .ok (.goto 10, 3) := by decide +kernel
theorem dL_isPassed_147 : decode cL_isPassed 147 = .ok (.aload_n 0, 1) := by decide +kernel
theorem dL_isPassed_148 : decode cL_isPassed 148 = .ok (.iload 9, 2) := by decide +kernel
theorem dL_isPassed_150 : decode cL_isPassed 150 = .ok (.iconst 1, 1) := by decide +kernel
theorem dL_isPassed_151 : decode cL_isPassed 151 = .ok (.invokevirtual 118, 3) := by decide +kernel
theorem dL_isPassed_154 : decode cL_isPassed 154 = .ok (.istore 10, 2) := by decide +kernel
theorem dL_isPassed_156 : decode cL_isPassed 156 = .ok (.aload_n 0, 1) := by decide +kernel
theorem dL_isPassed_157 : decode cL_isPassed 157 = .ok (.iload 9, 2) := by decide +kernel
theorem dL_isPassed_159 : decode cL_isPassed 159 = .ok (.iconst 4, 1) := by decide +kernel
theorem dL_isPassed_160 : decode cL_isPassed 160 = .ok (.invokevirtual 118, 3) := by decide +kernel
theorem dL_isPassed_163 : decode cL_isPassed 163 = .ok (.aload 8, 2) := by decide +kernel
theorem dL_isPassed_165 : decode cL_isPassed 165 = .ok (.iload 9, 2) := by decide +kernel
theorem dL_isPassed_167 : decode cL_isPassed 167 = .ok (.iaload, 1) := by decide +kernel
theorem dL_isPassed_168 : decode cL_isPassed 168 = .ok (.iconst 2, 1) := by decide +kernel
theorem dL_isPassed_169 : decode cL_isPassed 169 = .ok (.aload_n 0, 1) := by decide +kernel
theorem dL_isPassed_170 : decode cL_isPassed 170 = .ok (.iload 9, 2) := by decide +kernel
theorem dL_isPassed_172 : decode cL_isPassed 172 = .ok (.iconst 3, 1) := by decide +kernel
theorem dL_isPassed_173 : decode cL_isPassed 173 = .ok (.invokevirtual 118, 3) := by decide +kernel
theorem dL_isPassed_176 : decode cL_isPassed 176 = .ok (.imul, 1) := by decide +kernel
theorem dL_isPassed_177 : decode cL_isPassed 177 = .ok (.iadd, 1) := by decide +kernel
theorem dL_isPassed_178 : decode cL_isPassed 178 = .ok (.if_icmp .ne 49, 3) := by decide +kernel
theorem dL_isPassed_181 : decode cL_isPassed 181 = .ok (.aload_n 0, 1) := by decide +kernel
theorem dL_isPassed_182 : decode cL_isPassed 182 = .ok (.iload 9, 2) := by decide +kernel
theorem dL_isPassed_184 : decode cL_isPassed 184 = .ok (.bipush 7, 2) := by decide +kernel
theorem dL_isPassed_186 : decode cL_isPassed 186 = .ok (.invokevirtual 118, 3) := by decide +kernel
theorem dL_isPassed_189 : decode cL_isPassed 189 = .ok (.aload 7, 2) := by decide +kernel
theorem dL_isPassed_191 : decode cL_isPassed 191 = .ok (.iload 9, 2) := by decide +kernel
theorem dL_isPassed_193 : decode cL_isPassed 193 = .ok (.iaload, 1) := by decide +kernel
theorem dL_isPassed_194 : decode cL_isPassed 194 = .ok (.aload 6, 2) := by decide +kernel
theorem dL_isPassed_196 : decode cL_isPassed 196 = .ok (.iload 9, 2) := by decide +kernel
theorem dL_isPassed_198 : decode cL_isPassed 198 = .ok (.iaload, 1) := by decide +kernel
theorem dL_isPassed_199 : decode cL_isPassed 199 = .ok (.iload 10, 2) := by decide +kernel
theorem dL_isPassed_201 : decode cL_isPassed 201 = .ok (.iadd, 1) := by decide +kernel
theorem dL_isPassed_202 : decode cL_isPassed 202 = .ok (.invokestatic 195, 3) := by decide +kernel
theorem dL_isPassed_205 : decode cL_isPassed 205 = .ok (.if_icmp .gt 22, 3) := by decide +kernel
theorem dL_isPassed_208 : decode cL_isPassed 208 = .ok (.aload_n 0, 1) := by decide +kernel
theorem dL_isPassed_209 : decode cL_isPassed 209 = .ok (.iload 9, 2) := by decide +kernel
theorem dL_isPassed_211 : decode cL_isPassed 211 = .ok (.bipush 7, 2) := by decide +kernel
theorem dL_isPassed_213 : decode cL_isPassed 213 = .ok (.invokevirtual 118, 3) := by decide +kernel
theorem dL_isPassed_216 : decode cL_isPassed 216 = .ok (.iload 10, 2) := by decide +kernel
theorem dL_isPassed_218 : decode cL_isPassed 218 = .ok (.iconst 2, 1) := by decide +kernel
theorem dL_isPassed_219 : decode cL_isPassed 219 = .ok (.iload_n 3, 1) := by decide +kernel
theorem dL_isPassed_220 : decode cL_isPassed 220 = .ok (.imul, 1) := by decide +kernel
theorem dL_isPassed_221 : decode cL_isPassed 221 = .ok (.invokestatic 230, 3) := by decide +kernel
theorem dL_isPassed_224 : decode cL_isPassed 224 = .ok (.if_icmp .ge 5, 3) := by decide +kernel
theorem dL_isPassed_227 : decode cL_isPassed 227 = .ok (.iconst 0, 1) := by decide +kernel
theorem dL_isPassed_228 : decode cL_isPassed 228 = .ok (.ireturn, 1) := by decide +kernel
theorem dL_isPassed_229 : decode cL_isPassed 229 = .ok (.iinc 9 1, 3) := by decide +kernel
theorem dL_isPassed_232 : decode cL_isPassed 232 = .ok (.goto (-108), 3) := by decide +kernel
theorem dL_isPassed_235 : decode cL_isPassed 235 = .ok (.aload_n 0, 1) := by decide +kernel
theorem dL_isPassed_236 : decode cL_isPassed 236 = .ok (.invokevirtual 252, 3) := by decide +kernel
theorem dL_isPassed_239 : decode cL_isPassed 239 = .ok (.ifCond .lt 16, 3) := by decide +kernel
theorem dL_isPassed_242 : decode cL_isPassed 242 = .ok (.aload_n 0, 1) := by decide +kernel
theorem dL_isPassed_243 : decode cL_isPassed 243 = .ok (.invokestatic 236, 3) := by decide +kernel
theorem dL_isPassed_246 : decode cL_isPassed 246 = .ok (.lload_n 1, 1) := by decide +kernel
theorem dL_isPassed_247 : decode cL_isPassed 247 = .ok (.lcmp, 1) := by decide +kernel
theorem dL_isPassed_248 : decode cL_isPassed 248 = .ok (.ifCond .ne 7, 3) := by decide +kernel
theorem dL_isPassed_251 : decode cL_isPassed 251 = .ok (.iconst 1, 1) := by decide +kernel
theorem dL_isPassed_252 : decode cL_isPassed 252 = .ok (.goto 4, 3) := by decide +kernel
theorem dL_isPassed_255 : decode cL_isPassed 255 = .ok (.iconst 0, 1) := by decide +kernel
theorem dL_isPassed_256 : decode cL_isPassed 256 = .ok (.ireturn, 1) := by decide +kernel

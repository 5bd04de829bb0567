theorem dX9_setLimit_45 : decode cX9_setLimit 45 = .ok (.getfield 9, 3) := by decide +kernel
theorem dX9_setLimit_48 : decode cX9_setLimit 48 = .ok (.iload_n 1, 1) := by decide +kernel
theorem dX9_setLimit_49 : decode cX9_setLimit 49 = .ok (.iconst 0, 1) := by decide +kernel
theorem dX9_setLimit_50 : decode cX9_setLimit 50 = .ok (.invokestatic 100, 3) := by decide +kernel
theorem dX9_setLimit_53 : decode cX9_setLimit 53 = .ok (.iload_n 2, 1) := by decide +kernel
theorem dX9_setLimit_54 : decode cX9_setLimit 54 = .ok (.iastore, 1) := by decide +kernel
theorem dX9_setLimit_55 : decode cX9_setLimit 55 = .ok (.aload_n 0, 1) := by decide +kernel
theorem dX9_setLimit_56 : decode cX9_setLimit 56 = .ok (.invokevirtual 226, 3) := by decide +kernel
theorem dX9_setLimit_59 : decode cX9_setLimit 59 = .ok (.aload_n 0, 1) := by decide +kernel
theorem dX9_setLimit_60 : decode cX9_setLimit 60 = .ok (.invokevirtual 229, 3) := by decide +kernel
theorem dX9_setLimit_63 : decode cX9_setLimit 63 = .ok (.ireturn, 1) := by decide +kernel
theorem dX9_write_0 : decode cX9_write 0 = .ok (.aload_n 0, 1) := by decide +kernel
theorem dX9_write_1 : decode cX9_write 1 = .ok (.getfield 49, 3) := by decide +kernel
theorem dX9_write_4 : decode cX9_write 4 = .ok (.aload_n 0, 1) := by decide +kernel
theorem dX9_write_5 : decode cX9_write 5 = .ok (.getfield 294, 3) := by decide +kernel
theorem dX9_write_8 : decode cX9_write 8 = .ok (.iload_n 1, 1) := by decide +kernel
theorem dX9_write_9 : decode cX9_write 9 = .ok (.iastore, 1) := by decide +kernel
theorem dX9_write_10 : decode cX9_write 10 = .ok (.aload_n 0, 1) := by decide +kernel
theorem dX9_write_11 : decode cX9_write 11 = .ok (.dup, 1) := by decide +kernel
theorem dX9_write_12 : decode cX9_write 12 = .ok (.getfield 294, 3) := by decide +kernel
theorem dX9_write_15 : decode cX9_write 15 = .ok (.iconst 1, 1) := by decide +kernel
theorem dX9_write_16 : decode cX9_write 16 = .ok (.iadd, 1) := by decide +kernel
theorem dX9_write_17 : decode cX9_write 17 = .ok (.putfield 294, 3) := by decide +kernel
theorem dX9_write_20 : decode cX9_write 20 = .ok (.return_, 1) := by decide +kernel
set_option maxRecDepth 20000 in
theorem ggX9_writeRoom_X9_write : GoodIn wsX9_writeRoom wsX9_write := goodIn_r _ [6, 7, 8, 49, 50, 51, 52, 53, 54, 55, 56, 57, 58, 59, 60, 61, 62, 63, 64, 65, 66, 67, 68, 69, 70, 71, 72, 73, 74, 75, 76, 77, 78, 79, 80, 81, 82, 83] (by decide +kernel) (by decide +kernel)
set_option maxRecDepth 20000 in
theorem gX9_writeRoom_X9_write : GoodIn wsX9_writeRoom (wsV RX9 297 RX9 yX9_write wsX9_write) := goodIn_app (goodIn_of _ (by decide +kernel)) ggX9_writeRoom_X9_write
set_option maxRecDepth 20000 in
theorem ggX9_writeRoom_X9_guardsAt : GoodIn wsX9_writeRoom wsX9_guardsAt := goodIn_r _ [12, 13, 14, 15, 5, 16, 17, 18, 19, 20, 21, 22, 23, 24, 25, 26, 27, 28, 29, 30, 31, 32, 33, 49, 50, 51, 52, 53, 54, 55, 56, 57, 58, 59, 60, 61, 62, 63, 64, 65, 66, 67, 68, 69, 70, 71, 72, 73, 74, 75, 76, 77, 78, 79, 80, 81, 82, 83] (by decide +kernel) (by decide +kernel)
set_option maxRecDepth 20000 in
theorem gX9_writeRoom_X9_guardsAt : GoodIn wsX9_writeRoom (wsV RX9 258 RX9 yX9_guardsAt wsX9_guardsAt) := goodIn_app (goodIn_of _ (by decide +kernel)) ggX9_writeRoom_X9_guardsAt
set_option maxRecDepth 20000 in
theorem ggX9_writeRoom_X9_guards : GoodIn wsX9_writeRoom wsX9_guards := goodIn_r _ [16, 17, 49, 50, 51, 52, 53, 54, 55, 56, 57, 58, 59, 60, 61, 62, 63, 64, 65, 66, 67, 68, 69, 70, 71, 72, 73, 74, 75, 76, 77, 78, 79, 80, 81, 82, 83] (by decide +kernel) (by decide +kernel)
set_option maxRecDepth 20000 in
theorem gX9_writeRoom_X9_guards : GoodIn wsX9_writeRoom (wsV RX9 118 RX9 yX9_guards wsX9_guards) := goodIn_app (goodIn_of _ (by decide +kernel)) ggX9_writeRoom_X9_guards
set_option maxRecDepth 20000 in
theorem ggX9_writeRoom_X9_has : GoodIn wsX9_writeRoom wsX9_has := goodIn_r _ [36] (by decide +kernel) (by decide +kernel)
set_option maxRecDepth 20000 in
theorem gX9_writeRoom_X9_has : GoodIn wsX9_writeRoom (va_wsS RX9 216 yX9_has wsX9_has) := goodIn_app (goodIn_of _ (by decide +kernel)) ggX9_writeRoom_X9_has
set_option maxRecDepth 20000 in
theorem ggX9_writeRoom_X9_isLate : GoodIn wsX9_writeRoom wsX9_isLate := goodIn_r _ [40, 41, 42, 43, 44, 5, 45, 17, 46, 47, 48, 49, 50, 51, 52, 53, 54, 55, 56, 57, 58, 59, 60, 61, 62, 63, 64, 65, 66, 67, 68, 69, 70, 71, 72, 73, 74, 75, 76, 77, 78, 79, 80, 81, 82, 83] (by decide +kernel) (by decide +kernel)
set_option maxRecDepth 20000 in
theorem gX9_writeRoom_X9_isLate : GoodIn wsX9_writeRoom (wsV RX9 181 RX9 yX9_isLate wsX9_isLate) := goodIn_app (goodIn_of _ (by decide +kernel)) ggX9_writeRoom_X9_isLate
theorem dX9_writeRoom_0 : decode cX9_writeRoom 0 = .ok (.iload_n 1, 1) := by decide +kernel
theorem dX9_writeRoom_1 : decode cX9_writeRoom 1 = .ok (.bipush 9, 2) := by decide +kernel
theorem dX9_writeRoom_3 : decode cX9_writeRoom 3 = .ok (.if_icmp .le 14, 3) := by decide +kernel
theorem dX9_writeRoom_6 : decode cX9_writeRoom 6 = .ok (.aload_n 0, 1) := by decide +kernel
theorem dX9_writeRoom_7 : decode cX9_writeRoom 7 = .ok (.bipush 48, 2) := by decide +kernel
theorem dX9_writeRoom_9 : decode cX9_writeRoom 9 = .ok (.iload_n 1, 1) := by decide +kernel
theorem dX9_writeRoom_10 : decode cX9_writeRoom 10 = .ok (.bipush 10, 2) := by decide +kernel
theorem dX9_writeRoom_12 : decode cX9_writeRoom 12 = .ok (.idiv, 1) := by decide +kernel
theorem dX9_writeRoom_13 : decode cX9_writeRoom 13 = .ok (.iadd, 1) := by decide +kernel
theorem dX9_writeRoom_14 : decode cX9_writeRoom 14 = .ok (.invokevirtual 297, 3) := by decide +kernel
theorem dX9_writeRoom_17 : decode cX9_writeRoom 17 = .ok (.aload_n 0, 1) := by decide +kernel
theorem dX9_writeRoom_18 : decode cX9_writeRoom 18 = .ok (.bipush 48, 2) := by decide +kernel
theorem dX9_writeRoom_20 : decode cX9_writeRoom 20 = .ok (.iload_n 1, 1) := by decide +kernel
theorem dX9_writeRoom_21 : decode cX9_writeRoom 21 = .ok (.bipush 10, 2) := by decide +kernel
theorem dX9_writeRoom_23 : decode cX9_writeRoom 23 = .ok (.irem, 1) := by decide +kernel
theorem dX9_writeRoom_24 : decode cX9_writeRoom 24 = .ok (.iadd, 1) := by decide +kernel
theorem dX9_writeRoom_25 : decode cX9_writeRoom 25 = .ok (.invokevirtual 297, 3) := by decide +kernel
theorem dX9_writeRoom_28 : decode cX9_writeRoom 28 = .ok (.aload_n 0, 1) := by decide +kernel
theorem dX9_writeRoom_29 : decode cX9_writeRoom 29 = .ok (.iload_n 1, 1) := by decide +kernel
theorem dX9_writeRoom_30 : decode cX9_writeRoom 30 = .ok (.aload_n 0, 1) := by decide +kernel
theorem dX9_writeRoom_31 : decode cX9_writeRoom 31 = .ok (.getfield 9, 3) := by decide +kernel
theorem dX9_writeRoom_34 : decode cX9_writeRoom 34 = .ok (.iconst 3, 1) := by decide +kernel
theorem dX9_writeRoom_35 : decode cX9_writeRoom 35 = .ok (.iaload, 1) := by decide +kernel
theorem dX9_writeRoom_36 : decode cX9_writeRoom 36 = .ok (.invokevirtual 258, 3) := by decide +kernel
theorem dX9_writeRoom_39 : decode cX9_writeRoom 39 = .ok (.istore_n 2, 1) := by decide +kernel
theorem dX9_writeRoom_40 : decode cX9_writeRoom 40 = .ok (.iconst 0, 1) := by decide +kernel
theorem dX9_writeRoom_41 : decode cX9_writeRoom 41 = .ok (.istore_n 3, 1) := by decide +kernel
theorem dX9_writeRoom_42 : decode cX9_writeRoom 42 = .ok (.iload_n 3, 1) := by decide +kernel
theorem dX9_writeRoom_43 : decode cX9_writeRoom 43 = .ok (.aload_n 0, 1) := by decide +kernel
theorem dX9_writeRoom_44 : decode cX9_writeRoom 44 = .ok (.invokevirtual 118, 3) := by decide +kernel
theorem dX9_writeRoom_47 : decode cX9_writeRoom 47 = .ok (.if_icmp .ge 25, 3) := by decide +kernel
theorem dX9_writeRoom_50 : decode cX9_writeRoom 50 = .ok (.iload_n 2, 1) := by decide +kernel
theorem dX9_writeRoom_51 : decode cX9_writeRoom 51 = .ok (.iload_n 3, 1) := by decide +kernel
theorem dX9_writeRoom_52 : decode cX9_writeRoom 52 = .ok (.invokestatic 216, 3) := by decide +kernel
theorem dX9_writeRoom_55 : decode cX9_writeRoom 55 = .ok (.ifCond .eq 11, 3) := by decide +kernel
theorem dX9_writeRoom_58 : decode cX9_writeRoom 58 = .ok (.aload_n 0, 1) := by decide +kernel
theorem dX9_writeRoom_59 : decode cX9_writeRoom 59 = .ok (.bipush 97, 2) := by decide +kernel
theorem dX9_writeRoom_61 : decode cX9_writeRoom 61 = .ok (.iload_n 3, 1) := by decide +kernel
theorem dX9_writeRoom_62 : decode cX9_writeRoom 62 = .ok (.iadd, 1) := by decide +kernel
theorem dX9_writeRoom_63 : decode cX9_writeRoom 63 = .ok (.invokevirtual 297, 3) := by decide +kernel
theorem dX9_writeRoom_66 : decode cX9_writeRoom 66 = .ok (.iinc 3 1, 3) := by decide +kernel
theorem dX9_writeRoom_69 : decode cX9_writeRoom 69 = .ok (.goto (-27), 3) := by decide +kernel
theorem dX9_writeRoom_72 : decode cX9_writeRoom 72 = .ok (.aload_n 0, 1) := by decide +kernel
theorem dX9_writeRoom_73 : decode cX9_writeRoom 73 = .ok (.iload_n 1, 1) := by decide +kernel
theorem dX9_writeRoom_74 : decode cX9_writeRoom 74 = .ok (.invokevirtual 181, 3) := by decide +kernel
theorem dX9_writeRoom_77 : decode cX9_writeRoom 77 = .ok (.ifCond .eq 9, 3) := by decide +kernel
theorem dX9_writeRoom_80 : decode cX9_writeRoom 80 = .ok (.aload_n 0, 1) := by decide +kernel
theorem dX9_writeRoom_81 : decode cX9_writeRoom 81 = .ok (.bipush 33, 2) := by decide +kernel
theorem dX9_writeRoom_83 : decode cX9_writeRoom 83 = .ok (.invokevirtual 297, 3) := by decide +kernel
theorem dX9_writeRoom_86 : decode cX9_writeRoom 86 = .ok (.return_, 1) := by decide +kernel
set_option maxRecDepth 20000 in
theorem ggX9_format_X9_layNow : GoodIn wsX9_format wsX9_layNow := goodIn_r _ [7, 8, 9, 10, 6, 11, 12, 13, 14, 15, 16, 17, 18, 19, 20, 21, 22, 23, 24, 25, 26, 27, 28, 29, 30, 31, 32, 33, 34, 35, 36, 37, 38, 39, 40, 41, 42, 43, 44, 45, 46, 47, 48, 49, 50, 51, 52, 53, 54, 55, 56, 57, 58, 59, 60, 61, 62, 63, 64, 65, 66, 67, 68, 69, 70, 71, 72, 73, 74, 75, 76, 77, 78, 107, 108, 109, 110, 111, 112, 113, 114, 115, 116, 117, 118, 119, 120, 121, 122, 123, 124, 125, 126, 127, 128, 129, 130, 131, 132, 133, 134, 135, 136, 137, 138, 139, 140, 141] (by decide +kernel) (by decide +kernel)
set_option maxRecDepth 20000 in
theorem gX9_format_X9_layNow : GoodIn wsX9_format (wsV RX9 226 RX9 yX9_layNow wsX9_layNow) := goodIn_app (goodIn_of _ (by decide +kernel)) ggX9_format_X9_layNow
set_option maxRecDepth 20000 in
theorem ggX9_format_X9_rooms : GoodIn wsX9_format wsX9_rooms := goodIn_r _ [49, 17, 107, 108, 109, 110, 111, 112, 113, 114, 115, 116, 117, 118, 119, 120, 121, 122, 123, 124, 125, 126, 127, 128, 129, 130, 131, 132, 133, 134, 135, 136, 137, 138, 139, 140, 141] (by decide +kernel) (by decide +kernel)
set_option maxRecDepth 20000 in
theorem gX9_format_X9_rooms : GoodIn wsX9_format (wsV RX9 110 RX9 yX9_rooms wsX9_rooms) := goodIn_app (goodIn_of _ (by decide +kernel)) ggX9_format_X9_rooms
set_option maxRecDepth 20000 in
theorem ggX9_format_X9_write : GoodIn wsX9_format wsX9_write := goodIn_r _ [82, 83, 2, 107, 108, 109, 110, 111, 112, 113, 114, 115, 116, 117, 118, 119, 120, 121, 122, 123, 124, 125, 126, 127, 128, 129, 130, 131, 132, 133, 134, 135, 136, 137, 138, 139, 140, 141] (by decide +kernel) (by decide +kernel)
set_option maxRecDepth 20000 in
theorem gX9_format_X9_write : GoodIn wsX9_format (wsV RX9 297 RX9 yX9_write wsX9_write) := goodIn_app (goodIn_of _ (by decide +kernel)) ggX9_format_X9_write
set_option maxRecDepth 20000 in
theorem ggX9_format_X9_writeRoom : GoodIn wsX9_format wsX9_writeRoom := goodIn_r _ [87, 88, 79, 80, 81, 6, 82, 83, 2, 89, 90, 91, 92, 13, 14, 15, 16, 17, 54, 55, 56, 57, 12, 39, 40, 41, 42, 22, 23, 24, 58, 59, 60, 61, 93, 94, 95, 96, 97, 98, 99, 32, 100, 101, 102, 103, 104, 105, 106, 107, 108, 109, 110, 111, 112, 113, 114, 115, 116, 117, 118, 119, 120, 121, 122, 123, 124, 125, 126, 127, 128, 129, 130, 131, 132, 133, 134, 135, 136, 137, 138, 139, 140, 141] (by decide +kernel) (by decide +kernel)
set_option maxRecDepth 20000 in
theorem gX9_format_X9_writeRoom : GoodIn wsX9_format (wsV RX9 301 RX9 yX9_writeRoom wsX9_writeRoom) := goodIn_app (goodIn_of _ (by decide +kernel)) ggX9_format_X9_writeRoom
theorem dX9_format_0 : decode cX9_format 0 = .ok (.aload_n 0, 1) := by decide +kernel
theorem dX9_format_1 : decode cX9_format 1 = .ok (.iconst 0, 1) := by decide +kernel
theorem dX9_format_2 : decode cX9_format 2 = .ok (.putfield 97, 3) := by decide +kernel
theorem dX9_format_5 : decode cX9_format 5 = .ok (.aload_n 0, 1) := by decide +kernel
theorem dX9_format_6 : decode cX9_format 6 = .ok (.invokevirtual 226, 3) := by decide +kernel
theorem dX9_format_9 : decode cX9_format 9 = .ok (.aload_n 0, 1) := by decide +kernel
theorem dX9_format_10 : decode cX9_format 10 = .ok (.iconst 0, 1) := by decide +kernel
theorem dX9_format_11 : decode cX9_format 11 = .ok (.putfield 294, 3) := by decide +kernel
theorem dX9_format_14 : decode cX9_format 14 = .ok (.iconst 0, 1) := by decide +kernel
theorem dX9_format_15 : decode cX9_format 15 = .ok (.istore_n 1, 1) := by decide +kernel
theorem dX9_format_16 : decode cX9_format 16 = .ok (.iload_n 1, 1) := by decide +kernel
theorem dX9_format_17 : decode cX9_format 17 = .ok (.aload_n 0, 1) := by decide +kernel
theorem dX9_format_18 : decode cX9_format 18 = .ok (.invokevirtual 110, 3) := by decide +kernel
theorem dX9_format_21 : decode cX9_format 21 = .ok (.if_icmp .ge 24, 3) := by decide +kernel
theorem dX9_format_24 : decode cX9_format 24 = .ok (.iload_n 1, 1) := by decide +kernel
theorem dX9_format_25 : decode cX9_format 25 = .ok (.ifCond .le 9, 3) := by decide +kernel
theorem dX9_format_28 : decode cX9_format 28 = .ok (.aload_n 0, 1) := by decide +kernel
theorem dX9_format_29 : decode cX9_format 29 = .ok (.bipush 32, 2) := by decide +kernel
theorem dX9_format_31 : decode cX9_format 31 = .ok (.invokevirtual 297, 3) := by decide +kernel
theorem dX9_format_34 : decode cX9_format 34 = .ok (.aload_n 0, 1) := by decide +kernel
theorem dX9_format_35 : decode cX9_format 35 = .ok (.iload_n 1, 1) := by decide +kernel
theorem dX9_format_36 : decode cX9_format 36 = .ok (.invokevirtual 301, 3) := by decide +kernel
theorem dX9_format_39 : decode cX9_format 39 = .ok (.iinc 1 1, 3) := by decide +kernel
theorem dX9_format_42 : decode cX9_format 42 = .ok (.goto (-26), 3) := by decide +kernel
theorem dX9_format_45 : decode cX9_format 45 = .ok (.aload_n 0, 1) := by decide +kernel
theorem dX9_format_46 : decode cX9_format 46 = .ok (.getfield 294, 3) := by decide +kernel
theorem dX9_format_49 : decode cX9_format 49 = .ok (.ireturn, 1) := by decide +kernel
set_option maxRecDepth 20000 in
theorem ggX9_formattedByte_X9_inRange : GoodIn wsX9_formattedByte wsX9_inRange := goodIn_r _ [7] (by decide +kernel) (by decide +kernel)
set_option maxRecDepth 20000 in
theorem gX9_formattedByte_X9_inRange : GoodIn wsX9_formattedByte (va_wsS RX9 114 yX9_inRange wsX9_inRange) := goodIn_app (goodIn_of _ (by decide +kernel)) ggX9_formattedByte_X9_inRange
theorem dX9_formattedByte_0 : decode cX9_formattedByte 0 = .ok (.aload_n 0, 1) := by decide +kernel
theorem dX9_formattedByte_1 : decode cX9_formattedByte 1 = .ok (.iconst 0, 1) := by decide +kernel
theorem dX9_formattedByte_2 : decode cX9_formattedByte 2 = .ok (.putfield 97, 3) := by decide +kernel
theorem dX9_formattedByte_5 : decode cX9_formattedByte 5 = .ok (.iload_n 1, 1) := by decide +kernel
theorem dX9_formattedByte_6 : decode cX9_formattedByte 6 = .ok (.iconst 0, 1) := by decide +kernel
theorem dX9_formattedByte_7 : decode cX9_formattedByte 7 = .ok (.aload_n 0, 1) := by decide +kernel
theorem dX9_formattedByte_8 : decode cX9_formattedByte 8 = .ok (.getfield 294, 3) := by decide +kernel
theorem dX9_formattedByte_11 : decode cX9_formattedByte 11 = .ok (.iconst 1, 1) := by decide +kernel
theorem dX9_formattedByte_12 : decode cX9_formattedByte 12 = .ok (.isub, 1) := by decide +kernel
theorem dX9_formattedByte_13 : decode cX9_formattedByte 13 = .ok (.invokestatic 114, 3) := by decide +kernel
theorem dX9_formattedByte_16 : decode cX9_formattedByte 16 = .ok (.ifCond .eq 12, 3) := by decide +kernel
theorem dX9_formattedByte_19 : decode cX9_formattedByte 19 = .ok (.aload_n 0, 1) := by decide +kernel
theorem dX9_formattedByte_20 : decode cX9_formattedByte 20 = .ok (.getfield 49, 3) := by decide +kernel
theorem dX9_formattedByte_23 : decode cX9_formattedByte 23 = .ok (.iload_n 1, 1) := by decide +kernel
theorem dX9_formattedByte_24 : decode cX9_formattedByte 24 = .ok (.iaload, 1) := by decide +kernel
theorem dX9_formattedByte_25 : decode cX9_formattedByte 25 = .ok (.goto 4, 3) := by decide +kernel
theorem dX9_formattedByte_28 : decode cX9_formattedByte 28 = .ok (.iconst (-1), 1) := by decide +kernel
theorem dX9_formattedByte_29 : decode cX9_formattedByte 29 = .ok (.ireturn, 1) := by decide +kernel
theorem dX9_copy_0 : decode cX9_copy 0 = .ok (.iconst 0, 1) := by decide +kernel
theorem dX9_copy_1 : decode cX9_copy 1 = .ok (.istore 4, 2) := by decide +kernel
theorem dX9_copy_3 : decode cX9_copy 3 = .ok (.iload 4, 2) := by decide +kernel
theorem dX9_copy_5 : decode cX9_copy 5 = .ok (.sipush 172, 3) := by decide +kernel
theorem dX9_copy_8 : decode cX9_copy 8 = .ok (.if_icmp .ge 29, 3) := by decide +kernel
theorem dX9_copy_11 : decode cX9_copy 11 = .ok (.aload_n 2, 1) := by decide +kernel
theorem dX9_copy_12 : decode cX9_copy 12 = .ok (.sipush 172, 3) := by decide +kernel
theorem dX9_copy_15 : decode cX9_copy 15 = .ok (.iload_n 3, 1) := by decide +kernel
theorem dX9_copy_16 : decode cX9_copy 16 = .ok (.imul, 1) := by decide +kernel
theorem dX9_copy_17 : decode cX9_copy 17 = .ok (.iload 4, 2) := by decide +kernel
theorem dX9_copy_19 : decode cX9_copy 19 = .ok (.iadd, 1) := by decide +kernel
theorem dX9_copy_20 : decode cX9_copy 20 = .ok (.aload_n 0, 1) := by decide +kernel
theorem dX9_copy_21 : decode cX9_copy 21 = .ok (.sipush 172, 3) := by decide +kernel
theorem dX9_copy_24 : decode cX9_copy 24 = .ok (.iload_n 1, 1) := by decide +kernel
theorem dX9_copy_25 : decode cX9_copy 25 = .ok (.imul, 1) := by decide +kernel
theorem dX9_copy_26 : decode cX9_copy 26 = .ok (.iload 4, 2) := by decide +kernel
theorem dX9_copy_28 : decode cX9_copy 28 = .ok (.iadd, 1) := by decide +kernel
theorem dX9_copy_29 : decode cX9_copy 29 = .ok (.iaload, 1) := by decide +kernel
theorem dX9_copy_30 : decode cX9_copy 30 = .ok (.iastore, 1) := by decide +kernel
theorem dX9_copy_31 : decode cX9_copy 31 = .ok (.iinc 4 1, 3) := by decide +kernel
theorem dX9_copy_34 : decode cX9_copy 34 = .ok (.goto (-31), 3) := by decide +kernel
theorem dX9_copy_37 : decode cX9_copy 37 = .ok (.return_, 1) := by decide +kernel
set_option maxRecDepth 20000 in
theorem ggX9_record_X9_copy : GoodIn wsX9_record wsX9_copy := goodIn_r _ [7] (by decide +kernel) (by decide +kernel)
set_option maxRecDepth 20000 in
theorem gX9_record_X9_copy : GoodIn wsX9_record (va_wsS RX9 307 yX9_copy wsX9_copy) := goodIn_app (goodIn_of _ (by decide +kernel)) ggX9_record_X9_copy
theorem dX9_record_0 : decode cX9_record 0 = .ok (.aload_n 0, 1) := by decide +kernel
theorem dX9_record_1 : decode cX9_record 1 = .ok (.getfield 304, 3) := by decide +kernel
theorem dX9_record_4 : decode cX9_record 4 = .ok (.bipush 10, 2) := by decide +kernel
theorem dX9_record_6 : decode cX9_record 6 = .ok (.if_icmp .ne 42, 3) := by decide +kernel
theorem dX9_record_9 : decode cX9_record 9 = .ok (.iconst 1, 1) := by decide +kernel
theorem dX9_record_10 : decode cX9_record 10 = .ok (.istore_n 1, 1) := by decide +kernel
theorem dX9_record_11 : decode cX9_record 11 = .ok (.iload_n 1, 1) := by decide +kernel
theorem dX9_record_12 : decode cX9_record 12 = .ok (.bipush 10, 2) := by decide +kernel
theorem dX9_record_14 : decode cX9_record 14 = .ok (.if_icmp .ge 24, 3) := by decide +kernel
theorem dX9_record_17 : decode cX9_record 17 = .ok (.aload_n 0, 1) := by decide +kernel
theorem dX9_record_18 : decode cX9_record 18 = .ok (.getfield 19, 3) := by decide +kernel
theorem dX9_record_21 : decode cX9_record 21 = .ok (.iload_n 1, 1) := by decide +kernel
theorem dX9_record_22 : decode cX9_record 22 = .ok (.aload_n 0, 1) := by decide +kernel
theorem dX9_record_23 : decode cX9_record 23 = .ok (.getfield 19, 3) := by decide +kernel
theorem dX9_record_26 : decode cX9_record 26 = .ok (.iload_n 1, 1) := by decide +kernel
theorem dX9_record_27 : decode cX9_record 27 = .ok (.iconst 1, 1) := by decide +kernel
theorem dX9_record_28 : decode cX9_record 28 = .ok (.isub, 1) := by decide +kernel
theorem dX9_record_29 : decode cX9_record 29 = .ok (.invokestatic 307, 3) := by decide +kernel
theorem dX9_record_32 : decode cX9_record 32 = .ok (.iinc 1 1, 3) := by decide +kernel
theorem dX9_record_35 : decode cX9_record 35 = .ok (.goto (-24), 3) := by decide +kernel
theorem dX9_record_38 : decode cX9_record 38 = .ok (.aload_n 0, 1) := by decide +kernel
theorem dX9_record_39 : decode cX9_record 39 = .ok (.dup, 1) := by decide +kernel
theorem dX9_record_40 : decode cX9_record 40 = .ok (.getfield 304, 3) := by decide +kernel
theorem dX9_record_43 : decode cX9_record 43 = .ok (.iconst 1, 1) := by decide +kernel
theorem dX9_record_44 : decode cX9_record 44 = .ok (.isub, 1) := by decide +kernel
theorem dX9_record_45 : decode cX9_record 45 = .ok (.putfield 304, 3) := by decide +kernel
theorem dX9_record_48 : decode cX9_record 48 = .ok (.aload_n 0, 1) := by decide +kernel
theorem dX9_record_49 : decode cX9_record 49 = .ok (.getfield 9, 3) := by decide +kernel
theorem dX9_record_52 : decode cX9_record 52 = .ok (.iconst 0, 1) := by decide +kernel
theorem dX9_record_53 : decode cX9_record 53 = .ok (.aload_n 0, 1) := by decide +kernel
theorem dX9_record_54 : decode cX9_record 54 = .ok (.getfield 19, 3) := by decide +kernel
theorem dX9_record_57 : decode cX9_record 57 = .ok (.aload_n 0, 1) := by decide +kernel
theorem dX9_record_58 : decode cX9_record 58 = .ok (.getfield 304, 3) := by decide +kernel
theorem dX9_record_61 : decode cX9_record 61 = .ok (.invokestatic 307, 3) := by decide +kernel
theorem dX9_record_64 : decode cX9_record 64 = .ok (.aload_n 0, 1) := by decide +kernel
theorem dX9_record_65 : decode cX9_record 65 = .ok (.dup, 1) := by decide +kernel
theorem dX9_record_66 : decode cX9_record 66 = .ok (.getfield 304, 3) := by decide +kernel
theorem dX9_record_69 : decode cX9_record 69 = .ok (.iconst 1, 1) := by decide +kernel
theorem dX9_record_70 : decode cX9_record 70 = .ok (.iadd, 1) := by decide +kernel
theorem dX9_record_71 : decode cX9_record 71 = .ok (.putfield 304, 3) := by decide +kernel
theorem dX9_record_74 : decode cX9_record 74 = .ok (.return_, 1) := by decide +kernel
theorem dX9_undoCount_0 : decode cX9_undoCount 0 = .ok (.aload_n 0, 1) := by decide +kernel
theorem dX9_undoCount_1 : decode cX9_undoCount 1 = .ok (.iconst 0, 1) := by decide +kernel
theorem dX9_undoCount_2 : decode cX9_undoCount 2 = .ok (.putfield 97, 3) := by decide +kernel
theorem dX9_undoCount_5 : decode cX9_undoCount 5 = .ok (.aload_n 0, 1) := by decide +kernel
theorem dX9_undoCount_6 : decode cX9_undoCount 6 = .ok (.getfield 304, 3) := by decide +kernel
theorem dX9_undoCount_9 : decode cX9_undoCount 9 = .ok (.ireturn, 1) := by decide +kernel
set_option maxRecDepth 20000 in
theorem ggX9_undo_X9_copy : GoodIn wsX9_undo wsX9_copy := goodIn_r _ [8] (by decide +kernel) (by decide +kernel)
set_option maxRecDepth 20000 in
theorem gX9_undo_X9_copy : GoodIn wsX9_undo (va_wsS RX9 307 yX9_copy wsX9_copy) := goodIn_app (goodIn_of _ (by decide +kernel)) ggX9_undo_X9_copy
theorem dX9_undo_0 : decode cX9_undo 0 = .ok (.aload_n 0, 1) := by decide +kernel
theorem dX9_undo_1 : decode cX9_undo 1 = .ok (.iconst 0, 1) := by decide +kernel
theorem dX9_undo_2 : decode cX9_undo 2 = .ok (.putfield 97, 3) := by decide +kernel
theorem dX9_undo_5 : decode cX9_undo 5 = .ok (.aload_n 0, 1) := by decide +kernel
theorem dX9_undo_6 : decode cX9_undo 6 = .ok (.getfield 304, 3) := by decide +kernel
theorem dX9_undo_9 : decode cX9_undo 9 = .ok (.ifCond .ne 5, 3) := by decide +kernel
theorem dX9_undo_12 : decode cX9_undo 12 = .ok (.iconst (-1), 1) := by decide +kernel
theorem dX9_undo_13 : decode cX9_undo 13 = .ok (.ireturn, 1) := by decide +kernel
theorem dX9_undo_14 : decode cX9_undo 14 = .ok (.aload_n 0, 1) := by decide +kernel
theorem dX9_undo_15 : decode cX9_undo 15 = .ok (.dup, 1) := by decide +kernel
theorem dX9_undo_16 : decode cX9_undo 16 = .ok (.getfield 304, 3) := by decide +kernel
theorem dX9_undo_19 : decode cX9_undo 19 = .ok (.iconst 1, 1) := by decide +kernel
theorem dX9_undo_20 : decode cX9_undo 20 = .ok (.isub, 1) := by decide +kernel
theorem dX9_undo_21 : decode cX9_undo 21 = .ok (.putfield 304, 3) := by decide +kernel
theorem dX9_undo_24 : decode cX9_undo 24 = .ok (.aload_n 0, 1) := by decide +kernel
theorem dX9_undo_25 : decode cX9_undo 25 = .ok (.getfield 19, 3) := by decide +kernel
theorem dX9_undo_28 : decode cX9_undo 28 = .ok (.aload_n 0, 1) := by decide +kernel
theorem dX9_undo_29 : decode cX9_undo 29 = .ok (.getfield 304, 3) := by decide +kernel
theorem dX9_undo_32 : decode cX9_undo 32 = .ok (.aload_n 0, 1) := by decide +kernel
theorem dX9_undo_33 : decode cX9_undo 33 = .ok (.getfield 9, 3) := by decide +kernel
theorem dX9_undo_36 : decode cX9_undo 36 = .ok (.iconst 0, 1) := by decide +kernel
theorem dX9_undo_37 : decode cX9_undo 37 = .ok (.invokestatic 307, 3) := by decide +kernel
theorem dX9_undo_40 : decode cX9_undo 40 = .ok (.aload_n 0, 1) := by decide +kernel
theorem dX9_undo_41 : decode cX9_undo 41 = .ok (.getfield 304, 3) := by decide +kernel
theorem dX9_undo_44 : decode cX9_undo 44 = .ok (.ireturn, 1) := by decide +kernel
set_option maxRecDepth 20000 in
theorem ggX9_saveSnapshot_X9_copy : GoodIn wsX9_saveSnapshot wsX9_copy := goodIn_r _ [8] (by decide +kernel) (by decide +kernel)
set_option maxRecDepth 20000 in
theorem gX9_saveSnapshot_X9_copy : GoodIn wsX9_saveSnapshot (va_wsS RX9 307 yX9_copy wsX9_copy) := goodIn_app (goodIn_of _ (by decide +kernel)) ggX9_saveSnapshot_X9_copy
theorem dX9_saveSnapshot_0 : decode cX9_saveSnapshot 0 = .ok (.aload_n 0, 1) := by decide +kernel
theorem dX9_saveSnapshot_1 : decode cX9_saveSnapshot 1 = .ok (.iconst 0, 1) := by decide +kernel
theorem dX9_saveSnapshot_2 : decode cX9_saveSnapshot 2 = .ok (.putfield 97, 3) := by decide +kernel
theorem dX9_saveSnapshot_5 : decode cX9_saveSnapshot 5 = .ok (.aload_n 0, 1) := by decide +kernel
theorem dX9_saveSnapshot_6 : decode cX9_saveSnapshot 6 = .ok (.getfield 9, 3) := by decide +kernel
theorem dX9_saveSnapshot_9 : decode cX9_saveSnapshot 9 = .ok (.iconst 0, 1) := by decide +kernel
theorem dX9_saveSnapshot_10 : decode cX9_saveSnapshot 10 = .ok (.aload_n 0, 1) := by decide +kernel
theorem dX9_saveSnapshot_11 : decode cX9_saveSnapshot 11 = .ok (.getfield 16, 3) := by decide +kernel
theorem dX9_saveSnapshot_14 : decode cX9_saveSnapshot 14 = .ok (.iconst 0, 1) := by decide +kernel
theorem dX9_saveSnapshot_15 : decode cX9_saveSnapshot 15 = .ok (.invokestatic 307, 3) := by decide +kernel
theorem dX9_saveSnapshot_18 : decode cX9_saveSnapshot 18 = .ok (.aload_n 0, 1) := by decide +kernel
theorem dX9_saveSnapshot_19 : decode cX9_saveSnapshot 19 = .ok (.iconst 1, 1) := by decide +kernel
theorem dX9_saveSnapshot_20 : decode cX9_saveSnapshot 20 = .ok (.putfield 311, 3) := by decide +kernel
theorem dX9_saveSnapshot_23 : decode cX9_saveSnapshot 23 = .ok (.return_, 1) := by decide +kernel
set_option maxRecDepth 20000 in
theorem ggX9_restoreSnapshot_X9_copy : GoodIn wsX9_restoreSnapshot wsX9_copy := goodIn_r _ [9] (by decide +kernel) (by decide +kernel)
set_option maxRecDepth 20000 in
theorem gX9_restoreSnapshot_X9_copy : GoodIn wsX9_restoreSnapshot (va_wsS RX9 307 yX9_copy wsX9_copy) := goodIn_app (goodIn_of _ (by decide +kernel)) ggX9_restoreSnapshot_X9_copy
theorem dX9_restoreSnapshot_0 : decode cX9_restoreSnapshot 0 = .ok (.aload_n 0, 1) := by decide +kernel
theorem dX9_restoreSnapshot_1 : decode cX9_restoreSnapshot 1 = .ok (.iconst 0, 1) := by decide +kernel
theorem dX9_restoreSnapshot_2 : decode cX9_restoreSnapshot 2 = .ok (.putfield 97, 3) := by decide +kernel
theorem dX9_restoreSnapshot_5 : decode cX9_restoreSnapshot 5 = .ok (.aload_n 0, 1) := by decide +kernel
theorem dX9_restoreSnapshot_6 : decode cX9_restoreSnapshot 6 = .ok (.getfield 311, 3) := by decide +kernel
theorem dX9_restoreSnapshot_9 : decode cX9_restoreSnapshot 9 = .ok (.ifCond .ne 5, 3) := by decide +kernel
theorem dX9_restoreSnapshot_12 : decode cX9_restoreSnapshot 12 = .ok (.iconst 0, 1) := by decide +kernel
theorem dX9_restoreSnapshot_13 : decode cX9_restoreSnapshot 13 = .ok (.ireturn, 1) := by decide +kernel
theorem dX9_restoreSnapshot_14 : decode cX9_restoreSnapshot 14 = .ok (.aload_n 0, 1) := by decide +kernel
theorem dX9_restoreSnapshot_15 : decode cX9_restoreSnapshot 15 = .ok (.getfield 16, 3) := by decide +kernel
theorem dX9_restoreSnapshot_18 : decode cX9_restoreSnapshot 18 = .ok (.iconst 0, 1) := by decide +kernel
theorem dX9_restoreSnapshot_19 : decode cX9_restoreSnapshot 19 = .ok (.aload_n 0, 1) := by decide +kernel
theorem dX9_restoreSnapshot_20 : decode cX9_restoreSnapshot 20 = .ok (.getfield 9, 3) := by decide +kernel
theorem dX9_restoreSnapshot_23 : decode cX9_restoreSnapshot 23 = .ok (.iconst 0, 1) := by decide +kernel
theorem dX9_restoreSnapshot_24 : decode cX9_restoreSnapshot 24 = .ok (.invokestatic 307, 3) := by decide +kernel
theorem dX9_restoreSnapshot_27 : decode cX9_restoreSnapshot 27 = .ok (.aload_n 0, 1) := by decide +kernel
theorem dX9_restoreSnapshot_28 : decode cX9_restoreSnapshot 28 = .ok (.iconst 0, 1) := by decide +kernel
theorem dX9_restoreSnapshot_29 : decode cX9_restoreSnapshot 29 = .ok (.putfield 304, 3) := by decide +kernel
theorem dX9_restoreSnapshot_32 : decode cX9_restoreSnapshot 32 = .ok (.iconst 1, 1) := by decide +kernel
theorem dX9_restoreSnapshot_33 : decode cX9_restoreSnapshot 33 = .ok (.ireturn, 1) := by decide +kernel
theorem dX9_feed_0 : decode cX9_feed 0 = .ok (.aload_n 0, 1) := by decide +kernel
theorem dX9_feed_1 : decode cX9_feed 1 = .ok (.iconst 0, 1) := by decide +kernel
theorem dX9_feed_2 : decode cX9_feed 2 = .ok (.putfield 97, 3) := by decide +kernel
theorem dX9_feed_5 : decode cX9_feed 5 = .ok (.aload_n 0, 1) := by decide +kernel
theorem dX9_feed_6 : decode cX9_feed 6 = .ok (.getfield 315, 3) := by decide +kernel
theorem dX9_feed_9 : decode cX9_feed 9 = .ok (.bipush 20, 2) := by decide +kernel
theorem dX9_feed_11 : decode cX9_feed 11 = .ok (.iadd, 1) := by decide +kernel
theorem dX9_feed_12 : decode cX9_feed 12 = .ok (.sipush 600, 3) := by decide +kernel
theorem dX9_feed_15 : decode cX9_feed 15 = .ok (.if_icmp .le 5, 3) := by decide +kernel
theorem dX9_feed_18 : decode cX9_feed 18 = .ok (.iconst (-1), 1) := by decide +kernel
theorem dX9_feed_19 : decode cX9_feed 19 = .ok (.ireturn, 1) := by decide +kernel
theorem dX9_feed_20 : decode cX9_feed 20 = .ok (.iconst 0, 1) := by decide +kernel
theorem dX9_feed_21 : decode cX9_feed 21 = .ok (.istore 6, 2) := by decide +kernel
theorem dX9_feed_23 : decode cX9_feed 23 = .ok (.iload 6, 2) := by decide +kernel
theorem dX9_feed_25 : decode cX9_feed 25 = .ok (.bipush 20, 2) := by decide +kernel
theorem dX9_feed_27 : decode cX9_feed 27 = .ok (.if_icmp .ge 93, 3) := by decide +kernel
theorem dX9_feed_30 : decode cX9_feed 30 = .ok (.iload 6, 2) := by decide +kernel
theorem dX9_feed_32 : decode cX9_feed 32 = .ok (.iconst 4, 1) := by decide +kernel
theorem dX9_feed_33 : decode cX9_feed 33 = .ok (.if_icmp .ge 7, 3) := by decide +kernel
theorem dX9_feed_36 : decode cX9_feed 36 = .ok (.iload_n 1, 1) := by decide +kernel
theorem dX9_feed_37 : decode cX9_feed 37 = .ok (.goto 39, 3) := by decide +kernel
theorem dX9_feed_40 : decode cX9_feed 40 = .ok (.iload 6, 2) := by decide +kernel
theorem dX9_feed_42 : decode cX9_feed 42 = .ok (.bipush 8, 2) := by decide +kernel
theorem dX9_feed_44 : decode cX9_feed 44 = .ok (.if_icmp .ge 7, 3) := by decide +kernel
theorem dX9_feed_47 : decode cX9_feed 47 = .ok (.iload_n 2, 1) := by decide +kernel
theorem dX9_feed_48 : decode cX9_feed 48 = .ok (.goto 28, 3) := by decide +kernel
theorem dX9_feed_51 : decode cX9_feed 51 = .ok (.iload 6, 2) := by decide +kernel
theorem dX9_feed_53 : decode cX9_feed 53 = .ok (.bipush 12, 2) := by decide +kernel
theorem dX9_feed_55 : decode cX9_feed 55 = .ok (.if_icmp .ge 7, 3) := by decide +kernel
theorem dX9_feed_58 : decode cX9_feed 58 = .ok (.iload_n 3, 1) := by decide +kernel
theorem dX9_feed_59 : decode cX9_feed 59 = .ok (.goto 17, 3) := by decide +kernel
theorem dX9_feed_62 : decode cX9_feed 62 = .ok (.iload 6, 2) := by decide +kernel
theorem dX9_feed_64 : decode cX9_feed 64 = .ok (.bipush 16, 2) := by decide +kernel
theorem dX9_feed_66 : decode cX9_feed 66 = .ok (.if_icmp .ge 8, 3) := by decide +kernel
theorem dX9_feed_69 : decode cX9_feed 69 = .ok (.iload 4, 2) := by decide +kernel
theorem dX9_feed_71 : decode cX9_feed 71 = .ok (.goto 5, 3) := by decide +kernel
theorem dX9_feed_74 : decode cX9_feed 74 = .ok (.iload 5, 2) := by decide +kernel
theorem dX9_feed_76 : decode cX9_feed 76 = .ok (.istore 7, 2) := by decide +kernel
theorem dX9_feed_78 : decode cX9_feed 78 = .ok (.aload_n 0, 1) := by decide +kernel
theorem dX9_feed_79 : decode cX9_feed 79 = .ok (.getfield 52, 3) := by decide +kernel
theorem dX9_feed_82 : decode cX9_feed 82 = .ok (.aload_n 0, 1) := by decide +kernel
theorem dX9_feed_83 : decode cX9_feed 83 = .ok (.getfield 315, 3) := by decide +kernel
theorem dX9_feed_86 : decode cX9_feed 86 = .ok (.iload 7, 2) := by decide +kernel
theorem dX9_feed_88 : decode cX9_feed 88 = .ok (.bipush 24, 2) := by decide +kernel
theorem dX9_feed_90 : decode cX9_feed 90 = .ok (.bipush 8, 2) := by decide +kernel
theorem dX9_feed_92 : decode cX9_feed 92 = .ok (.iload 6, 2) := by decide +kernel
theorem dX9_feed_94 : decode cX9_feed 94 = .ok (.iconst 4, 1) := by decide +kernel
theorem dX9_feed_95 : decode cX9_feed 95 = .ok (.irem, 1) := by decide +kernel
theorem dX9_feed_96 : decode cX9_feed 96 = .ok (.imul, 1) := by decide +kernel
theorem dX9_feed_97 : decode cX9_feed 97 = .ok (.isub, 1) := by decide +kernel
theorem dX9_feed_98 : decode cX9_feed 98 = .ok (.ishr, 1) := by decide +kernel
theorem dX9_feed_99 : decode cX9_feed 99 = .ok (.sipush 255, 3) := by decide +kernel
theorem dX9_feed_102 : decode cX9_feed 102 = .ok (.iand, 1) := by decide +kernel
theorem dX9_feed_103 : decode cX9_feed 103 = .ok (.iastore, 1) := by decide +kernel
theorem dX9_feed_104 : decode cX9_feed 104 = .ok (.aload_n 0, 1) := by decide +kernel
theorem dX9_feed_105 : decode cX9_feed 105 = .ok (.dup, 1) := by decide +kernel
theorem dX9_feed_106 : decode cX9_feed 106 = .ok (.getfield 315, 3) := by decide +kernel
theorem dX9_feed_109 : decode cX9_feed 109 = .ok (.iconst 1, 1) := by decide +kernel
theorem dX9_feed_110 : decode cX9_feed 110 = .ok (.iadd, 1) := by decide +kernel
theorem dX9_feed_111 : decode cX9_feed 111 = .ok (.putfield 315, 3) := by decide +kernel
theorem dX9_feed_114 : decode cX9_feed 114 = .ok (.iinc 6 1, 3) := by decide +kernel
theorem dX9_feed_117 : decode cX9_feed 117 = .ok (.goto (-94), 3) := by decide +kernel
theorem dX9_feed_120 : decode cX9_feed 120 = .ok (.aload_n 0, 1) := by decide +kernel
theorem dX9_feed_121 : decode cX9_feed 121 = .ok (.getfield 315, 3) := by decide +kernel
theorem dX9_feed_124 : decode cX9_feed 124 = .ok (.ireturn, 1) := by decide +kernel
theorem dX9_errorPosition_0 : decode cX9_errorPosition 0 = .ok (.aload_n 0, 1) := by decide +kernel
theorem dX9_errorPosition_1 : decode cX9_errorPosition 1 = .ok (.iconst 0, 1) := by decide +kernel
theorem dX9_errorPosition_2 : decode cX9_errorPosition 2 = .ok (.putfield 97, 3) := by decide +kernel
theorem dX9_errorPosition_5 : decode cX9_errorPosition 5 = .ok (.aload_n 0, 1) := by decide +kernel
theorem dX9_errorPosition_6 : decode cX9_errorPosition 6 = .ok (.getfield 55, 3) := by decide +kernel
theorem dX9_errorPosition_9 : decode cX9_errorPosition 9 = .ok (.ireturn, 1) := by decide +kernel
theorem dX9_byteAt_0 : decode cX9_byteAt 0 = .ok (.iload_n 1, 1) := by decide +kernel
theorem dX9_byteAt_1 : decode cX9_byteAt 1 = .ok (.aload_n 0, 1) := by decide +kernel
theorem dX9_byteAt_2 : decode cX9_byteAt 2 = .ok (.getfield 318, 3) := by decide +kernel
theorem dX9_byteAt_5 : decode cX9_byteAt 5 = .ok (.if_icmp .ge 12, 3) := by decide +kernel
theorem dX9_byteAt_8 : decode cX9_byteAt 8 = .ok (.aload_n 0, 1) := by decide +kernel
theorem dX9_byteAt_9 : decode cX9_byteAt 9 = .ok (.getfield 52, 3) := by decide +kernel
theorem dX9_byteAt_12 : decode cX9_byteAt 12 = .ok (.iload_n 1, 1) := by decide +kernel
theorem dX9_byteAt_13 : decode cX9_byteAt 13 = .ok (.iaload, 1) := by decide +kernel
theorem dX9_byteAt_14 : decode cX9_byteAt 14 = .ok (.goto 4, 3) := by decide +kernel
theorem dX9_byteAt_17 : decode cX9_byteAt 17 = .ok (.iconst (-1), 1) := by decide +kernel
theorem dX9_byteAt_18 : decode cX9_byteAt 18 = .ok (.ireturn, 1) := by decide +kernel
set_option maxRecDepth 20000 in
theorem ggX9_isLetter_X9_byteAt : GoodIn wsX9_isLetter wsX9_byteAt := goodIn_r _ [5, 6, 7, 8, 9, 10, 11, 12, 13, 14, 15, 16, 17, 18, 19, 20, 21, 22, 23, 24, 25, 26, 27, 28, 29, 30, 31, 32, 33, 34, 35, 36, 37, 38, 39, 40, 41, 42] (by decide +kernel) (by decide +kernel)
set_option maxRecDepth 20000 in
theorem gX9_isLetter_X9_byteAt : GoodIn wsX9_isLetter (wsV RX9 320 RX9 yX9_byteAt wsX9_byteAt) := goodIn_app (goodIn_of _ (by decide +kernel)) ggX9_isLetter_X9_byteAt
theorem dX9_isLetter_0 : decode cX9_isLetter 0 = .ok (.aload_n 0, 1) := by decide +kernel
theorem dX9_isLetter_1 : decode cX9_isLetter 1 = .ok (.iload_n 1, 1) := by decide +kernel
theorem dX9_isLetter_2 : decode cX9_isLetter 2 = .ok (.invokevirtual 320, 3) := by decide +kernel
theorem dX9_isLetter_5 : decode cX9_isLetter 5 = .ok (.bipush 97, 2) := by decide +kernel
theorem dX9_isLetter_7 : decode cX9_isLetter 7 = .ok (.if_icmp .lt 17, 3) := by decide +kernel
theorem dX9_isLetter_10 : decode cX9_isLetter 10 = .ok (.aload_n 0, 1) := by decide +kernel
theorem dX9_isLetter_11 : decode cX9_isLetter 11 = .ok (.iload_n 1, 1) := by decide +kernel
theorem dX9_isLetter_12 : decode cX9_isLetter 12 = .ok (.invokevirtual 320, 3) := by decide +kernel
theorem dX9_isLetter_15 : decode cX9_isLetter 15 = .ok (.bipush 122, 2) := by decide +kernel
theorem dX9_isLetter_17 : decode cX9_isLetter 17 = .ok (.if_icmp .gt 7, 3) := by decide +kernel
theorem dX9_isLetter_20 : decode cX9_isLetter 20 = .ok (.iconst 1, 1) := by decide +kernel
theorem dX9_isLetter_21 : decode cX9_isLetter 21 = .ok (.goto 4, 3) := by decide +kernel
theorem dX9_isLetter_24 : decode cX9_isLetter 24 = .ok (.iconst 0, 1) := by decide +kernel
theorem dX9_isLetter_25 : decode cX9_isLetter 25 = .ok (.ireturn, 1) := by decide +kernel
set_option maxRecDepth 20000 in
theorem ggX9_isDigit_X9_byteAt : GoodIn wsX9_isDigit wsX9_byteAt := goodIn_r _ [5, 6, 7, 8, 9, 10, 11, 12, 13, 14, 15, 16, 17, 18, 19, 20, 21, 22, 23, 24, 25, 26, 27, 28, 29, 30, 31, 32, 33, 34, 35, 36, 37, 38, 39, 40, 41, 42] (by decide +kernel) (by decide +kernel)
set_option maxRecDepth 20000 in
theorem gX9_isDigit_X9_byteAt : GoodIn wsX9_isDigit (wsV RX9 320 RX9 yX9_byteAt wsX9_byteAt) := goodIn_app (goodIn_of _ (by decide +kernel)) ggX9_isDigit_X9_byteAt
theorem dX9_isDigit_0 : decode cX9_isDigit 0 = .ok (.aload_n 0, 1) := by decide +kernel
theorem dX9_isDigit_1 : decode cX9_isDigit 1 = .ok (.iload_n 1, 1) := by decide +kernel
theorem dX9_isDigit_2 : decode cX9_isDigit 2 = .ok (.invokevirtual 320, 3) := by decide +kernel
theorem dX9_isDigit_5 : decode cX9_isDigit 5 = .ok (.bipush 48, 2) := by decide +kernel
theorem dX9_isDigit_7 : decode cX9_isDigit 7 = .ok (.if_icmp .lt 17, 3) := by decide +kernel
theorem dX9_isDigit_10 : decode cX9_isDigit 10 = .ok (.aload_n 0, 1) := by decide +kernel
theorem dX9_isDigit_11 : decode cX9_isDigit 11 = .ok (.iload_n 1, 1) := by decide +kernel
theorem dX9_isDigit_12 : decode cX9_isDigit 12 = .ok (.invokevirtual 320, 3) := by decide +kernel
theorem dX9_isDigit_15 : decode cX9_isDigit 15 = .ok (.bipush 57, 2) := by decide +kernel
theorem dX9_isDigit_17 : decode cX9_isDigit 17 = .ok (.if_icmp .gt 7, 3) := by decide +kernel
theorem dX9_isDigit_20 : decode cX9_isDigit 20 = .ok (.iconst 1, 1) := by decide +kernel
theorem dX9_isDigit_21 : decode cX9_isDigit 21 = .ok (.goto 4, 3) := by decide +kernel
theorem dX9_isDigit_24 : decode cX9_isDigit 24 = .ok (.iconst 0, 1) := by decide +kernel
theorem dX9_isDigit_25 : decode cX9_isDigit 25 = .ok (.ireturn, 1) := by decide +kernel
set_option maxRecDepth 20000 in
theorem ggX9_scan_X9_byteAt : GoodIn wsX9_scan wsX9_byteAt := goodIn_r _ [9, 3, 10, 19, 20, 21, 22, 23, 24, 25, 26, 27, 28, 29, 30, 31, 32, 33, 34, 35, 36, 37, 38, 39, 40, 41, 42, 43, 44, 45, 46, 47, 48, 49, 50, 51, 52, 53] (by decide +kernel) (by decide +kernel)
set_option maxRecDepth 20000 in
theorem gX9_scan_X9_byteAt : GoodIn wsX9_scan (wsV RX9 320 RX9 yX9_byteAt wsX9_byteAt) := goodIn_app (goodIn_of _ (by decide +kernel)) ggX9_scan_X9_byteAt
set_option maxRecDepth 20000 in
theorem ggX9_scan_X9_isLetter : GoodIn wsX9_scan wsX9_isLetter := goodIn_r _ [14, 5, 6, 7, 8, 9, 3, 10, 19, 20, 21, 22, 23, 24, 25, 26, 27, 28, 29, 30, 31, 32, 33, 34, 35, 36, 37, 38, 39, 40, 41, 42, 43, 44, 45, 46, 47, 48, 49, 50, 51, 52, 53] (by decide +kernel) (by decide +kernel)
set_option maxRecDepth 20000 in
theorem gX9_scan_X9_isLetter : GoodIn wsX9_scan (wsV RX9 332 RX9 yX9_isLetter wsX9_isLetter) := goodIn_app (goodIn_of _ (by decide +kernel)) ggX9_scan_X9_isLetter
set_option maxRecDepth 20000 in
theorem ggX9_scan_X9_isDigit : GoodIn wsX9_scan wsX9_isDigit := goodIn_r _ [18, 5, 6, 7, 8, 9, 3, 10, 19, 20, 21, 22, 23, 24, 25, 26, 27, 28, 29, 30, 31, 32, 33, 34, 35, 36, 37, 38, 39, 40, 41, 42, 43, 44, 45, 46, 47, 48, 49, 50, 51, 52, 53] (by decide +kernel) (by decide +kernel)
set_option maxRecDepth 20000 in
theorem gX9_scan_X9_isDigit : GoodIn wsX9_scan (wsV RX9 335 RX9 yX9_isDigit wsX9_isDigit) := goodIn_app (goodIn_of _ (by decide +kernel)) ggX9_scan_X9_isDigit
theorem dX9_scan_0 : decode cX9_scan 0 = .ok (.aload_n 0, 1) := by decide +kernel
theorem dX9_scan_1 : decode cX9_scan 1 = .ok (.aload_n 0, 1) := by decide +kernel
theorem dX9_scan_2 : decode cX9_scan 2 = .ok (.getfield 323, 3) := by decide +kernel
theorem dX9_scan_5 : decode cX9_scan 5 = .ok (.invokevirtual 320, 3) := by decide +kernel
theorem dX9_scan_8 : decode cX9_scan 8 = .ok (.bipush 32, 2) := by decide +kernel
theorem dX9_scan_10 : decode cX9_scan 10 = .ok (.if_icmp .eq 16, 3) := by decide +kernel
theorem dX9_scan_13 : decode cX9_scan 13 = .ok (.aload_n 0, 1) := by decide +kernel
theorem dX9_scan_14 : decode cX9_scan 14 = .ok (.aload_n 0, 1) := by decide +kernel
theorem dX9_scan_15 : decode cX9_scan 15 = .ok (.getfield 323, 3) := by decide +kernel
theorem dX9_scan_18 : decode cX9_scan 18 = .ok (.invokevirtual 320, 3) := by decide +kernel
theorem dX9_scan_21 : decode cX9_scan 21 = .ok (.bipush 10, 2) := by decide +kernel
theorem dX9_scan_23 : decode cX9_scan 23 = .ok (.if_icmp .ne 16, 3) := by decide +kernel
theorem dX9_scan_26 : decode cX9_scan 26 = .ok (.aload_n 0, 1) := by decide +kernel
theorem dX9_scan_27 : decode cX9_scan 27 = .ok (.dup, 1) := by decide +kernel
theorem dX9_scan_28 : decode cX9_scan 28 = .ok (.getfield 323, 3) := by decide +kernel
theorem dX9_scan_31 : decode cX9_scan 31 = .ok (.iconst 1, 1) := by decide +kernel
theorem dX9_scan_32 : decode cX9_scan 32 = .ok (.iadd, 1) := by decide +kernel
theorem dX9_scan_33 : decode cX9_scan 33 = .ok (.putfield 323, 3) := by decide +kernel
theorem dX9_scan_36 : decode cX9_scan 36 = .ok (.goto (-36), 3) := by decide +kernel
theorem dX9_scan_39 : decode cX9_scan 39 = .ok (.aload_n 0, 1) := by decide +kernel
theorem dX9_scan_40 : decode cX9_scan 40 = .ok (.aload_n 0, 1) := by decide +kernel
theorem dX9_scan_41 : decode cX9_scan 41 = .ok (.getfield 323, 3) := by decide +kernel
theorem dX9_scan_44 : decode cX9_scan 44 = .ok (.putfield 326, 3) := by decide +kernel
theorem dX9_scan_47 : decode cX9_scan 47 = .ok (.aload_n 0, 1) := by decide +kernel
theorem dX9_scan_48 : decode cX9_scan 48 = .ok (.getfield 323, 3) := by decide +kernel
theorem dX9_scan_51 : decode cX9_scan 51 = .ok (.aload_n 0, 1) := by decide +kernel
theorem dX9_scan_52 : decode cX9_scan 52 = .ok (.getfield 318, 3) := by decide +kernel
theorem dX9_scan_55 : decode cX9_scan 55 = .ok (.if_icmp .lt 11, 3) := by decide +kernel
theorem dX9_scan_58 : decode cX9_scan 58 = .ok (.aload_n 0, 1) := by decide +kernel
theorem dX9_scan_59 : decode cX9_scan 59 = .ok (.iconst 0, 1) := by decide +kernel
theorem dX9_scan_60 : decode cX9_scan 60 = .ok (.putfield 329, 3) := by decide +kernel
theorem dX9_scan_63 : decode cX9_scan 63 = .ok (.goto 104, 3) := by decide +kernel
theorem dX9_scan_66 : decode cX9_scan 66 = .ok (.aload_n 0, 1) := by decide +kernel
theorem dX9_scan_67 : decode cX9_scan 67 = .ok (.aload_n 0, 1) := by decide +kernel
theorem dX9_scan_68 : decode cX9_scan 68 = .ok (.getfield 323, 3) := by decide +kernel
theorem dX9_scan_71 : decode cX9_scan 71 = .ok (.invokevirtual 332, 3) := by decide +kernel
theorem dX9_scan_74 : decode cX9_scan 74 = .ok (.ifCond .eq 35, 3) := by decide +kernel
theorem dX9_scan_77 : decode cX9_scan 77 = .ok (.aload_n 0, 1) := by decide +kernel
theorem dX9_scan_78 : decode cX9_scan 78 = .ok (.aload_n 0, 1) := by decide +kernel
theorem dX9_scan_79 : decode cX9_scan 79 = .ok (.getfield 323, 3) := by decide +kernel
theorem dX9_scan_82 : decode cX9_scan 82 = .ok (.invokevirtual 332, 3) := by decide +kernel
theorem dX9_scan_85 : decode cX9_scan 85 = .ok (.ifCond .eq 16, 3) := by decide +kernel
theorem dX9_scan_88 : decode cX9_scan 88 = .ok (.aload_n 0, 1) := by decide +kernel
theorem dX9_scan_89 : decode cX9_scan 89 = .ok (.dup, 1) := by decide +kernel
theorem dX9_scan_90 : decode cX9_scan 90 = .ok (.getfield 323, 3) := by decide +kernel
theorem dX9_scan_93 : decode cX9_scan 93 = .ok (.iconst 1, 1) := by decide +kernel
theorem dX9_scan_94 : decode cX9_scan 94 = .ok (.iadd, 1) := by decide +kernel
theorem dX9_scan_95 : decode cX9_scan 95 = .ok (.putfield 323, 3) := by decide +kernel
theorem dX9_scan_98 : decode cX9_scan 98 = .ok (.goto (-21), 3) := by decide +kernel
theorem dX9_scan_101 : decode cX9_scan 101 = .ok (.aload_n 0, 1) := by decide +kernel
theorem dX9_scan_102 : decode cX9_scan 102 = .ok (.iconst 1, 1) := by decide +kernel
theorem dX9_scan_103 : decode cX9_scan 103 = .ok (.putfield 329, 3) := by decide +kernel
theorem dX9_scan_106 : decode cX9_scan 106 = .ok (.goto 61, 3) := by decide +kernel
theorem dX9_scan_109 : decode cX9_scan 109 = .ok (.aload_n 0, 1) := by decide +kernel
theorem dX9_scan_110 : decode cX9_scan 110 = .ok (.aload_n 0, 1) := by decide +kernel
theorem dX9_scan_111 : decode cX9_scan 111 = .ok (.getfield 323, 3) := by decide +kernel
theorem dX9_scan_114 : decode cX9_scan 114 = .ok (.invokevirtual 335, 3) := by decide +kernel
theorem dX9_scan_117 : decode cX9_scan 117 = .ok (.ifCond .eq 35, 3) := by decide +kernel
theorem dX9_scan_120 : decode cX9_scan 120 = .ok (.aload_n 0, 1) := by decide +kernel
theorem dX9_scan_121 : decode cX9_scan 121 = .ok (.aload_n 0, 1) := by decide +kernel
theorem dX9_scan_122 : decode cX9_scan 122 = .ok (.getfield 323, 3) := by decide +kernel
theorem dX9_scan_125 : decode cX9_scan 125 = .ok (.invokevirtual 335, 3) := by decide +kernel
theorem dX9_scan_128 : decode cX9_scan 128 = .ok (.ifCond .eq 16, 3) := by decide +kernel
theorem dX9_scan_131 : decode cX9_scan 131 = .ok (.aload_n 0, 1) := by decide +kernel
theorem dX9_scan_132 : decode cX9_scan 132 = .ok (.dup, 1) := by decide +kernel
theorem dX9_scan_133 : decode cX9_scan 133 = .ok (.getfield 323, 3) := by decide +kernel
theorem dX9_scan_136 : decode cX9_scan 136 = .ok (.iconst 1, 1) := by decide +kernel
theorem dX9_scan_137 : decode cX9_scan 137 = .ok (.iadd, 1) := by decide +kernel
theorem dX9_scan_138 : decode cX9_scan 138 = .ok (.putfield 323, 3) := by decide +kernel
theorem dX9_scan_141 : decode cX9_scan 141 = .ok (.goto (-21), 3) := by decide +kernel
theorem dX9_scan_144 : decode cX9_scan 144 = .ok (.aload_n 0, 1) := by decide +kernel
theorem dX9_scan_145 : decode cX9_scan 145 = .ok (.iconst 2, 1) := by decide +kernel
theorem dX9_scan_146 : decode cX9_scan 146 = .ok (.putfield 329, 3) := by decide +kernel
theorem dX9_scan_149 : decode cX9_scan 149 = .ok (.goto 18, 3) := by decide +kernel
theorem dX9_scan_152 : decode cX9_scan 152 = .ok (.aload_n 0, 1) := by decide +kernel
theorem dX9_scan_153 : decode cX9_scan 153 = .ok (.dup, 1) := by decide +kernel
theorem dX9_scan_154 : decode cX9_scan 154 = .ok (.getfield 323, 3) := by decide +kernel
theorem dX9_scan_157 : decode cX9_scan 157 = .ok (.iconst 1, 1) := by decide +kernel
theorem dX9_scan_158 : decode cX9_scan 158 = .ok (.iadd, 1) := by decide +kernel
theorem dX9_scan_159 : decode cX9_scan 159 = .ok (.putfield 323, 3) := by decide +kernel
theorem dX9_scan_162 : decode cX9_scan 162 = .ok (.aload_n 0, 1) := by decide +kernel
theorem dX9_scan_163 : decode cX9_scan 163 = .ok (.iconst 3, 1) := by decide +kernel
theorem dX9_scan_164 : decode cX9_scan 164 = .ok (.putfield 329, 3) := by decide +kernel
theorem dX9_scan_167 : decode cX9_scan 167 = .ok (.return_, 1) := by decide +kernel
set_option maxRecDepth 20000 in
theorem ggX9_startText_X9_scan : GoodIn wsX9_startText wsX9_scan := goodIn_r _ [9, 2, 10, 1, 11, 12, 13, 14, 8, 15, 16, 17, 18, 19, 20, 21, 22, 23, 24, 25, 26, 27, 28, 29, 30, 31, 32, 33, 34, 35, 36, 37, 38, 39, 40, 41, 42, 43, 44, 45, 46, 47, 48, 49, 50, 51, 52, 53, 54, 55, 56, 57, 58, 59] (by decide +kernel) (by decide +kernel)
set_option maxRecDepth 20000 in
theorem gX9_startText_X9_scan : GoodIn wsX9_startText (wsV RX9 344 RX9 yX9_scan wsX9_scan) := goodIn_app (goodIn_of _ (by decide +kernel)) ggX9_startText_X9_scan
theorem dX9_startText_0 : decode cX9_startText 0 = .ok (.aload_n 0, 1) := by decide +kernel
theorem dX9_startText_1 : decode cX9_startText 1 = .ok (.iload_n 1, 1) := by decide +kernel
theorem dX9_startText_2 : decode cX9_startText 2 = .ok (.putfield 318, 3) := by decide +kernel
theorem dX9_startText_5 : decode cX9_startText 5 = .ok (.aload_n 0, 1) := by decide +kernel
theorem dX9_startText_6 : decode cX9_startText 6 = .ok (.iconst 0, 1) := by decide +kernel
theorem dX9_startText_7 : decode cX9_startText 7 = .ok (.putfield 323, 3) := by decide +kernel
theorem dX9_startText_10 : decode cX9_startText 10 = .ok (.aload_n 0, 1) := by decide +kernel
theorem dX9_startText_11 : decode cX9_startText 11 = .ok (.iconst 0, 1) := by decide +kernel
theorem dX9_startText_12 : decode cX9_startText 12 = .ok (.putfield 338, 3) := by decide +kernel
theorem dX9_startText_15 : decode cX9_startText 15 = .ok (.aload_n 0, 1) := by decide +kernel
theorem dX9_startText_16 : decode cX9_startText 16 = .ok (.iconst 0, 1) := by decide +kernel
theorem dX9_startText_17 : decode cX9_startText 17 = .ok (.putfield 341, 3) := by decide +kernel
theorem dX9_startText_20 : decode cX9_startText 20 = .ok (.aload_n 0, 1) := by decide +kernel
theorem dX9_startText_21 : decode cX9_startText 21 = .ok (.invokevirtual 344, 3) := by decide +kernel
theorem dX9_startText_24 : decode cX9_startText 24 = .ok (.return_, 1) := by decide +kernel
theorem dX9_finish_0 : decode cX9_finish 0 = .ok (.aload_n 0, 1) := by decide +kernel
theorem dX9_finish_1 : decode cX9_finish 1 = .ok (.iconst 0, 1) := by decide +kernel
theorem dX9_finish_2 : decode cX9_finish 2 = .ok (.putfield 315, 3) := by decide +kernel
theorem dX9_finish_5 : decode cX9_finish 5 = .ok (.aload_n 0, 1) := by decide +kernel
theorem dX9_finish_6 : decode cX9_finish 6 = .ok (.aload_n 0, 1) := by decide +kernel
theorem dX9_finish_7 : decode cX9_finish 7 = .ok (.getfield 338, 3) := by decide +kernel
theorem dX9_finish_10 : decode cX9_finish 10 = .ok (.ifCond .ne 7, 3) := by decide +kernel
theorem dX9_finish_13 : decode cX9_finish 13 = .ok (.iconst (-1), 1) := by decide +kernel
theorem dX9_finish_14 : decode cX9_finish 14 = .ok (.goto 7, 3) := by decide +kernel
theorem dX9_finish_17 : decode cX9_finish 17 = .ok (.aload_n 0, 1) := by decide +kernel
theorem dX9_finish_18 : decode cX9_finish 18 = .ok (.getfield 347, 3) := by decide +kernel
theorem dX9_finish_21 : decode cX9_finish 21 = .ok (.putfield 55, 3) := by decide +kernel
theorem dX9_finish_24 : decode cX9_finish 24 = .ok (.aload_n 0, 1) := by decide +kernel
theorem dX9_finish_25 : decode cX9_finish 25 = .ok (.getfield 338, 3) := by decide +kernel
theorem dX9_finish_28 : decode cX9_finish 28 = .ok (.ireturn, 1) := by decide +kernel
theorem dX9_flaw_0 : decode cX9_flaw 0 = .ok (.aload_n 0, 1) := by decide +kernel
theorem dX9_flaw_1 : decode cX9_flaw 1 = .ok (.getfield 338, 3) := by decide +kernel
theorem dX9_flaw_4 : decode cX9_flaw 4 = .ok (.ifCond .ne 16, 3) := by decide +kernel
theorem dX9_flaw_7 : decode cX9_flaw 7 = .ok (.aload_n 0, 1) := by decide +kernel
theorem dX9_flaw_8 : decode cX9_flaw 8 = .ok (.iload_n 1, 1) := by decide +kernel
theorem dX9_flaw_9 : decode cX9_flaw 9 = .ok (.putfield 338, 3) := by decide +kernel
theorem dX9_flaw_12 : decode cX9_flaw 12 = .ok (.aload_n 0, 1) := by decide +kernel
theorem dX9_flaw_13 : decode cX9_flaw 13 = .ok (.aload_n 0, 1) := by decide +kernel
theorem dX9_flaw_14 : decode cX9_flaw 14 = .ok (.getfield 326, 3) := by decide +kernel
theorem dX9_flaw_17 : decode cX9_flaw 17 = .ok (.putfield 347, 3) := by decide +kernel
theorem dX9_flaw_20 : decode cX9_flaw 20 = .ok (.return_, 1) := by decide +kernel
set_option maxRecDepth 20000 in
theorem ggX9_check_X9_flaw : GoodIn wsX9_check wsX9_flaw := goodIn_r _ [5, 6, 7, 8, 9, 10, 11, 12, 13, 14, 15, 16, 17, 18, 19, 20, 21, 22, 23, 24, 25, 26, 27, 28, 29, 30, 31, 32, 33, 34, 35, 36, 37, 38, 39, 40, 41, 42, 43] (by decide +kernel) (by decide +kernel)
set_option maxRecDepth 20000 in
theorem gX9_check_X9_flaw : GoodIn wsX9_check (wsV RX9 350 RX9 yX9_flaw wsX9_flaw) := goodIn_app (goodIn_of _ (by decide +kernel)) ggX9_check_X9_flaw
theorem dX9_check_0 : decode cX9_check 0 = .ok (.iload_n 1, 1) := by decide +kernel
theorem dX9_check_1 : decode cX9_check 1 = .ok (.ifCond .ne 8, 3) := by decide +kernel
theorem dX9_check_4 : decode cX9_check 4 = .ok (.aload_n 0, 1) := by decide +kernel
theorem dX9_check_5 : decode cX9_check 5 = .ok (.iload_n 2, 1) := by decide +kernel
theorem dX9_check_6 : decode cX9_check 6 = .ok (.invokevirtual 350, 3) := by decide +kernel
theorem dX9_check_9 : decode cX9_check 9 = .ok (.return_, 1) := by decide +kernel
set_option maxRecDepth 20000 in
theorem ggX9_advance_X9_scan : GoodIn wsX9_advance wsX9_scan := goodIn_r _ [6, 7, 8, 9, 10, 11, 12, 13, 5, 14, 15, 16, 17, 18, 19, 20, 21, 22, 23, 24, 25, 26, 27, 28, 29, 30, 31, 32, 33, 34, 35, 36, 37, 38, 39, 40, 41, 42, 43, 44, 45, 46, 47, 48, 49, 50, 51, 52, 53, 54, 55, 56, 57, 58] (by decide +kernel) (by decide +kernel)
set_option maxRecDepth 20000 in
theorem gX9_advance_X9_scan : GoodIn wsX9_advance (wsV RX9 344 RX9 yX9_scan wsX9_scan) := goodIn_app (goodIn_of _ (by decide +kernel)) ggX9_advance_X9_scan
theorem dX9_advance_0 : decode cX9_advance 0 = .ok (.aload_n 0, 1) := by decide +kernel
theorem dX9_advance_1 : decode cX9_advance 1 = .ok (.getfield 338, 3) := by decide +kernel
theorem dX9_advance_4 : decode cX9_advance 4 = .ok (.ifCond .ne 7, 3) := by decide +kernel
theorem dX9_advance_7 : decode cX9_advance 7 = .ok (.aload_n 0, 1) := by decide +kernel
theorem dX9_advance_8 : decode cX9_advance 8 = .ok (.invokevirtual 344, 3) := by decide +kernel
theorem dX9_advance_11 : decode cX9_advance 11 = .ok (.return_, 1) := by decide +kernel
theorem dX9_isSymbol_0 : decode cX9_isSymbol 0 = .ok (.aload_n 0, 1) := by decide +kernel
theorem dX9_isSymbol_1 : decode cX9_isSymbol 1 = .ok (.getfield 338, 3) := by decide +kernel
theorem dX9_isSymbol_4 : decode cX9_isSymbol 4 = .ok (.ifCond .ne 28, 3) := by decide +kernel
theorem dX9_isSymbol_7 : decode cX9_isSymbol 7 = .ok (.aload_n 0, 1) := by decide +kernel
theorem dX9_isSymbol_8 : decode cX9_isSymbol 8 = .ok (.getfield 329, 3) := by decide +kernel
theorem dX9_isSymbol_11 : decode cX9_isSymbol 11 = .ok (.iconst 3, 1) := by decide +kernel
theorem dX9_isSymbol_12 : decode cX9_isSymbol 12 = .ok (.if_icmp .ne 20, 3) := by decide +kernel
theorem dX9_isSymbol_15 : decode cX9_isSymbol 15 = .ok (.aload_n 0, 1) := by decide +kernel
theorem dX9_isSymbol_16 : decode cX9_isSymbol 16 = .ok (.getfield 52, 3) := by decide +kernel
theorem dX9_isSymbol_19 : decode cX9_isSymbol 19 = .ok (.aload_n 0, 1) := by decide +kernel
theorem dX9_isSymbol_20 : decode cX9_isSymbol 20 = .ok (.getfield 326, 3) := by decide +kernel
theorem dX9_isSymbol_23 : decode cX9_isSymbol 23 = .ok (.iaload, 1) := by decide +kernel
theorem dX9_isSymbol_24 : decode cX9_isSymbol 24 = .ok (.iload_n 1, 1) := by decide +kernel
theorem dX9_isSymbol_25 : decode cX9_isSymbol 25 = .ok (.if_icmp .ne 7, 3) := by decide +kernel
theorem dX9_isSymbol_28 : decode cX9_isSymbol 28 = .ok (.iconst 1, 1) := by decide +kernel
theorem dX9_isSymbol_29 : decode cX9_isSymbol 29 = .ok (.goto 4, 3) := by decide +kernel
theorem dX9_isSymbol_32 : decode cX9_isSymbol 32 = .ok (.iconst 0, 1) := by decide +kernel
theorem dX9_isSymbol_33 : decode cX9_isSymbol 33 = .ok (.ireturn, 1) := by decide +kernel
set_option maxRecDepth 20000 in
theorem ggX9_isWord_J0_length_8abf5 : GoodIn wsX9_isWord wsJ0_length_8abf5 := goodIn_r _ [10, 11, 12, 13, 14, 9, 15, 16, 17] (by decide +kernel) (by decide +kernel)
set_option maxRecDepth 20000 in
theorem gX9_isWord_J0_length_8abf5 : GoodIn wsX9_isWord (wsV RX9 353 RJ0 yJ0_length_8abf5 wsJ0_length_8abf5) := goodIn_app (goodIn_of _ (by decide +kernel)) ggX9_isWord_J0_length_8abf5
set_option maxRecDepth 20000 in
theorem ggX9_isWord_J0_charAt_5068e : GoodIn wsX9_isWord wsJ0_charAt_5068e := goodIn_r _ [21, 11, 22, 23, 24, 9, 25, 16, 17, 26, 27, 28, 29, 30, 31, 32, 33, 34, 35, 36, 37, 38, 39, 40, 41, 42, 43, 44, 45, 46, 47, 48, 49, 50, 51, 52, 53, 54] (by decide +kernel) (by decide +kernel)
set_option maxRecDepth 20000 in
theorem gX9_isWord_J0_charAt_5068e : GoodIn wsX9_isWord (wsV RX9 356 RJ0 yJ0_charAt_5068e wsJ0_charAt_5068e) := goodIn_app (goodIn_of _ (by decide +kernel)) ggX9_isWord_J0_charAt_5068e
theorem dX9_isWord_0 : decode cX9_isWord 0 = .ok (.aload_n 0, 1) := by decide +kernel
theorem dX9_isWord_1 : decode cX9_isWord 1 = .ok (.getfield 338, 3) := by decide +kernel
theorem dX9_isWord_4 : decode cX9_isWord 4 = .ok (.ifCond .ne 31, 3) := by decide +kernel
theorem dX9_isWord_7 : decode cX9_isWord 7 = .ok (.aload_n 0, 1) := by decide +kernel
theorem dX9_isWord_8 : decode cX9_isWord 8 = .ok (.getfield 329, 3) := by decide +kernel
theorem dX9_isWord_11 : decode cX9_isWord 11 = .ok (.iconst 1, 1) := by decide +kernel
theorem dX9_isWord_12 : decode cX9_isWord 12 = .ok (.if_icmp .ne 23, 3) := by decide +kernel
theorem dX9_isWord_15 : decode cX9_isWord 15 = .ok (.aload_n 1, 1) := by decide +kernel
theorem dX9_isWord_16 : decode cX9_isWord 16 = .ok (.invokevirtual 353, 3) := by decide +kernel
theorem dX9_isWord_19 : decode cX9_isWord 19 = .ok (.aload_n 0, 1) := by decide +kernel
theorem dX9_isWord_20 : decode cX9_isWord 20 = .ok (.getfield 323, 3) := by decide +kernel
theorem dX9_isWord_23 : decode cX9_isWord 23 = .ok (.aload_n 0, 1) := by decide +kernel
theorem dX9_isWord_24 : decode cX9_isWord 24 = .ok (.getfield 326, 3) := by decide +kernel
theorem dX9_isWord_27 : decode cX9_isWord 27 = .ok (.isub, 1) := by decide +kernel
theorem dX9_isWord_28 : decode cX9_isWord 28 = .ok (.if_icmp .ne 7, 3) := by decide +kernel
theorem dX9_isWord_31 : decode cX9_isWord 31 = .ok (.iconst 1, 1) := by decide +kernel
theorem dX9_isWord_32 : decode cX9_isWord 32 = .ok (.goto 4, 3) := by decide +kernel
theorem dX9_isWord_35 : decode cX9_isWord 35 = .ok (.iconst 0, 1) := by decide +kernel
theorem dX9_isWord_36 : decode cX9_isWord 36 = .ok (.istore_n 2, 1) := by decide +kernel
theorem dX9_isWord_37 : decode cX9_isWord 37 = .ok (.iconst 0, 1) := by decide +kernel
theorem dX9_isWord_38 : decode cX9_isWord 38 = .ok (.istore_n 3, 1) := by decide +kernel
theorem dX9_isWord_39 : decode cX9_isWord 39 = .ok (.iload_n 2, 1) := by decide +kernel
theorem dX9_isWord_40 : decode cX9_isWord 40 = .ok (.ifCond .eq 42, 3) := by decide +kernel
theorem dX9_isWord_43 : decode cX9_isWord 43 = .ok (.iload_n 3, 1) := by decide +kernel
theorem dX9_isWord_44 : decode cX9_isWord 44 = .ok (.aload_n 1, 1) := by decide +kernel
theorem dX9_isWord_45 : decode cX9_isWord 45 = .ok (.invokevirtual 353, 3) := by decide +kernel
theorem dX9_isWord_48 : decode cX9_isWord 48 = .ok (.if_icmp .ge 34, 3) := by decide +kernel
theorem dX9_isWord_51 : decode cX9_isWord 51 = .ok (.aload_n 1, 1) := by decide +kernel
theorem dX9_isWord_52 : decode cX9_isWord 52 = .ok (.iload_n 3, 1) := by decide +kernel
theorem dX9_isWord_53 : decode cX9_isWord 53 = .ok (.invokevirtual 356, 3) := by decide +kernel
theorem dX9_isWord_56 : decode cX9_isWord 56 = .ok (.aload_n 0, 1) := by decide +kernel
theorem dX9_isWord_57 : decode cX9_isWord 57 = .ok (.getfield 52, 3) := by decide +kernel
theorem dX9_isWord_60 : decode cX9_isWord 60 = .ok (.aload_n 0, 1) := by decide +kernel
theorem dX9_isWord_61 : decode cX9_isWord 61 = .ok (.getfield 326, 3) := by decide +kernel
theorem dX9_isWord_64 : decode cX9_isWord 64 = .ok (.iload_n 3, 1) := by decide +kernel
theorem dX9_isWord_65 : decode cX9_isWord 65 = .ok (.iadd, 1) := by decide +kernel
theorem dX9_isWord_66 : decode cX9_isWord 66 = .ok (.iaload, 1) := by decide +kernel
theorem dX9_isWord_67 : decode cX9_isWord 67 = .ok (.if_icmp .ne 7, 3) := by decide +kernel
theorem dX9_isWord_70 : decode cX9_isWord 70 = .ok (.iconst 1, 1) := by decide +kernel
theorem dX9_isWord_71 : decode cX9_isWord 71 = .ok (.goto 4, 3) := by decide +kernel
theorem dX9_isWord_74 : decode cX9_isWord 74 = .ok (.iconst 0, 1) := by decide +kernel
theorem dX9_isWord_75 : decode cX9_isWord 75 = .ok (.istore_n 2, 1) := by decide +kernel
theorem dX9_isWord_76 : decode cX9_isWord 76 = .ok (.iinc 3 1, 3) := by decide +kernel
theorem dX9_isWord_79 : decode cX9_isWord 79 = .ok (.goto (-40), 3) := by decide +kernel
theorem dX9_isWord_82 : decode cX9_isWord 82 = .ok (.iload_n 2, 1) := by decide +kernel
theorem dX9_isWord_83 : decode cX9_isWord 83 = .ok (.ireturn, 1) := by decide +kernel
set_option maxRecDepth 20000 in
theorem ggX9_accept_X9_isWord : GoodIn wsX9_accept wsX9_isWord := goodIn_r _ [5, 6, 7, 8, 9, 10, 11, 12, 13, 14, 15, 16, 17, 18, 19, 20, 21, 22, 23, 24, 25, 26, 27, 28, 29, 30, 31, 32, 33, 34, 35, 36, 37, 38, 39, 40, 41, 42, 43, 44, 45, 46, 47, 48, 49, 50, 51, 52, 53, 54, 55, 56, 57, 58, 59, 77, 78, 79, 80, 81, 82, 83, 84, 85, 86, 87, 88, 89, 90, 91, 92, 93, 94, 95, 96, 97, 98, 99, 100, 101, 102, 103, 104, 105, 106, 107, 108, 109, 110, 111] (by decide +kernel) (by decide +kernel)
set_option maxRecDepth 20000 in
theorem gX9_accept_X9_isWord : GoodIn wsX9_accept (wsV RX9 360 RX9 yX9_isWord wsX9_isWord) := goodIn_app (goodIn_of _ (by decide +kernel)) ggX9_accept_X9_isWord
set_option maxRecDepth 20000 in
theorem ggX9_accept_X9_scan : GoodIn wsX9_accept wsX9_scan := goodIn_r _ [63, 8, 9, 64, 7, 65, 66, 67, 4, 68, 10, 69, 70, 71, 72, 73, 74, 75, 76, 77, 78, 79, 80, 81, 82, 83, 84, 85, 86, 87, 88, 89, 90, 91, 92, 93, 94, 95, 96, 97, 98, 99, 100, 101, 102, 103, 104, 105, 106, 107, 108, 109, 110, 111] (by decide +kernel) (by decide +kernel)
set_option maxRecDepth 20000 in
theorem gX9_accept_X9_scan : GoodIn wsX9_accept (wsV RX9 344 RX9 yX9_scan wsX9_scan) := goodIn_app (goodIn_of _ (by decide +kernel)) ggX9_accept_X9_scan
theorem dX9_accept_0 : decode cX9_accept 0 = .ok (.aload_n 0, 1) := by decide +kernel
theorem dX9_accept_1 : decode cX9_accept 1 = .ok (.aload_n 1, 1) := by decide +kernel
theorem dX9_accept_2 : decode cX9_accept 2 = .ok (.invokevirtual 360, 3) := by decide +kernel
theorem dX9_accept_5 : decode cX9_accept 5 = .ok (.istore_n 2, 1) := by decide +kernel
theorem dX9_accept_6 : decode cX9_accept 6 = .ok (.iload_n 2, 1) := by decide +kernel
theorem dX9_accept_7 : decode cX9_accept 7 = .ok (.ifCond .eq 7, 3) := by decide +kernel
theorem dX9_accept_10 : decode cX9_accept 10 = .ok (.aload_n 0, 1) := by decide +kernel
theorem dX9_accept_11 : decode cX9_accept 11 = .ok (.invokevirtual 344, 3) := by decide +kernel
theorem dX9_accept_14 : decode cX9_accept 14 = .ok (.iload_n 2, 1) := by decide +kernel
theorem dX9_accept_15 : decode cX9_accept 15 = .ok (.ireturn, 1) := by decide +kernel
set_option maxRecDepth 20000 in
theorem ggX9_expectWord_X9_isWord : GoodIn wsX9_expectWord wsX9_isWord := goodIn_r _ [5, 6, 7, 8, 9, 10, 11, 12, 13, 14, 15, 16, 17, 18, 19, 20, 21, 22, 23, 24, 25, 26, 27, 28, 29, 30, 31, 32, 33, 34, 35, 36, 37, 38, 39, 40, 41, 42, 43, 44, 45, 46, 47, 48, 49, 50, 51, 52, 53, 54, 55, 56, 57, 58, 59, 90, 91, 92, 93, 94, 95, 96, 97, 98, 99, 100, 101, 102, 103, 104, 105, 106, 107, 108, 109, 110, 111, 112, 113, 114, 115, 116, 117, 118, 119, 120, 121, 122, 123, 124] (by decide +kernel) (by decide +kernel)
set_option maxRecDepth 20000 in
theorem gX9_expectWord_X9_isWord : GoodIn wsX9_expectWord (wsV RX9 360 RX9 yX9_isWord wsX9_isWord) := goodIn_app (goodIn_of _ (by decide +kernel)) ggX9_expectWord_X9_isWord
set_option maxRecDepth 20000 in
theorem ggX9_expectWord_X9_check : GoodIn wsX9_expectWord wsX9_check := goodIn_r _ [63, 64, 65, 66, 4, 67, 6, 9, 68, 90, 91, 92, 93, 94, 95, 96, 97, 98, 99, 100, 101, 102, 103, 104, 105, 106, 107, 108, 109, 110, 111, 112, 113, 114, 115, 116, 117, 118, 119, 120, 121, 122, 123, 124] (by decide +kernel) (by decide +kernel)
set_option maxRecDepth 20000 in
theorem gX9_expectWord_X9_check : GoodIn wsX9_expectWord (wsV RX9 364 RX9 yX9_check wsX9_check) := goodIn_app (goodIn_of _ (by decide +kernel)) ggX9_expectWord_X9_check
set_option maxRecDepth 20000 in
theorem ggX9_expectWord_X9_advance : GoodIn wsX9_expectWord wsX9_advance := goodIn_r _ [72, 6, 73, 74, 75, 4, 76, 8, 9, 77, 7, 78, 79, 80, 81, 10, 82, 83, 84, 85, 86, 87, 88, 89, 90, 91, 92, 93, 94, 95, 96, 97, 98, 99, 100, 101, 102, 103, 104, 105, 106, 107, 108, 109, 110, 111, 112, 113, 114, 115, 116, 117, 118, 119, 120, 121, 122, 123, 124] (by decide +kernel) (by decide +kernel)
set_option maxRecDepth 20000 in
theorem gX9_expectWord_X9_advance : GoodIn wsX9_expectWord (wsV RX9 368 RX9 yX9_advance wsX9_advance) := goodIn_app (goodIn_of _ (by decide +kernel)) ggX9_expectWord_X9_advance
theorem dX9_expectWord_0 : decode cX9_expectWord 0 = .ok (.aload_n 0, 1) := by decide +kernel
theorem dX9_expectWord_1 : decode cX9_expectWord 1 = .ok (.aload_n 0, 1) := by decide +kernel
theorem dX9_expectWord_2 : decode cX9_expectWord 2 = .ok (.aload_n 1, 1) := by decide +kernel
theorem dX9_expectWord_3 : decode cX9_expectWord 3 = .ok (.invokevirtual 360, 3) := by decide +kernel
theorem dX9_expectWord_6 : decode cX9_expectWord 6 = .ok (.iconst 1, 1) := by decide +kernel
theorem dX9_expectWord_7 : decode cX9_expectWord 7 = .ok (.invokevirtual 364, 3) := by decide +kernel
theorem dX9_expectWord_10 : decode cX9_expectWord 10 = .ok (.aload_n 0, 1) := by decide +kernel
theorem dX9_expectWord_11 : decode cX9_expectWord 11 = .ok (.invokevirtual 368, 3) := by decide +kernel
theorem dX9_expectWord_14 : decode cX9_expectWord 14 = .ok (.return_, 1) := by decide +kernel
set_option maxRecDepth 20000 in
theorem ggX9_expect_X9_isSymbol : GoodIn wsX9_expect wsX9_isSymbol := goodIn_r _ [5, 6, 7, 8, 9, 41, 42, 43, 44, 45, 46, 47, 48, 49, 50, 51, 52, 53, 54, 55, 56, 57, 58, 59, 60, 61, 62, 63, 64, 65, 66, 67, 68, 69, 70, 71, 72, 73, 74, 75] (by decide +kernel) (by decide +kernel)
set_option maxRecDepth 20000 in
theorem gX9_expect_X9_isSymbol : GoodIn wsX9_expect (wsV RX9 371 RX9 yX9_isSymbol wsX9_isSymbol) := goodIn_app (goodIn_of _ (by decide +kernel)) ggX9_expect_X9_isSymbol
set_option maxRecDepth 20000 in
theorem ggX9_expect_X9_check : GoodIn wsX9_expect wsX9_check := goodIn_r _ [13, 14, 15, 16, 4, 17, 6, 9, 18, 41, 42, 43, 44, 45, 46, 47, 48, 49, 50, 51, 52, 53, 54, 55, 56, 57, 58, 59, 60, 61, 62, 63, 64, 65, 66, 67, 68, 69, 70, 71, 72, 73, 74, 75] (by decide +kernel) (by decide +kernel)
set_option maxRecDepth 20000 in
theorem gX9_expect_X9_check : GoodIn wsX9_expect (wsV RX9 364 RX9 yX9_check wsX9_check) := goodIn_app (goodIn_of _ (by decide +kernel)) ggX9_expect_X9_check
set_option maxRecDepth 20000 in
theorem ggX9_expect_X9_advance : GoodIn wsX9_expect wsX9_advance := goodIn_r _ [22, 6, 23, 24, 25, 4, 26, 27, 9, 28, 7, 29, 30, 31, 32, 8, 33, 34, 35, 36, 37, 38, 39, 40, 41, 42, 43, 44, 45, 46, 47, 48, 49, 50, 51, 52, 53, 54, 55, 56, 57, 58, 59, 60, 61, 62, 63, 64, 65, 66, 67, 68, 69, 70, 71, 72, 73, 74, 75] (by decide +kernel) (by decide +kernel)
set_option maxRecDepth 20000 in
theorem gX9_expect_X9_advance : GoodIn wsX9_expect (wsV RX9 368 RX9 yX9_advance wsX9_advance) := goodIn_app (goodIn_of _ (by decide +kernel)) ggX9_expect_X9_advance
theorem dX9_expect_0 : decode cX9_expect 0 = .ok (.aload_n 0, 1) := by decide +kernel
theorem dX9_expect_1 : decode cX9_expect 1 = .ok (.aload_n 0, 1) := by decide +kernel
theorem dX9_expect_2 : decode cX9_expect 2 = .ok (.iload_n 1, 1) := by decide +kernel
theorem dX9_expect_3 : decode cX9_expect 3 = .ok (.invokevirtual 371, 3) := by decide +kernel
theorem dX9_expect_6 : decode cX9_expect 6 = .ok (.iconst 1, 1) := by decide +kernel
theorem dX9_expect_7 : decode cX9_expect 7 = .ok (.invokevirtual 364, 3) := by decide +kernel
theorem dX9_expect_10 : decode cX9_expect 10 = .ok (.aload_n 0, 1) := by decide +kernel
theorem dX9_expect_11 : decode cX9_expect 11 = .ok (.invokevirtual 368, 3) := by decide +kernel
theorem dX9_expect_14 : decode cX9_expect 14 = .ok (.return_, 1) := by decide +kernel
theorem dX9_value_0 : decode cX9_value 0 = .ok (.iconst 0, 1) := by decide +kernel
theorem dX9_value_1 : decode cX9_value 1 = .ok (.istore_n 1, 1) := by decide +kernel
theorem dX9_value_2 : decode cX9_value 2 = .ok (.aload_n 0, 1) := by decide +kernel
theorem dX9_value_3 : decode cX9_value 3 = .ok (.getfield 326, 3) := by decide +kernel
theorem dX9_value_6 : decode cX9_value 6 = .ok (.istore_n 2, 1) := by decide +kernel
theorem dX9_value_7 : decode cX9_value 7 = .ok (.iload_n 2, 1) := by decide +kernel
theorem dX9_value_8 : decode cX9_value 8 = .ok (.aload_n 0, 1) := by decide +kernel
theorem dX9_value_9 : decode cX9_value 9 = .ok (.getfield 323, 3) := by decide +kernel
theorem dX9_value_12 : decode cX9_value 12 = .ok (.if_icmp .ge 43, 3) := by decide +kernel
theorem dX9_value_15 : decode cX9_value 15 = .ok (.aload_n 0, 1) := by decide +kernel
theorem dX9_value_16 : decode cX9_value 16 = .ok (.getfield 329, 3) := by decide +kernel
theorem dX9_value_19 : decode cX9_value 19 = .ok (.iconst 2, 1) := by decide +kernel
theorem dX9_value_20 : decode cX9_value 20 = .ok (.if_icmp .ne 35, 3) := by decide +kernel
theorem dX9_value_23 : decode cX9_value 23 = .ok (.ldc2_w 374, 3) := by decide +kernel
theorem dX9_value_26 : decode cX9_value 26 = .ok (.ldc2_w 376, 3) := by decide +kernel
theorem dX9_value_29 : decode cX9_value 29 = .ok (.iload_n 1, 1) := by decide +kernel
theorem dX9_value_30 : decode cX9_value 30 = .ok (.i2l, 1) := by decide +kernel
theorem dX9_value_31 : decode cX9_value 31 = .ok (.lmul, 1) := by decide +kernel
theorem dX9_value_32 : decode cX9_value 32 = .ok (.aload_n 0, 1) := by decide +kernel
theorem dX9_value_33 : decode cX9_value 33 = .ok (.getfield 52, 3) := by decide +kernel
theorem dX9_value_36 : decode cX9_value 36 = .ok (.iload_n 2, 1) := by decide +kernel
theorem dX9_value_37 : decode cX9_value 37 = .ok (.iaload, 1) := by decide +kernel
theorem dX9_value_38 : decode cX9_value 38 = .ok (.i2l, 1) := by decide +kernel
theorem dX9_value_39 : decode cX9_value 39 = .ok (.ladd, 1) := by decide +kernel
theorem dX9_value_40 : decode cX9_value 40 = .ok (.ldc2_w 378, 3) := by decide +kernel
theorem dX9_value_43 : decode cX9_value 43 = .ok (.lsub, 1) := by decide +kernel
theorem dX9_value_44 : decode cX9_value 44 = .ok (.invokestatic 380, 3) := by decide +kernel
theorem dX9_value_47 : decode cX9_value 47 = .ok (.l2i, 1) := by decide +kernel
theorem dX9_value_48 : decode cX9_value 48 = .ok (.istore_n 1, 1) := by decide +kernel
theorem dX9_value_49 : decode cX9_value 49 = .ok (.iinc 2 1, 3) := by decide +kernel
theorem dX9_value_52 : decode cX9_value 52 = .ok (.goto (-45), 3) := by decide +kernel
theorem dX9_value_55 : decode cX9_value 55 = .ok (.iload_n 1, 1) := by decide +kernel
theorem dX9_value_56 : decode cX9_value 56 = .ok (.ireturn, 1) := by decide +kernel
set_option maxRecDepth 20000 in
theorem ggX9_readNumber_X9_check : GoodIn wsX9_readNumber wsX9_check := goodIn_r _ [7, 8, 9, 10, 6, 11, 1, 12, 13, 51, 52, 53, 54, 55, 56, 57, 58, 59, 60, 61, 62, 63, 64, 65, 66, 67, 68, 69, 70, 71, 72, 73, 74, 75, 76, 77, 78, 79, 80, 81, 82, 83, 84, 85] (by decide +kernel) (by decide +kernel)
set_option maxRecDepth 20000 in
theorem gX9_readNumber_X9_check : GoodIn wsX9_readNumber (wsV RX9 364 RX9 yX9_check wsX9_check) := goodIn_app (goodIn_of _ (by decide +kernel)) ggX9_readNumber_X9_check
set_option maxRecDepth 20000 in
theorem ggX9_readNumber_X9_value : GoodIn wsX9_readNumber wsX9_value := goodIn_r _ [17, 12, 18, 2, 19, 20, 21, 22, 23, 24, 25, 26, 51, 52, 53, 54, 55, 56, 57, 58, 59, 60, 61, 62, 63, 64, 65, 66, 67, 68, 69, 70, 71, 72, 73, 74, 75, 76, 77, 78, 79, 80, 81, 82, 83, 84, 85] (by decide +kernel) (by decide +kernel)
set_option maxRecDepth 20000 in
theorem gX9_readNumber_X9_value : GoodIn wsX9_readNumber (wsV RX9 384 RX9 yX9_value wsX9_value) := goodIn_app (goodIn_of _ (by decide +kernel)) ggX9_readNumber_X9_value
set_option maxRecDepth 20000 in
theorem ggX9_readNumber_X9_inRange : GoodIn wsX9_readNumber wsX9_inRange := goodIn_r _ [29] (by decide +kernel) (by decide +kernel)
set_option maxRecDepth 20000 in
theorem gX9_readNumber_X9_inRange : GoodIn wsX9_readNumber (va_wsS RX9 114 yX9_inRange wsX9_inRange) := goodIn_app (goodIn_of _ (by decide +kernel)) ggX9_readNumber_X9_inRange
set_option maxRecDepth 20000 in
theorem ggX9_readNumber_X9_advance : GoodIn wsX9_readNumber wsX9_advance := goodIn_r _ [33, 1, 34, 35, 36, 6, 37, 18, 12, 38, 2, 39, 40, 41, 42, 21, 43, 44, 45, 46, 47, 48, 49, 50, 51, 52, 53, 54, 55, 56, 57, 58, 59, 60, 61, 62, 63, 64, 65, 66, 67, 68, 69, 70, 71, 72, 73, 74, 75, 76, 77, 78, 79, 80, 81, 82, 83, 84, 85] (by decide +kernel) (by decide +kernel)
set_option maxRecDepth 20000 in
theorem gX9_readNumber_X9_advance : GoodIn wsX9_readNumber (wsV RX9 368 RX9 yX9_advance wsX9_advance) := goodIn_app (goodIn_of _ (by decide +kernel)) ggX9_readNumber_X9_advance
theorem dX9_readNumber_0 : decode cX9_readNumber 0 = .ok (.aload_n 0, 1) := by decide +kernel
theorem dX9_readNumber_1 : decode cX9_readNumber 1 = .ok (.aload_n 0, 1) := by decide +kernel
theorem dX9_readNumber_2 : decode cX9_readNumber 2 = .ok (.getfield 338, 3) := by decide +kernel
theorem dX9_readNumber_5 : decode cX9_readNumber 5 = .ok (.ifCond .ne 11, 3) := by decide +kernel
theorem dX9_readNumber_8 : decode cX9_readNumber 8 = .ok (.aload_n 0, 1) := by decide +kernel
theorem dX9_readNumber_9 : decode cX9_readNumber 9 = .ok (.getfield 329, 3) := by decide +kernel
theorem dX9_readNumber_12 : decode cX9_readNumber 12 = .ok (.iconst 2, 1) := by decide +kernel
theorem dX9_readNumber_13 : decode cX9_readNumber 13 = .ok (.if_icmp .ne 7, 3) := by decide +kernel
theorem dX9_readNumber_16 : decode cX9_readNumber 16 = .ok (.iconst 1, 1) := by decide +kernel
theorem dX9_readNumber_17 : decode cX9_readNumber 17 = .ok (.goto 4, 3) := by decide +kernel
theorem dX9_readNumber_20 : decode cX9_readNumber 20 = .ok (.iconst 0, 1) := by decide +kernel
theorem dX9_readNumber_21 : decode cX9_readNumber 21 = .ok (.iconst 1, 1) := by decide +kernel
theorem dX9_readNumber_22 : decode cX9_readNumber 22 = .ok (.invokevirtual 364, 3) := by decide +kernel
theorem dX9_readNumber_25 : decode cX9_readNumber 25 = .ok (.aload_n 0, 1) := by decide +kernel
theorem dX9_readNumber_26 : decode cX9_readNumber 26 = .ok (.invokevirtual 384, 3) := by decide +kernel
theorem dX9_readNumber_29 : decode cX9_readNumber 29 = .ok (.istore_n 3, 1) := by decide +kernel
theorem dX9_readNumber_30 : decode cX9_readNumber 30 = .ok (.aload_n 0, 1) := by decide +kernel
theorem dX9_readNumber_31 : decode cX9_readNumber 31 = .ok (.aload_n 0, 1) := by decide +kernel
theorem dX9_readNumber_32 : decode cX9_readNumber 32 = .ok (.getfield 338, 3) := by decide +kernel
theorem dX9_readNumber_35 : decode cX9_readNumber 35 = .ok (.ifCond .ne 12, 3) := by decide +kernel
theorem dX9_readNumber_38 : decode cX9_readNumber 38 = .ok (.iload_n 3, 1) := by decide +kernel
theorem dX9_readNumber_39 : decode cX9_readNumber 39 = .ok (.iload_n 1, 1) := by decide +kernel
theorem dX9_readNumber_40 : decode cX9_readNumber 40 = .ok (.iload_n 2, 1) := by decide +kernel
theorem dX9_readNumber_41 : decode cX9_readNumber 41 = .ok (.invokestatic 114, 3) := by decide +kernel
theorem dX9_readNumber_44 : decode cX9_readNumber 44 = .ok (.ifCond .eq 7, 3) := by decide +kernel
theorem dX9_readNumber_47 : decode cX9_readNumber 47 = .ok (.iconst 1, 1) := by decide +kernel
theorem dX9_readNumber_48 : decode cX9_readNumber 48 = .ok (.goto 4, 3) := by decide +kernel
theorem dX9_readNumber_51 : decode cX9_readNumber 51 = .ok (.iconst 0, 1) := by decide +kernel
theorem dX9_readNumber_52 : decode cX9_readNumber 52 = .ok (.iconst 2, 1) := by decide +kernel
theorem dX9_readNumber_53 : decode cX9_readNumber 53 = .ok (.invokevirtual 364, 3) := by decide +kernel
theorem dX9_readNumber_56 : decode cX9_readNumber 56 = .ok (.aload_n 0, 1) := by decide +kernel
theorem dX9_readNumber_57 : decode cX9_readNumber 57 = .ok (.invokevirtual 368, 3) := by decide +kernel
theorem dX9_readNumber_60 : decode cX9_readNumber 60 = .ok (.aload_n 0, 1) := by decide +kernel
theorem dX9_readNumber_61 : decode cX9_readNumber 61 = .ok (.getfield 338, 3) := by decide +kernel
theorem dX9_readNumber_64 : decode cX9_readNumber 64 = .ok (.ifCond .ne 7, 3) := by decide +kernel
theorem dX9_readNumber_67 : decode cX9_readNumber 67 = .ok (.iload_n 3, 1) := by decide +kernel
theorem dX9_readNumber_68 : decode cX9_readNumber 68 = .ok (.goto 4, 3) := by decide +kernel
theorem dX9_readNumber_71 : decode cX9_readNumber 71 = .ok (.iload_n 1, 1) := by decide +kernel
theorem dX9_readNumber_72 : decode cX9_readNumber 72 = .ok (.ireturn, 1) := by decide +kernel
set_option maxRecDepth 20000 in
theorem ggX9_readDoor_X9_check : GoodIn wsX9_readDoor wsX9_check := goodIn_r _ [8, 9, 10, 11, 7, 12, 2, 13, 14, 125, 126, 127, 128, 129, 130, 131, 132, 133, 134, 135, 136, 137, 138, 139, 140, 141, 142, 143, 144, 145, 146, 147, 148, 149, 150, 151, 152, 153, 154, 155, 156, 157, 158, 159] (by decide +kernel) (by decide +kernel)
set_option maxRecDepth 20000 in
theorem gX9_readDoor_X9_check : GoodIn wsX9_readDoor (wsV RX9 364 RX9 yX9_check wsX9_check) := goodIn_app (goodIn_of _ (by decide +kernel)) ggX9_readDoor_X9_check
set_option maxRecDepth 20000 in
theorem ggX9_readDoor_X9_advance : GoodIn wsX9_readDoor wsX9_advance := goodIn_r _ [18, 2, 19, 20, 21, 7, 22, 23, 13, 24, 3, 25, 26, 27, 28, 29, 30, 31, 32, 33, 34, 35, 36, 37, 125, 126, 127, 128, 129, 130, 131, 132, 133, 134, 135, 136, 137, 138, 139, 140, 141, 142, 143, 144, 145, 146, 147, 148, 149, 150, 151, 152, 153, 154, 155, 156, 157, 158, 159] (by decide +kernel) (by decide +kernel)
set_option maxRecDepth 20000 in
theorem gX9_readDoor_X9_advance : GoodIn wsX9_readDoor (wsV RX9 368 RX9 yX9_advance wsX9_advance) := goodIn_app (goodIn_of _ (by decide +kernel)) ggX9_readDoor_X9_advance
set_option maxRecDepth 20000 in
theorem ggX9_readDoor_X9_rooms : GoodIn wsX9_readDoor wsX9_rooms := goodIn_r _ [41, 42, 125, 126, 127, 128, 129, 130, 131, 132, 133, 134, 135, 136, 137, 138, 139, 140, 141, 142, 143, 144, 145, 146, 147, 148, 149, 150, 151, 152, 153, 154, 155, 156, 157, 158, 159] (by decide +kernel) (by decide +kernel)
set_option maxRecDepth 20000 in
theorem gX9_readDoor_X9_rooms : GoodIn wsX9_readDoor (wsV RX9 110 RX9 yX9_rooms wsX9_rooms) := goodIn_app (goodIn_of _ (by decide +kernel)) ggX9_readDoor_X9_rooms
set_option maxRecDepth 20000 in
theorem ggX9_readDoor_X9_readNumber : GoodIn wsX9_readDoor wsX9_readNumber := goodIn_r _ [46, 2, 3, 4, 5, 6, 7, 8, 9, 10, 11, 12, 13, 14, 47, 48, 49, 50, 23, 51, 52, 29, 53, 54, 55, 56, 57, 58, 59, 60, 15, 16, 17, 18, 19, 20, 21, 22, 24, 25, 26, 27, 28, 30, 31, 32, 33, 34, 35, 36, 37, 125, 126, 127, 128, 129, 130, 131, 132, 133, 134, 135, 136, 137, 138, 139, 140, 141, 142, 143, 144, 145, 146, 147, 148, 149, 150, 151, 152, 153, 154, 155, 156, 157, 158, 159] (by decide +kernel) (by decide +kernel)
set_option maxRecDepth 20000 in
theorem gX9_readDoor_X9_readNumber : GoodIn wsX9_readDoor (wsV RX9 387 RX9 yX9_readNumber wsX9_readNumber) := goodIn_app (goodIn_of _ (by decide +kernel)) ggX9_readDoor_X9_readNumber
set_option maxRecDepth 20000 in
theorem ggX9_readDoor_X9_value : GoodIn wsX9_readDoor wsX9_value := goodIn_r _ [50, 13, 23, 3, 51, 52, 29, 53, 54, 55, 56, 57, 125, 126, 127, 128, 129, 130, 131, 132, 133, 134, 135, 136, 137, 138, 139, 140, 141, 142, 143, 144, 145, 146, 147, 148, 149, 150, 151, 152, 153, 154, 155, 156, 157, 158, 159] (by decide +kernel) (by decide +kernel)
set_option maxRecDepth 20000 in
theorem gX9_readDoor_X9_value : GoodIn wsX9_readDoor (wsV RX9 384 RX9 yX9_value wsX9_value) := goodIn_app (goodIn_of _ (by decide +kernel)) ggX9_readDoor_X9_value
set_option maxRecDepth 20000 in
theorem ggX9_readDoor_X9_isRoom : GoodIn wsX9_readDoor wsX9_isRoom := goodIn_r _ [64, 38, 39, 40, 7, 41, 42, 58, 59, 60, 125, 126, 127, 128, 129, 130, 131, 132, 133, 134, 135, 136, 137, 138, 139, 140, 141, 142, 143, 144, 145, 146, 147, 148, 149, 150, 151, 152, 153, 154, 155, 156, 157, 158, 159] (by decide +kernel) (by decide +kernel)
set_option maxRecDepth 20000 in
theorem gX9_readDoor_X9_isRoom : GoodIn wsX9_readDoor (wsV RX9 246 RX9 yX9_isRoom wsX9_isRoom) := goodIn_app (goodIn_of _ (by decide +kernel)) ggX9_readDoor_X9_isRoom
set_option maxRecDepth 20000 in
theorem ggX9_readDoor_X9_accept : GoodIn wsX9_readDoor wsX9_accept := goodIn_r _ [68, 69, 70, 71, 7, 72, 2, 3, 23, 13, 29, 73, 74, 75, 76, 77, 78, 79, 80, 81, 82, 83, 84, 85, 86, 87, 88, 89, 90, 91, 92, 93, 94, 95, 96, 97, 98, 99, 100, 101, 102, 103, 104, 105, 106, 107, 108, 109, 110, 111, 112, 113, 114, 115, 116, 117, 118, 119, 120, 121, 19, 20, 21, 22, 24, 25, 26, 27, 28, 30, 31, 32, 33, 34, 35, 36, 37, 125, 126, 127, 128, 129, 130, 131, 132, 133, 134, 135, 136, 137, 138, 139, 140, 141, 142, 143, 144, 145, 146, 147, 148, 149, 150, 151, 152, 153, 154, 155, 156, 157, 158, 159] (by decide +kernel) (by decide +kernel)
set_option maxRecDepth 20000 in
theorem gX9_readDoor_X9_accept : GoodIn wsX9_readDoor (wsV RX9 392 RX9 yX9_accept wsX9_accept) := goodIn_app (goodIn_of _ (by decide +kernel)) ggX9_readDoor_X9_accept
set_option maxRecDepth 20000 in
theorem ggX9_readDoor_X9_doorAt : GoodIn wsX9_readDoor wsX9_doorAt := goodIn_r _ [124] (by decide +kernel) (by decide +kernel)
set_option maxRecDepth 20000 in
theorem gX9_readDoor_X9_doorAt : GoodIn wsX9_readDoor (va_wsS RX9 104 yX9_doorAt wsX9_doorAt) := goodIn_app (goodIn_of _ (by decide +kernel)) ggX9_readDoor_X9_doorAt
theorem dX9_readDoor_0 : decode cX9_readDoor 0 = .ok (.aload_n 0, 1) := by decide +kernel
theorem dX9_readDoor_1 : decode cX9_readDoor 1 = .ok (.aload_n 0, 1) := by decide +kernel
theorem dX9_readDoor_2 : decode cX9_readDoor 2 = .ok (.getfield 13, 3) := by decide +kernel
theorem dX9_readDoor_5 : decode cX9_readDoor 5 = .ok (.iconst 1, 1) := by decide +kernel
theorem dX9_readDoor_6 : decode cX9_readDoor 6 = .ok (.iaload, 1) := by decide +kernel
theorem dX9_readDoor_7 : decode cX9_readDoor 7 = .ok (.bipush 20, 2) := by decide +kernel
theorem dX9_readDoor_9 : decode cX9_readDoor 9 = .ok (.if_icmp .ge 7, 3) := by decide +kernel
theorem dX9_readDoor_12 : decode cX9_readDoor 12 = .ok (.iconst 1, 1) := by decide +kernel
theorem dX9_readDoor_13 : decode cX9_readDoor 13 = .ok (.goto 4, 3) := by decide +kernel
theorem dX9_readDoor_16 : decode cX9_readDoor 16 = .ok (.iconst 0, 1) := by decide +kernel
theorem dX9_readDoor_17 : decode cX9_readDoor 17 = .ok (.iconst 3, 1) := by decide +kernel
theorem dX9_readDoor_18 : decode cX9_readDoor 18 = .ok (.invokevirtual 364, 3) := by decide +kernel
theorem dX9_readDoor_21 : decode cX9_readDoor 21 = .ok (.aload_n 0, 1) := by decide +kernel
theorem dX9_readDoor_22 : decode cX9_readDoor 22 = .ok (.invokevirtual 368, 3) := by decide +kernel
theorem dX9_readDoor_25 : decode cX9_readDoor 25 = .ok (.aload_n 0, 1) := by decide +kernel
theorem dX9_readDoor_26 : decode cX9_readDoor 26 = .ok (.iconst 0, 1) := by decide +kernel
theorem dX9_readDoor_27 : decode cX9_readDoor 27 = .ok (.aload_n 0, 1) := by decide +kernel
theorem dX9_readDoor_28 : decode cX9_readDoor 28 = .ok (.invokevirtual 110, 3) := by decide +kernel
theorem dX9_readDoor_31 : decode cX9_readDoor 31 = .ok (.iconst 1, 1) := by decide +kernel
theorem dX9_readDoor_32 : decode cX9_readDoor 32 = .ok (.isub, 1) := by decide +kernel
theorem dX9_readDoor_33 : decode cX9_readDoor 33 = .ok (.invokevirtual 387, 3) := by decide +kernel
theorem dX9_readDoor_36 : decode cX9_readDoor 36 = .ok (.istore_n 1, 1) := by decide +kernel
theorem dX9_readDoor_37 : decode cX9_readDoor 37 = .ok (.aload_n 0, 1) := by decide +kernel
theorem dX9_readDoor_38 : decode cX9_readDoor 38 = .ok (.aload_n 0, 1) := by decide +kernel
theorem dX9_readDoor_39 : decode cX9_readDoor 39 = .ok (.getfield 338, 3) := by decide +kernel
theorem dX9_readDoor_42 : decode cX9_readDoor 42 = .ok (.ifCond .ne 11, 3) := by decide +kernel
theorem dX9_readDoor_45 : decode cX9_readDoor 45 = .ok (.aload_n 0, 1) := by decide +kernel
theorem dX9_readDoor_46 : decode cX9_readDoor 46 = .ok (.getfield 329, 3) := by decide +kernel
theorem dX9_readDoor_49 : decode cX9_readDoor 49 = .ok (.iconst 2, 1) := by decide +kernel
theorem dX9_readDoor_50 : decode cX9_readDoor 50 = .ok (.if_icmp .ne 7, 3) := by decide +kernel
theorem dX9_readDoor_53 : decode cX9_readDoor 53 = .ok (.iconst 1, 1) := by decide +kernel
theorem dX9_readDoor_54 : decode cX9_readDoor 54 = .ok (.goto 4, 3) := by decide +kernel
theorem dX9_readDoor_57 : decode cX9_readDoor 57 = .ok (.iconst 0, 1) := by decide +kernel
theorem dX9_readDoor_58 : decode cX9_readDoor 58 = .ok (.iconst 1, 1) := by decide +kernel
theorem dX9_readDoor_59 : decode cX9_readDoor 59 = .ok (.invokevirtual 364, 3) := by decide +kernel
theorem dX9_readDoor_62 : decode cX9_readDoor 62 = .ok (.aload_n 0, 1) := by decide +kernel
theorem dX9_readDoor_63 : decode cX9_readDoor 63 = .ok (.aload_n 0, 1) := by decide +kernel
theorem dX9_readDoor_64 : decode cX9_readDoor 64 = .ok (.getfield 338, 3) := by decide +kernel
theorem dX9_readDoor_67 : decode cX9_readDoor 67 = .ok (.ifCond .ne 14, 3) := by decide +kernel
theorem dX9_readDoor_70 : decode cX9_readDoor 70 = .ok (.aload_n 0, 1) := by decide +kernel
theorem dX9_readDoor_71 : decode cX9_readDoor 71 = .ok (.aload_n 0, 1) := by decide +kernel
theorem dX9_readDoor_72 : decode cX9_readDoor 72 = .ok (.invokevirtual 384, 3) := by decide +kernel
theorem dX9_readDoor_75 : decode cX9_readDoor 75 = .ok (.invokevirtual 246, 3) := by decide +kernel
theorem dX9_readDoor_78 : decode cX9_readDoor 78 = .ok (.ifCond .eq 7, 3) := by decide +kernel
theorem dX9_readDoor_81 : decode cX9_readDoor 81 = .ok (.iconst 1, 1) := by decide +kernel
theorem dX9_readDoor_82 : decode cX9_readDoor 82 = .ok (.goto 4, 3) := by decide +kernel
theorem dX9_readDoor_85 : decode cX9_readDoor 85 = .ok (.iconst 0, 1) := by decide +kernel
theorem dX9_readDoor_86 : decode cX9_readDoor 86 = .ok (.iconst 2, 1) := by decide +kernel
theorem dX9_readDoor_87 : decode cX9_readDoor 87 = .ok (.invokevirtual 364, 3) := by decide +kernel
theorem dX9_readDoor_90 : decode cX9_readDoor 90 = .ok (.aload_n 0, 1) := by decide +kernel
theorem dX9_readDoor_91 : decode cX9_readDoor 91 = .ok (.aload_n 0, 1) := by decide +kernel
theorem dX9_readDoor_92 : decode cX9_readDoor 92 = .ok (.getfield 338, 3) := by decide +kernel
theorem dX9_readDoor_95 : decode cX9_readDoor 95 = .ok (.ifCond .ne 11, 3) := by decide +kernel
theorem dX9_readDoor_98 : decode cX9_readDoor 98 = .ok (.aload_n 0, 1) := by decide +kernel
theorem dX9_readDoor_99 : decode cX9_readDoor 99 = .ok (.invokevirtual 384, 3) := by decide +kernel
theorem dX9_readDoor_102 : decode cX9_readDoor 102 = .ok (.iload_n 1, 1) := by decide +kernel
theorem dX9_readDoor_103 : decode cX9_readDoor 103 = .ok (.if_icmp .eq 7, 3) := by decide +kernel
theorem dX9_readDoor_106 : decode cX9_readDoor 106 = .ok (.iconst 1, 1) := by decide +kernel
theorem dX9_readDoor_107 : decode cX9_readDoor 107 = .ok (.goto 4, 3) := by decide +kernel
theorem dX9_readDoor_110 : decode cX9_readDoor 110 = .ok (.iconst 0, 1) := by decide +kernel
theorem dX9_readDoor_111 : decode cX9_readDoor 111 = .ok (.iconst 4, 1) := by decide +kernel
theorem dX9_readDoor_112 : decode cX9_readDoor 112 = .ok (.invokevirtual 364, 3) := by decide +kernel
theorem dX9_readDoor_115 : decode cX9_readDoor 115 = .ok (.aload_n 0, 1) := by decide +kernel
theorem dX9_readDoor_116 : decode cX9_readDoor 116 = .ok (.invokevirtual 384, 3) := by decide +kernel
theorem dX9_readDoor_119 : decode cX9_readDoor 119 = .ok (.istore_n 2, 1) := by decide +kernel
theorem dX9_readDoor_120 : decode cX9_readDoor 120 = .ok (.aload_n 0, 1) := by decide +kernel
theorem dX9_readDoor_121 : decode cX9_readDoor 121 = .ok (.invokevirtual 368, 3) := by decide +kernel
theorem dX9_readDoor_124 : decode cX9_readDoor 124 = .ok (.aload_n 0, 1) := by decide +kernel
theorem dX9_readDoor_125 : decode cX9_readDoor 125 = .ok (.ldc_w 390, 3) := by decide +kernel
theorem dX9_readDoor_128 : decode cX9_readDoor 128 = .ok (.invokevirtual 392, 3) := by decide +kernel
theorem dX9_readDoor_131 : decode cX9_readDoor 131 = .ok (.ifCond .eq 7, 3) := by decide +kernel
theorem dX9_readDoor_134 : decode cX9_readDoor 134 = .ok (.iconst 0, 1) := by decide +kernel
theorem dX9_readDoor_135 : decode cX9_readDoor 135 = .ok (.goto 4, 3) := by decide +kernel
theorem dX9_readDoor_138 : decode cX9_readDoor 138 = .ok (.iconst 1, 1) := by decide +kernel
theorem dX9_readDoor_139 : decode cX9_readDoor 139 = .ok (.istore_n 3, 1) := by decide +kernel
theorem dX9_readDoor_140 : decode cX9_readDoor 140 = .ok (.aload_n 0, 1) := by decide +kernel
theorem dX9_readDoor_141 : decode cX9_readDoor 141 = .ok (.getfield 338, 3) := by decide +kernel
theorem dX9_readDoor_144 : decode cX9_readDoor 144 = .ok (.ifCond .ne 57, 3) := by decide +kernel
theorem dX9_readDoor_147 : decode cX9_readDoor 147 = .ok (.aload_n 0, 1) := by decide +kernel
theorem dX9_readDoor_148 : decode cX9_readDoor 148 = .ok (.getfield 13, 3) := by decide +kernel
theorem dX9_readDoor_151 : decode cX9_readDoor 151 = .ok (.iconst 1, 1) := by decide +kernel
theorem dX9_readDoor_152 : decode cX9_readDoor 152 = .ok (.iaload, 1) := by decide +kernel
theorem dX9_readDoor_153 : decode cX9_readDoor 153 = .ok (.istore 4, 2) := by decide +kernel
theorem dX9_readDoor_155 : decode cX9_readDoor 155 = .ok (.aload_n 0, 1) := by decide +kernel
theorem dX9_readDoor_156 : decode cX9_readDoor 156 = .ok (.getfield 13, 3) := by decide +kernel
theorem dX9_readDoor_159 : decode cX9_readDoor 159 = .ok (.iload 4, 2) := by decide +kernel
theorem dX9_readDoor_161 : decode cX9_readDoor 161 = .ok (.iconst 0, 1) := by decide +kernel
theorem dX9_readDoor_162 : decode cX9_readDoor 162 = .ok (.invokestatic 104, 3) := by decide +kernel
theorem dX9_readDoor_165 : decode cX9_readDoor 165 = .ok (.iload_n 1, 1) := by decide +kernel
theorem dX9_readDoor_166 : decode cX9_readDoor 166 = .ok (.iastore, 1) := by decide +kernel
theorem dX9_readDoor_167 : decode cX9_readDoor 167 = .ok (.aload_n 0, 1) := by decide +kernel
theorem dX9_readDoor_168 : decode cX9_readDoor 168 = .ok (.getfield 13, 3) := by decide +kernel
theorem dX9_readDoor_171 : decode cX9_readDoor 171 = .ok (.iload 4, 2) := by decide +kernel
theorem dX9_readDoor_173 : decode cX9_readDoor 173 = .ok (.iconst 1, 1) := by decide +kernel
theorem dX9_readDoor_174 : decode cX9_readDoor 174 = .ok (.invokestatic 104, 3) := by decide +kernel
theorem dX9_readDoor_177 : decode cX9_readDoor 177 = .ok (.iload_n 2, 1) := by decide +kernel
theorem dX9_readDoor_178 : decode cX9_readDoor 178 = .ok (.iastore, 1) := by decide +kernel
theorem dX9_readDoor_179 : decode cX9_readDoor 179 = .ok (.aload_n 0, 1) := by decide +kernel
theorem dX9_readDoor_180 : decode cX9_readDoor 180 = .ok (.getfield 13, 3) := by decide +kernel
theorem dX9_readDoor_183 : decode cX9_readDoor 183 = .ok (.iload 4, 2) := by decide +kernel
theorem dX9_readDoor_185 : decode cX9_readDoor 185 = .ok (.iconst 2, 1) := by decide +kernel
theorem dX9_readDoor_186 : decode cX9_readDoor 186 = .ok (.invokestatic 104, 3) := by decide +kernel
theorem dX9_readDoor_189 : decode cX9_readDoor 189 = .ok (.iload_n 3, 1) := by decide +kernel
theorem dX9_readDoor_190 : decode cX9_readDoor 190 = .ok (.iastore, 1) := by decide +kernel
theorem dX9_readDoor_191 : decode cX9_readDoor 191 = .ok (.aload_n 0, 1) := by decide +kernel
theorem dX9_readDoor_192 : decode cX9_readDoor 192 = .ok (.getfield 13, 3) := by decide +kernel
theorem dX9_readDoor_195 : decode cX9_readDoor 195 = .ok (.iconst 1, 1) := by decide +kernel
theorem dX9_readDoor_196 : decode cX9_readDoor 196 = .ok (.dup2, 1) := by decide +kernel
theorem dX9_readDoor_197 : decode cX9_readDoor 197 = .ok (.iaload, 1) := by decide +kernel
theorem dX9_readDoor_198 : decode cX9_readDoor 198 = .ok (.iconst 1, 1) := by decide +kernel
theorem dX9_readDoor_199 : decode cX9_readDoor 199 = .ok (.iadd, 1) := by decide +kernel
theorem dX9_readDoor_200 : decode cX9_readDoor 200 = .ok (.iastore, 1) := by decide +kernel
theorem dX9_readDoor_201 : decode cX9_readDoor 201 = .ok (.return_, 1) := by decide +kernel
set_option maxRecDepth 20000 in
theorem ggX9_isStep_X9_openBetween : GoodIn wsX9_isStep wsX9_openBetween := goodIn_r _ [5, 6, 7, 8, 9, 4, 10, 11, 12, 13, 14, 15, 16, 17, 18, 19, 20, 21, 22, 23, 24, 25, 26, 27, 28, 29, 30, 31, 32, 33, 34, 35, 36, 37, 38, 39, 40, 41, 42, 43, 44, 45, 46, 47, 48, 49, 50, 51, 52] (by decide +kernel) (by decide +kernel)
set_option maxRecDepth 20000 in
theorem gX9_isStep_X9_openBetween : GoodIn wsX9_isStep (wsV RX9 265 RX9 yX9_openBetween wsX9_openBetween) := goodIn_app (goodIn_of _ (by decide +kernel)) ggX9_isStep_X9_openBetween
theorem dX9_isStep_0 : decode cX9_isStep 0 = .ok (.iload_n 1, 1) := by decide +kernel
theorem dX9_isStep_1 : decode cX9_isStep 1 = .ok (.iload_n 2, 1) := by decide +kernel
theorem dX9_isStep_2 : decode cX9_isStep 2 = .ok (.if_icmp .eq 12, 3) := by decide +kernel
theorem dX9_isStep_5 : decode cX9_isStep 5 = .ok (.aload_n 0, 1) := by decide +kernel
theorem dX9_isStep_6 : decode cX9_isStep 6 = .ok (.iload_n 1, 1) := by decide +kernel
theorem dX9_isStep_7 : decode cX9_isStep 7 = .ok (.iload_n 2, 1) := by decide +kernel
theorem dX9_isStep_8 : decode cX9_isStep 8 = .ok (.invokevirtual 265, 3) := by decide +kernel
theorem dX9_isStep_11 : decode cX9_isStep 11 = .ok (.ifCond .le 7, 3) := by decide +kernel
theorem dX9_isStep_14 : decode cX9_isStep 14 = .ok (.iconst 1, 1) := by decide +kernel
theorem dX9_isStep_15 : decode cX9_isStep 15 = .ok (.goto 4, 3) := by decide +kernel
theorem dX9_isStep_18 : decode cX9_isStep 18 = .ok (.iconst 0, 1) := by decide +kernel
theorem dX9_isStep_19 : decode cX9_isStep 19 = .ok (.ireturn, 1) := by decide +kernel
set_option maxRecDepth 20000 in
theorem ggX9_readStep_X9_guardAt : GoodIn wsX9_readStep wsX9_guardAt := goodIn_r _ [7] (by decide +kernel) (by decide +kernel)
set_option maxRecDepth 20000 in
theorem gX9_readStep_X9_guardAt : GoodIn wsX9_readStep (va_wsS RX9 107 yX9_guardAt wsX9_guardAt) := goodIn_app (goodIn_of _ (by decide +kernel)) ggX9_readStep_X9_guardAt
set_option maxRecDepth 20000 in
theorem ggX9_readStep_X9_check : GoodIn wsX9_readStep wsX9_check := goodIn_r _ [11, 12, 13, 14, 6, 15, 2, 16, 17, 87, 88, 89, 90, 91, 92, 93, 94, 95, 96, 97, 98, 99, 100, 101, 102, 103, 104, 105, 106, 107, 108, 109, 110, 111, 112, 113, 114, 115, 116, 117, 118, 119, 120, 121] (by decide +kernel) (by decide +kernel)
set_option maxRecDepth 20000 in
theorem gX9_readStep_X9_check : GoodIn wsX9_readStep (wsV RX9 364 RX9 yX9_check wsX9_check) := goodIn_app (goodIn_of _ (by decide +kernel)) ggX9_readStep_X9_check
set_option maxRecDepth 20000 in
theorem ggX9_readStep_X9_value : GoodIn wsX9_readStep wsX9_value := goodIn_r _ [21, 16, 22, 3, 23, 24, 25, 26, 27, 28, 29, 30, 87, 88, 89, 90, 91, 92, 93, 94, 95, 96, 97, 98, 99, 100, 101, 102, 103, 104, 105, 106, 107, 108, 109, 110, 111, 112, 113, 114, 115, 116, 117, 118, 119, 120, 121] (by decide +kernel) (by decide +kernel)
set_option maxRecDepth 20000 in
theorem gX9_readStep_X9_value : GoodIn wsX9_readStep (wsV RX9 384 RX9 yX9_value wsX9_value) := goodIn_app (goodIn_of _ (by decide +kernel)) ggX9_readStep_X9_value
set_option maxRecDepth 20000 in
theorem ggX9_readStep_X9_isRoom : GoodIn wsX9_readStep wsX9_isRoom := goodIn_r _ [34, 35, 36, 37, 6, 38, 39, 40, 41, 42, 87, 88, 89, 90, 91, 92, 93, 94, 95, 96, 97, 98, 99, 100, 101, 102, 103, 104, 105, 106, 107, 108, 109, 110, 111, 112, 113, 114, 115, 116, 117, 118, 119, 120, 121] (by decide +kernel) (by decide +kernel)
set_option maxRecDepth 20000 in
theorem gX9_readStep_X9_isRoom : GoodIn wsX9_readStep (wsV RX9 246 RX9 yX9_isRoom wsX9_isRoom) := goodIn_app (goodIn_of _ (by decide +kernel)) ggX9_readStep_X9_isRoom
set_option maxRecDepth 20000 in
theorem ggX9_readStep_X9_step : GoodIn wsX9_readStep wsX9_step := goodIn_r _ [46, 39, 4, 5, 6, 7, 87, 88, 89, 90, 91, 92, 93, 94, 95, 96, 97, 98, 99, 100, 101, 102, 103, 104, 105, 106, 107, 108, 109, 110, 111, 112, 113, 114, 115, 116, 117, 118, 119, 120, 121] (by decide +kernel) (by decide +kernel)
set_option maxRecDepth 20000 in
theorem gX9_readStep_X9_step : GoodIn wsX9_readStep (wsV RX9 130 RX9 yX9_step wsX9_step) := goodIn_app (goodIn_of _ (by decide +kernel)) ggX9_readStep_X9_step
set_option maxRecDepth 20000 in
theorem ggX9_readStep_X9_isStep : GoodIn wsX9_readStep wsX9_isStep := goodIn_r _ [50, 51, 52, 53, 6, 54, 39, 55, 56, 57, 58, 59, 60, 61, 62, 63, 64, 65, 87, 88, 89, 90, 91, 92, 93, 94, 95, 96, 97, 98, 99, 100, 101, 102, 103, 104, 105, 106, 107, 108, 109, 110, 111, 112, 113, 114, 115, 116, 117, 118, 119, 120, 121] (by decide +kernel) (by decide +kernel)
set_option maxRecDepth 20000 in
theorem gX9_readStep_X9_isStep : GoodIn wsX9_readStep (wsV RX9 395 RX9 yX9_isStep wsX9_isStep) := goodIn_app (goodIn_of _ (by decide +kernel)) ggX9_readStep_X9_isStep
set_option maxRecDepth 20000 in
theorem ggX9_readStep_X9_advance : GoodIn wsX9_readStep wsX9_advance := goodIn_r _ [69, 2, 70, 71, 72, 6, 73, 22, 16, 74, 3, 75, 76, 77, 78, 25, 79, 80, 81, 82, 83, 84, 85, 86, 87, 88, 89, 90, 91, 92, 93, 94, 95, 96, 97, 98, 99, 100, 101, 102, 103, 104, 105, 106, 107, 108, 109, 110, 111, 112, 113, 114, 115, 116, 117, 118, 119, 120, 121] (by decide +kernel) (by decide +kernel)
set_option maxRecDepth 20000 in
theorem gX9_readStep_X9_advance : GoodIn wsX9_readStep (wsV RX9 368 RX9 yX9_advance wsX9_advance) := goodIn_app (goodIn_of _ (by decide +kernel)) ggX9_readStep_X9_advance
theorem dX9_readStep_0 : decode cX9_readStep 0 = .ok (.aload_n 0, 1) := by decide +kernel
theorem dX9_readStep_1 : decode cX9_readStep 1 = .ok (.getfield 13, 3) := by decide +kernel
theorem dX9_readStep_4 : decode cX9_readStep 4 = .ok (.iload_n 1, 1) := by decide +kernel
theorem dX9_readStep_5 : decode cX9_readStep 5 = .ok (.iconst 0, 1) := by decide +kernel
theorem dX9_readStep_6 : decode cX9_readStep 6 = .ok (.invokestatic 107, 3) := by decide +kernel
theorem dX9_readStep_9 : decode cX9_readStep 9 = .ok (.iaload, 1) := by decide +kernel
theorem dX9_readStep_10 : decode cX9_readStep 10 = .ok (.istore_n 2, 1) := by decide +kernel
theorem dX9_readStep_11 : decode cX9_readStep 11 = .ok (.aload_n 0, 1) := by decide +kernel
theorem dX9_readStep_12 : decode cX9_readStep 12 = .ok (.aload_n 0, 1) := by decide +kernel
theorem dX9_readStep_13 : decode cX9_readStep 13 = .ok (.getfield 338, 3) := by decide +kernel
theorem dX9_readStep_16 : decode cX9_readStep 16 = .ok (.ifCond .ne 11, 3) := by decide +kernel
theorem dX9_readStep_19 : decode cX9_readStep 19 = .ok (.aload_n 0, 1) := by decide +kernel
theorem dX9_readStep_20 : decode cX9_readStep 20 = .ok (.getfield 329, 3) := by decide +kernel
theorem dX9_readStep_23 : decode cX9_readStep 23 = .ok (.iconst 2, 1) := by decide +kernel
theorem dX9_readStep_24 : decode cX9_readStep 24 = .ok (.if_icmp .ne 7, 3) := by decide +kernel
theorem dX9_readStep_27 : decode cX9_readStep 27 = .ok (.iconst 1, 1) := by decide +kernel
theorem dX9_readStep_28 : decode cX9_readStep 28 = .ok (.goto 4, 3) := by decide +kernel
theorem dX9_readStep_31 : decode cX9_readStep 31 = .ok (.iconst 0, 1) := by decide +kernel
theorem dX9_readStep_32 : decode cX9_readStep 32 = .ok (.iconst 1, 1) := by decide +kernel
theorem dX9_readStep_33 : decode cX9_readStep 33 = .ok (.invokevirtual 364, 3) := by decide +kernel
theorem dX9_readStep_36 : decode cX9_readStep 36 = .ok (.aload_n 0, 1) := by decide +kernel
theorem dX9_readStep_37 : decode cX9_readStep 37 = .ok (.aload_n 0, 1) := by decide +kernel
theorem dX9_readStep_38 : decode cX9_readStep 38 = .ok (.getfield 338, 3) := by decide +kernel
theorem dX9_readStep_41 : decode cX9_readStep 41 = .ok (.ifCond .ne 14, 3) := by decide +kernel
theorem dX9_readStep_44 : decode cX9_readStep 44 = .ok (.aload_n 0, 1) := by decide +kernel
theorem dX9_readStep_45 : decode cX9_readStep 45 = .ok (.aload_n 0, 1) := by decide +kernel
theorem dX9_readStep_46 : decode cX9_readStep 46 = .ok (.invokevirtual 384, 3) := by decide +kernel
theorem dX9_readStep_49 : decode cX9_readStep 49 = .ok (.invokevirtual 246, 3) := by decide +kernel
theorem dX9_readStep_52 : decode cX9_readStep 52 = .ok (.ifCond .eq 7, 3) := by decide +kernel
theorem dX9_readStep_55 : decode cX9_readStep 55 = .ok (.iconst 1, 1) := by decide +kernel
theorem dX9_readStep_56 : decode cX9_readStep 56 = .ok (.goto 4, 3) := by decide +kernel
theorem dX9_readStep_59 : decode cX9_readStep 59 = .ok (.iconst 0, 1) := by decide +kernel
theorem dX9_readStep_60 : decode cX9_readStep 60 = .ok (.iconst 2, 1) := by decide +kernel
theorem dX9_readStep_61 : decode cX9_readStep 61 = .ok (.invokevirtual 364, 3) := by decide +kernel
theorem dX9_readStep_64 : decode cX9_readStep 64 = .ok (.aload_n 0, 1) := by decide +kernel
theorem dX9_readStep_65 : decode cX9_readStep 65 = .ok (.aload_n 0, 1) := by decide +kernel
theorem dX9_readStep_66 : decode cX9_readStep 66 = .ok (.getfield 338, 3) := by decide +kernel
theorem dX9_readStep_69 : decode cX9_readStep 69 = .ok (.ifCond .ne 9, 3) := by decide +kernel
theorem dX9_readStep_72 : decode cX9_readStep 72 = .ok (.iload_n 2, 1) := by decide +kernel
theorem dX9_readStep_73 : decode cX9_readStep 73 = .ok (.bipush 10, 2) := by decide +kernel
theorem dX9_readStep_75 : decode cX9_readStep 75 = .ok (.if_icmp .ge 7, 3) := by decide +kernel
theorem dX9_readStep_78 : decode cX9_readStep 78 = .ok (.iconst 1, 1) := by decide +kernel
theorem dX9_readStep_79 : decode cX9_readStep 79 = .ok (.goto 4, 3) := by decide +kernel
theorem dX9_readStep_82 : decode cX9_readStep 82 = .ok (.iconst 0, 1) := by decide +kernel
theorem dX9_readStep_83 : decode cX9_readStep 83 = .ok (.iconst 3, 1) := by decide +kernel
theorem dX9_readStep_84 : decode cX9_readStep 84 = .ok (.invokevirtual 364, 3) := by decide +kernel
theorem dX9_readStep_87 : decode cX9_readStep 87 = .ok (.aload_n 0, 1) := by decide +kernel
theorem dX9_readStep_88 : decode cX9_readStep 88 = .ok (.aload_n 0, 1) := by decide +kernel
theorem dX9_readStep_89 : decode cX9_readStep 89 = .ok (.getfield 338, 3) := by decide +kernel
theorem dX9_readStep_92 : decode cX9_readStep 92 = .ok (.ifCond .ne 26, 3) := by decide +kernel
theorem dX9_readStep_95 : decode cX9_readStep 95 = .ok (.iload_n 2, 1) := by decide +kernel
theorem dX9_readStep_96 : decode cX9_readStep 96 = .ok (.ifCond .eq 22, 3) := by decide +kernel
theorem dX9_readStep_99 : decode cX9_readStep 99 = .ok (.aload_n 0, 1) := by decide +kernel
theorem dX9_readStep_100 : decode cX9_readStep 100 = .ok (.aload_n 0, 1) := by decide +kernel
theorem dX9_readStep_101 : decode cX9_readStep 101 = .ok (.iload_n 1, 1) := by decide +kernel
theorem dX9_readStep_102 : decode cX9_readStep 102 = .ok (.iload_n 2, 1) := by decide +kernel
theorem dX9_readStep_103 : decode cX9_readStep 103 = .ok (.iconst 1, 1) := by decide +kernel
theorem dX9_readStep_104 : decode cX9_readStep 104 = .ok (.isub, 1) := by decide +kernel
theorem dX9_readStep_105 : decode cX9_readStep 105 = .ok (.invokevirtual 130, 3) := by decide +kernel
theorem dX9_readStep_108 : decode cX9_readStep 108 = .ok (.aload_n 0, 1) := by decide +kernel
theorem dX9_readStep_109 : decode cX9_readStep 109 = .ok (.invokevirtual 384, 3) := by decide +kernel
theorem dX9_readStep_112 : decode cX9_readStep 112 = .ok (.invokevirtual 395, 3) := by decide +kernel
theorem dX9_readStep_115 : decode cX9_readStep 115 = .ok (.ifCond .eq 7, 3) := by decide +kernel
theorem dX9_readStep_118 : decode cX9_readStep 118 = .ok (.iconst 1, 1) := by decide +kernel
theorem dX9_readStep_119 : decode cX9_readStep 119 = .ok (.goto 4, 3) := by decide +kernel
theorem dX9_readStep_122 : decode cX9_readStep 122 = .ok (.iconst 0, 1) := by decide +kernel
theorem dX9_readStep_123 : decode cX9_readStep 123 = .ok (.iconst 4, 1) := by decide +kernel
theorem dX9_readStep_124 : decode cX9_readStep 124 = .ok (.invokevirtual 364, 3) := by decide +kernel
theorem dX9_readStep_127 : decode cX9_readStep 127 = .ok (.aload_n 0, 1) := by decide +kernel
theorem dX9_readStep_128 : decode cX9_readStep 128 = .ok (.getfield 338, 3) := by decide +kernel
theorem dX9_readStep_131 : decode cX9_readStep 131 = .ok (.ifCond .ne 33, 3) := by decide +kernel
theorem dX9_readStep_134 : decode cX9_readStep 134 = .ok (.aload_n 0, 1) := by decide +kernel
theorem dX9_readStep_135 : decode cX9_readStep 135 = .ok (.getfield 13, 3) := by decide +kernel
theorem dX9_readStep_138 : decode cX9_readStep 138 = .ok (.iload_n 1, 1) := by decide +kernel
theorem dX9_readStep_139 : decode cX9_readStep 139 = .ok (.iconst 2, 1) := by decide +kernel
theorem dX9_readStep_140 : decode cX9_readStep 140 = .ok (.iload_n 2, 1) := by decide +kernel
theorem dX9_readStep_141 : decode cX9_readStep 141 = .ok (.iadd, 1) := by decide +kernel
theorem dX9_readStep_142 : decode cX9_readStep 142 = .ok (.invokestatic 107, 3) := by decide +kernel
theorem dX9_readStep_145 : decode cX9_readStep 145 = .ok (.aload_n 0, 1) := by decide +kernel
theorem dX9_readStep_146 : decode cX9_readStep 146 = .ok (.invokevirtual 384, 3) := by decide +kernel
theorem dX9_readStep_149 : decode cX9_readStep 149 = .ok (.iastore, 1) := by decide +kernel
theorem dX9_readStep_150 : decode cX9_readStep 150 = .ok (.aload_n 0, 1) := by decide +kernel
theorem dX9_readStep_151 : decode cX9_readStep 151 = .ok (.getfield 13, 3) := by decide +kernel
theorem dX9_readStep_154 : decode cX9_readStep 154 = .ok (.iload_n 1, 1) := by decide +kernel
theorem dX9_readStep_155 : decode cX9_readStep 155 = .ok (.iconst 0, 1) := by decide +kernel
theorem dX9_readStep_156 : decode cX9_readStep 156 = .ok (.invokestatic 107, 3) := by decide +kernel
theorem dX9_readStep_159 : decode cX9_readStep 159 = .ok (.dup2, 1) := by decide +kernel
theorem dX9_readStep_160 : decode cX9_readStep 160 = .ok (.iaload, 1) := by decide +kernel
theorem dX9_readStep_161 : decode cX9_readStep 161 = .ok (.iconst 1, 1) := by decide +kernel
theorem dX9_readStep_162 : decode cX9_readStep 162 = .ok (.iadd, 1) := by decide +kernel
theorem dX9_readStep_163 : decode cX9_readStep 163 = .ok (.iastore, 1) := by decide +kernel
theorem dX9_readStep_164 : decode cX9_readStep 164 = .ok (.aload_n 0, 1) := by decide +kernel
theorem dX9_readStep_165 : decode cX9_readStep 165 = .ok (.invokevirtual 368, 3) := by decide +kernel
theorem dX9_readStep_168 : decode cX9_readStep 168 = .ok (.return_, 1) := by decide +kernel
set_option maxRecDepth 20000 in
theorem ggX9_readWalk_X9_guardAt : GoodIn wsX9_readWalk wsX9_guardAt := goodIn_r _ [7] (by decide +kernel) (by decide +kernel)
set_option maxRecDepth 20000 in
theorem gX9_readWalk_X9_guardAt : GoodIn wsX9_readWalk (va_wsS RX9 107 yX9_guardAt wsX9_guardAt) := goodIn_app (goodIn_of _ (by decide +kernel)) ggX9_readWalk_X9_guardAt
set_option maxRecDepth 20000 in
theorem ggX9_readWalk_X9_readStep : GoodIn wsX9_readWalk wsX9_readStep := goodIn_r _ [11, 1, 2, 3, 4, 5, 6, 7, 12, 13, 14, 15, 16, 17, 18, 19, 20, 21, 22, 23, 24, 25, 26, 27, 28, 29, 30, 31, 32, 33, 34, 35, 36, 37, 38, 39, 40, 41, 42, 43, 44, 45, 46, 47, 48, 49, 50, 51, 52, 53, 54, 55, 56, 57, 58, 59, 60, 61, 62, 63, 64, 65, 66, 67, 68, 69, 70, 71, 72, 73, 74, 75, 76, 77, 78, 79, 80, 81, 82, 83, 84, 85, 86, 87, 88, 89, 90, 156, 157, 158, 159, 160, 161, 162, 163, 164, 165, 166, 167, 168, 169, 170, 171, 172, 173, 174, 175, 176, 177, 178, 179, 180, 181, 182, 183, 184, 185, 186, 187, 188, 189, 190] (by decide +kernel) (by decide +kernel)
set_option maxRecDepth 20000 in
theorem gX9_readWalk_X9_readStep : GoodIn wsX9_readWalk (wsV RX9 398 RX9 yX9_readStep wsX9_readStep) := goodIn_app (goodIn_of _ (by decide +kernel)) ggX9_readWalk_X9_readStep
set_option maxRecDepth 20000 in
theorem ggX9_readWalk_X9_isWord : GoodIn wsX9_readWalk wsX9_isWord := goodIn_r _ [94, 2, 3, 26, 20, 29, 95, 96, 97, 98, 99, 100, 101, 102, 103, 104, 105, 106, 107, 108, 109, 110, 111, 112, 113, 114, 115, 116, 117, 118, 119, 120, 121, 122, 123, 124, 125, 126, 127, 128, 129, 130, 131, 132, 133, 134, 135, 136, 137, 138, 139, 140, 141, 142, 143, 156, 157, 158, 159, 160, 161, 162, 163, 164, 165, 166, 167, 168, 169, 170, 171, 172, 173, 174, 175, 176, 177, 178, 179, 180, 181, 182, 183, 184, 185, 186, 187, 188, 189, 190] (by decide +kernel) (by decide +kernel)
set_option maxRecDepth 20000 in
theorem gX9_readWalk_X9_isWord : GoodIn wsX9_readWalk (wsV RX9 360 RX9 yX9_isWord wsX9_isWord) := goodIn_app (goodIn_of _ (by decide +kernel)) ggX9_readWalk_X9_isWord
set_option maxRecDepth 20000 in
theorem ggX9_readWalk_X9_isSymbol : GoodIn wsX9_readWalk wsX9_isSymbol := goodIn_r _ [147, 2, 3, 29, 20, 156, 157, 158, 159, 160, 161, 162, 163, 164, 165, 166, 167, 168, 169, 170, 171, 172, 173, 174, 175, 176, 177, 178, 179, 180, 181, 182, 183, 184, 185, 186, 187, 188, 189, 190] (by decide +kernel) (by decide +kernel)
set_option maxRecDepth 20000 in
theorem gX9_readWalk_X9_isSymbol : GoodIn wsX9_readWalk (wsV RX9 371 RX9 yX9_isSymbol wsX9_isSymbol) := goodIn_app (goodIn_of _ (by decide +kernel)) ggX9_readWalk_X9_isSymbol
set_option maxRecDepth 20000 in
theorem ggX9_readWalk_X9_check : GoodIn wsX9_readWalk wsX9_check := goodIn_r _ [15, 16, 17, 18, 6, 19, 2, 20, 21, 156, 157, 158, 159, 160, 161, 162, 163, 164, 165, 166, 167, 168, 169, 170, 171, 172, 173, 174, 175, 176, 177, 178, 179, 180, 181, 182, 183, 184, 185, 186, 187, 188, 189, 190] (by decide +kernel) (by decide +kernel)
set_option maxRecDepth 20000 in
theorem gX9_readWalk_X9_check : GoodIn wsX9_readWalk (wsV RX9 364 RX9 yX9_check wsX9_check) := goodIn_app (goodIn_of _ (by decide +kernel)) ggX9_readWalk_X9_check
set_option maxRecDepth 20000 in
theorem ggX9_readWalk_X9_step : GoodIn wsX9_readWalk wsX9_step := goodIn_r _ [50, 43, 4, 5, 6, 7, 156, 157, 158, 159, 160, 161, 162, 163, 164, 165, 166, 167, 168, 169, 170, 171, 172, 173, 174, 175, 176, 177, 178, 179, 180, 181, 182, 183, 184, 185, 186, 187, 188, 189, 190] (by decide +kernel) (by decide +kernel)
set_option maxRecDepth 20000 in
theorem gX9_readWalk_X9_step : GoodIn wsX9_readWalk (wsV RX9 130 RX9 yX9_step wsX9_step) := goodIn_app (goodIn_of _ (by decide +kernel)) ggX9_readWalk_X9_step
set_option maxRecDepth 20000 in
theorem ggX9_readWalk_X9_isStep : GoodIn wsX9_readWalk wsX9_isStep := goodIn_r _ [54, 55, 56, 57, 6, 58, 43, 59, 60, 61, 62, 63, 64, 65, 66, 67, 68, 69, 156, 157, 158, 159, 160, 161, 162, 163, 164, 165, 166, 167, 168, 169, 170, 171, 172, 173, 174, 175, 176, 177, 178, 179, 180, 181, 182, 183, 184, 185, 186, 187, 188, 189, 190] (by decide +kernel) (by decide +kernel)
set_option maxRecDepth 20000 in
theorem gX9_readWalk_X9_isStep : GoodIn wsX9_readWalk (wsV RX9 395 RX9 yX9_isStep wsX9_isStep) := goodIn_app (goodIn_of _ (by decide +kernel)) ggX9_readWalk_X9_isStep
set_option maxRecDepth 20000 in
theorem ggX9_readWalk_X9_accept : GoodIn wsX9_readWalk wsX9_accept := goodIn_r _ [151, 91, 92, 93, 6, 94, 2, 3, 26, 20, 29, 95, 96, 97, 98, 99, 100, 101, 102, 103, 104, 105, 106, 107, 108, 109, 110, 111, 112, 113, 114, 115, 116, 117, 118, 119, 120, 121, 122, 123, 124, 125, 126, 127, 128, 129, 130, 131, 132, 133, 134, 135, 136, 137, 138, 139, 140, 141, 142, 143, 74, 75, 76, 77, 78, 79, 80, 81, 82, 83, 84, 85, 86, 87, 88, 89, 90, 156, 157, 158, 159, 160, 161, 162, 163, 164, 165, 166, 167, 168, 169, 170, 171, 172, 173, 174, 175, 176, 177, 178, 179, 180, 181, 182, 183, 184, 185, 186, 187, 188, 189, 190] (by decide +kernel) (by decide +kernel)
set_option maxRecDepth 20000 in
theorem gX9_readWalk_X9_accept : GoodIn wsX9_readWalk (wsV RX9 392 RX9 yX9_accept wsX9_accept) := goodIn_app (goodIn_of _ (by decide +kernel)) ggX9_readWalk_X9_accept
set_option maxRecDepth 20000 in
theorem ggX9_readWalk_X9_readNumber : GoodIn wsX9_readWalk wsX9_readNumber := goodIn_r _ [155, 2, 3, 12, 13, 14, 6, 15, 16, 17, 18, 19, 20, 21, 22, 23, 24, 25, 26, 27, 28, 29, 30, 31, 32, 33, 34, 44, 45, 46, 70, 71, 72, 73, 74, 75, 76, 77, 78, 79, 80, 81, 82, 83, 84, 85, 86, 87, 88, 89, 90, 156, 157, 158, 159, 160, 161, 162, 163, 164, 165, 166, 167, 168, 169, 170, 171, 172, 173, 174, 175, 176, 177, 178, 179, 180, 181, 182, 183, 184, 185, 186, 187, 188, 189, 190] (by decide +kernel) (by decide +kernel)
set_option maxRecDepth 20000 in
theorem gX9_readWalk_X9_readNumber : GoodIn wsX9_readWalk (wsV RX9 387 RX9 yX9_readNumber wsX9_readNumber) := goodIn_app (goodIn_of _ (by decide +kernel)) ggX9_readWalk_X9_readNumber
theorem dX9_readWalk_0 : decode cX9_readWalk 0 = .ok (.aload_n 0, 1) := by decide +kernel
theorem dX9_readWalk_1 : decode cX9_readWalk 1 = .ok (.getfield 13, 3) := by decide +kernel
theorem dX9_readWalk_4 : decode cX9_readWalk 4 = .ok (.iload_n 1, 1) := by decide +kernel
theorem dX9_readWalk_5 : decode cX9_readWalk 5 = .ok (.iconst 0, 1) := by decide +kernel
theorem dX9_readWalk_6 : decode cX9_readWalk 6 = .ok (.invokestatic 107, 3) := by decide +kernel
theorem dX9_readWalk_9 : decode cX9_readWalk 9 = .ok (.iconst 0, 1) := by decide +kernel
theorem dX9_readWalk_10 : decode cX9_readWalk 10 = .ok (.iastore, 1) := by decide +kernel
theorem dX9_readWalk_11 : decode cX9_readWalk 11 = .ok (.aload_n 0, 1) := by decide +kernel
theorem dX9_readWalk_12 : decode cX9_readWalk 12 = .ok (.getfield 13, 3) := by decide +kernel
theorem dX9_readWalk_15 : decode cX9_readWalk 15 = .ok (.iload_n 1, 1) := by decide +kernel
theorem dX9_readWalk_16 : decode cX9_readWalk 16 = .ok (.iconst 1, 1) := by decide +kernel
theorem dX9_readWalk_17 : decode cX9_readWalk 17 = .ok (.invokestatic 107, 3) := by decide +kernel
theorem dX9_readWalk_20 : decode cX9_readWalk 20 = .ok (.iconst 0, 1) := by decide +kernel
theorem dX9_readWalk_21 : decode cX9_readWalk 21 = .ok (.iastore, 1) := by decide +kernel
theorem dX9_readWalk_22 : decode cX9_readWalk 22 = .ok (.aload_n 0, 1) := by decide +kernel
theorem dX9_readWalk_23 : decode cX9_readWalk 23 = .ok (.iload_n 1, 1) := by decide +kernel
theorem dX9_readWalk_24 : decode cX9_readWalk 24 = .ok (.invokevirtual 398, 3) := by decide +kernel
theorem dX9_readWalk_27 : decode cX9_readWalk 27 = .ok (.aload_n 0, 1) := by decide +kernel
theorem dX9_readWalk_28 : decode cX9_readWalk 28 = .ok (.getfield 338, 3) := by decide +kernel
theorem dX9_readWalk_31 : decode cX9_readWalk 31 = .ok (.ifCond .ne 19, 3) := by decide +kernel
theorem dX9_readWalk_34 : decode cX9_readWalk 34 = .ok (.aload_n 0, 1) := by decide +kernel
theorem dX9_readWalk_35 : decode cX9_readWalk 35 = .ok (.getfield 329, 3) := by decide +kernel
theorem dX9_readWalk_38 : decode cX9_readWalk 38 = .ok (.iconst 2, 1) := by decide +kernel
theorem dX9_readWalk_39 : decode cX9_readWalk 39 = .ok (.if_icmp .ne 11, 3) := by decide +kernel
theorem dX9_readWalk_42 : decode cX9_readWalk 42 = .ok (.aload_n 0, 1) := by decide +kernel
theorem dX9_readWalk_43 : decode cX9_readWalk 43 = .ok (.iload_n 1, 1) := by decide +kernel
theorem dX9_readWalk_44 : decode cX9_readWalk 44 = .ok (.invokevirtual 398, 3) := by decide +kernel
theorem dX9_readWalk_47 : decode cX9_readWalk 47 = .ok (.goto (-20), 3) := by decide +kernel
theorem dX9_readWalk_50 : decode cX9_readWalk 50 = .ok (.aload_n 0, 1) := by decide +kernel
theorem dX9_readWalk_51 : decode cX9_readWalk 51 = .ok (.getfield 338, 3) := by decide +kernel
theorem dX9_readWalk_54 : decode cX9_readWalk 54 = .ok (.ifCond .eq 4, 3) := by decide +kernel
theorem dX9_readWalk_57 : decode cX9_readWalk 57 = .ok (.return_, 1) := by decide +kernel
theorem dX9_readWalk_58 : decode cX9_readWalk 58 = .ok (.aload_n 0, 1) := by decide +kernel
theorem dX9_readWalk_59 : decode cX9_readWalk 59 = .ok (.getfield 13, 3) := by decide +kernel
theorem dX9_readWalk_62 : decode cX9_readWalk 62 = .ok (.iload_n 1, 1) := by decide +kernel
theorem dX9_readWalk_63 : decode cX9_readWalk 63 = .ok (.iconst 0, 1) := by decide +kernel
theorem dX9_readWalk_64 : decode cX9_readWalk 64 = .ok (.invokestatic 107, 3) := by decide +kernel
theorem dX9_readWalk_67 : decode cX9_readWalk 67 = .ok (.iaload, 1) := by decide +kernel
theorem dX9_readWalk_68 : decode cX9_readWalk 68 = .ok (.istore_n 3, 1) := by decide +kernel
theorem dX9_readWalk_69 : decode cX9_readWalk 69 = .ok (.aload_n 0, 1) := by decide +kernel
theorem dX9_readWalk_70 : decode cX9_readWalk 70 = .ok (.aload_n 0, 1) := by decide +kernel
theorem dX9_readWalk_71 : decode cX9_readWalk 71 = .ok (.ldc_w 401, 3) := by decide +kernel
theorem dX9_readWalk_74 : decode cX9_readWalk 74 = .ok (.invokevirtual 360, 3) := by decide +kernel
theorem dX9_readWalk_77 : decode cX9_readWalk 77 = .ok (.ifCond .ne 26, 3) := by decide +kernel
theorem dX9_readWalk_80 : decode cX9_readWalk 80 = .ok (.iload_n 2, 1) := by decide +kernel
theorem dX9_readWalk_81 : decode cX9_readWalk 81 = .ok (.ifCond .eq 13, 3) := by decide +kernel
theorem dX9_readWalk_84 : decode cX9_readWalk 84 = .ok (.aload_n 0, 1) := by decide +kernel
theorem dX9_readWalk_85 : decode cX9_readWalk 85 = .ok (.getfield 329, 3) := by decide +kernel
theorem dX9_readWalk_88 : decode cX9_readWalk 88 = .ok (.ifCond .ne 19, 3) := by decide +kernel
theorem dX9_readWalk_91 : decode cX9_readWalk 91 = .ok (.goto 12, 3) := by decide +kernel
theorem dX9_readWalk_94 : decode cX9_readWalk 94 = .ok (.aload_n 0, 1) := by decide +kernel
theorem dX9_readWalk_95 : decode cX9_readWalk 95 = .ok (.bipush 59, 2) := by decide +kernel
theorem dX9_readWalk_97 : decode cX9_readWalk 97 = .ok (.invokevirtual 371, 3) := by decide +kernel
theorem dX9_readWalk_100 : decode cX9_readWalk 100 = .ok (.ifCond .eq 7, 3) := by decide +kernel
theorem dX9_readWalk_103 : decode cX9_readWalk 103 = .ok (.iconst 1, 1) := by decide +kernel
theorem dX9_readWalk_104 : decode cX9_readWalk 104 = .ok (.goto 4, 3) := by decide +kernel
theorem dX9_readWalk_107 : decode cX9_readWalk 107 = .ok (.iconst 0, 1) := by decide +kernel
theorem dX9_readWalk_108 : decode cX9_readWalk 108 = .ok (.iconst 1, 1) := by decide +kernel
theorem dX9_readWalk_109 : decode cX9_readWalk 109 = .ok (.invokevirtual 364, 3) := by decide +kernel
theorem dX9_readWalk_112 : decode cX9_readWalk 112 = .ok (.aload_n 0, 1) := by decide +kernel
theorem dX9_readWalk_113 : decode cX9_readWalk 113 = .ok (.aload_n 0, 1) := by decide +kernel
theorem dX9_readWalk_114 : decode cX9_readWalk 114 = .ok (.getfield 338, 3) := by decide +kernel
theorem dX9_readWalk_117 : decode cX9_readWalk 117 = .ok (.ifCond .ne 24, 3) := by decide +kernel
theorem dX9_readWalk_120 : decode cX9_readWalk 120 = .ok (.aload_n 0, 1) := by decide +kernel
theorem dX9_readWalk_121 : decode cX9_readWalk 121 = .ok (.aload_n 0, 1) := by decide +kernel
theorem dX9_readWalk_122 : decode cX9_readWalk 122 = .ok (.iload_n 1, 1) := by decide +kernel
theorem dX9_readWalk_123 : decode cX9_readWalk 123 = .ok (.iload_n 3, 1) := by decide +kernel
theorem dX9_readWalk_124 : decode cX9_readWalk 124 = .ok (.iconst 1, 1) := by decide +kernel
theorem dX9_readWalk_125 : decode cX9_readWalk 125 = .ok (.isub, 1) := by decide +kernel
theorem dX9_readWalk_126 : decode cX9_readWalk 126 = .ok (.invokevirtual 130, 3) := by decide +kernel
theorem dX9_readWalk_129 : decode cX9_readWalk 129 = .ok (.aload_n 0, 1) := by decide +kernel
theorem dX9_readWalk_130 : decode cX9_readWalk 130 = .ok (.iload_n 1, 1) := by decide +kernel
theorem dX9_readWalk_131 : decode cX9_readWalk 131 = .ok (.iconst 0, 1) := by decide +kernel
theorem dX9_readWalk_132 : decode cX9_readWalk 132 = .ok (.invokevirtual 130, 3) := by decide +kernel
theorem dX9_readWalk_135 : decode cX9_readWalk 135 = .ok (.invokevirtual 395, 3) := by decide +kernel
theorem dX9_readWalk_138 : decode cX9_readWalk 138 = .ok (.ifCond .eq 7, 3) := by decide +kernel
theorem dX9_readWalk_141 : decode cX9_readWalk 141 = .ok (.iconst 1, 1) := by decide +kernel
theorem dX9_readWalk_142 : decode cX9_readWalk 142 = .ok (.goto 4, 3) := by decide +kernel
theorem dX9_readWalk_145 : decode cX9_readWalk 145 = .ok (.iconst 0, 1) := by decide +kernel
theorem dX9_readWalk_146 : decode cX9_readWalk 146 = .ok (.iconst 4, 1) := by decide +kernel
theorem dX9_readWalk_147 : decode cX9_readWalk 147 = .ok (.invokevirtual 364, 3) := by decide +kernel
theorem dX9_readWalk_150 : decode cX9_readWalk 150 = .ok (.aload_n 0, 1) := by decide +kernel
theorem dX9_readWalk_151 : decode cX9_readWalk 151 = .ok (.ldc_w 401, 3) := by decide +kernel
theorem dX9_readWalk_154 : decode cX9_readWalk 154 = .ok (.invokevirtual 392, 3) := by decide +kernel
theorem dX9_readWalk_157 : decode cX9_readWalk 157 = .ok (.ifCond .eq 36, 3) := by decide +kernel
theorem dX9_readWalk_160 : decode cX9_readWalk 160 = .ok (.aload_n 0, 1) := by decide +kernel
theorem dX9_readWalk_161 : decode cX9_readWalk 161 = .ok (.iconst 0, 1) := by decide +kernel
theorem dX9_readWalk_162 : decode cX9_readWalk 162 = .ok (.iload_n 3, 1) := by decide +kernel
theorem dX9_readWalk_163 : decode cX9_readWalk 163 = .ok (.iconst 1, 1) := by decide +kernel
theorem dX9_readWalk_164 : decode cX9_readWalk 164 = .ok (.isub, 1) := by decide +kernel
theorem dX9_readWalk_165 : decode cX9_readWalk 165 = .ok (.invokevirtual 387, 3) := by decide +kernel
theorem dX9_readWalk_168 : decode cX9_readWalk 168 = .ok (.istore 4, 2) := by decide +kernel
theorem dX9_readWalk_170 : decode cX9_readWalk 170 = .ok (.aload_n 0, 1) := by decide +kernel
theorem dX9_readWalk_171 : decode cX9_readWalk 171 = .ok (.getfield 13, 3) := by decide +kernel
theorem dX9_readWalk_174 : decode cX9_readWalk 174 = .ok (.iload_n 1, 1) := by decide +kernel
theorem dX9_readWalk_175 : decode cX9_readWalk 175 = .ok (.iconst 1, 1) := by decide +kernel
theorem dX9_readWalk_176 : decode cX9_readWalk 176 = .ok (.invokestatic 107, 3) := by decide +kernel
theorem dX9_readWalk_179 : decode cX9_readWalk 179 = .ok (.aload_n 0, 1) := by decide +kernel
theorem dX9_readWalk_180 : decode cX9_readWalk 180 = .ok (.getfield 338, 3) := by decide +kernel
theorem dX9_readWalk_183 : decode cX9_readWalk 183 = .ok (.ifCond .ne 8, 3) := by decide +kernel
theorem dX9_readWalk_186 : decode cX9_readWalk 186 = .ok (.iload 4, 2) := by decide +kernel
theorem dX9_readWalk_188 : decode cX9_readWalk 188 = .ok (.goto 4, 3) := by decide +kernel
theorem dX9_readWalk_191 : decode cX9_readWalk 191 = .ok (.iconst 0, 1) := by decide +kernel
theorem dX9_readWalk_192 : decode cX9_readWalk 192 = .ok (.iastore, 1) := by decide +kernel
theorem dX9_readWalk_193 : decode cX9_readWalk 193 = .ok (.return_, 1) := by decide +kernel
set_option maxRecDepth 20000 in
theorem ggX9_readLimit_X9_rooms : GoodIn wsX9_readLimit wsX9_rooms := goodIn_r _ [7, 8, 64, 65, 66, 67, 68, 69, 70, 71, 72, 73, 74, 75, 76, 77, 78, 79, 80, 81, 82, 83, 84, 85, 86, 87, 88, 89, 90, 91, 92, 93, 94, 95, 96, 97, 98] (by decide +kernel) (by decide +kernel)
set_option maxRecDepth 20000 in
theorem gX9_readLimit_X9_rooms : GoodIn wsX9_readLimit (wsV RX9 110 RX9 yX9_rooms wsX9_rooms) := goodIn_app (goodIn_of _ (by decide +kernel)) ggX9_readLimit_X9_rooms
set_option maxRecDepth 20000 in
theorem ggX9_readLimit_X9_readNumber : GoodIn wsX9_readLimit wsX9_readNumber := goodIn_r _ [12, 1, 13, 14, 15, 16, 6, 17, 18, 19, 20, 21, 22, 23, 24, 25, 26, 27, 28, 29, 30, 31, 32, 33, 34, 35, 36, 37, 38, 39, 40, 41, 42, 43, 44, 45, 46, 47, 48, 49, 50, 51, 52, 53, 54, 55, 56, 57, 58, 59, 60, 64, 65, 66, 67, 68, 69, 70, 71, 72, 73, 74, 75, 76, 77, 78, 79, 80, 81, 82, 83, 84, 85, 86, 87, 88, 89, 90, 91, 92, 93, 94, 95, 96, 97, 98] (by decide +kernel) (by decide +kernel)
set_option maxRecDepth 20000 in
theorem gX9_readLimit_X9_readNumber : GoodIn wsX9_readLimit (wsV RX9 387 RX9 yX9_readNumber wsX9_readNumber) := goodIn_app (goodIn_of _ (by decide +kernel)) ggX9_readLimit_X9_readNumber
set_option maxRecDepth 20000 in
theorem ggX9_readLimit_X9_roomAt : GoodIn wsX9_readLimit wsX9_roomAt := goodIn_r _ [63] (by decide +kernel) (by decide +kernel)
set_option maxRecDepth 20000 in
theorem gX9_readLimit_X9_roomAt : GoodIn wsX9_readLimit (va_wsS RX9 100 yX9_roomAt wsX9_roomAt) := goodIn_app (goodIn_of _ (by decide +kernel)) ggX9_readLimit_X9_roomAt
theorem dX9_readLimit_0 : decode cX9_readLimit 0 = .ok (.aload_n 0, 1) := by decide +kernel
theorem dX9_readLimit_1 : decode cX9_readLimit 1 = .ok (.iconst 0, 1) := by decide +kernel
theorem dX9_readLimit_2 : decode cX9_readLimit 2 = .ok (.aload_n 0, 1) := by decide +kernel
theorem dX9_readLimit_3 : decode cX9_readLimit 3 = .ok (.invokevirtual 110, 3) := by decide +kernel
theorem dX9_readLimit_6 : decode cX9_readLimit 6 = .ok (.iconst 1, 1) := by decide +kernel
theorem dX9_readLimit_7 : decode cX9_readLimit 7 = .ok (.isub, 1) := by decide +kernel
theorem dX9_readLimit_8 : decode cX9_readLimit 8 = .ok (.invokevirtual 387, 3) := by decide +kernel
theorem dX9_readLimit_11 : decode cX9_readLimit 11 = .ok (.istore_n 1, 1) := by decide +kernel
theorem dX9_readLimit_12 : decode cX9_readLimit 12 = .ok (.aload_n 0, 1) := by decide +kernel
theorem dX9_readLimit_13 : decode cX9_readLimit 13 = .ok (.iconst 0, 1) := by decide +kernel
theorem dX9_readLimit_14 : decode cX9_readLimit 14 = .ok (.bipush 99, 2) := by decide +kernel
theorem dX9_readLimit_16 : decode cX9_readLimit 16 = .ok (.invokevirtual 387, 3) := by decide +kernel
theorem dX9_readLimit_19 : decode cX9_readLimit 19 = .ok (.istore_n 2, 1) := by decide +kernel
theorem dX9_readLimit_20 : decode cX9_readLimit 20 = .ok (.aload_n 0, 1) := by decide +kernel
theorem dX9_readLimit_21 : decode cX9_readLimit 21 = .ok (.getfield 338, 3) := by decide +kernel
theorem dX9_readLimit_24 : decode cX9_readLimit 24 = .ok (.ifCond .ne 14, 3) := by decide +kernel
theorem dX9_readLimit_27 : decode cX9_readLimit 27 = .ok (.aload_n 0, 1) := by decide +kernel
theorem dX9_readLimit_28 : decode cX9_readLimit 28 = .ok (.getfield 13, 3) := by decide +kernel
theorem dX9_readLimit_31 : decode cX9_readLimit 31 = .ok (.iload_n 1, 1) := by decide +kernel
theorem dX9_readLimit_32 : decode cX9_readLimit 32 = .ok (.iconst 0, 1) := by decide +kernel
theorem dX9_readLimit_33 : decode cX9_readLimit 33 = .ok (.invokestatic 100, 3) := by decide +kernel
theorem dX9_readLimit_36 : decode cX9_readLimit 36 = .ok (.iload_n 2, 1) := by decide +kernel
theorem dX9_readLimit_37 : decode cX9_readLimit 37 = .ok (.iastore, 1) := by decide +kernel
theorem dX9_readLimit_38 : decode cX9_readLimit 38 = .ok (.return_, 1) := by decide +kernel
set_option maxRecDepth 20000 in
theorem ggX9_readGuard_X9_check : GoodIn wsX9_readGuard wsX9_check := goodIn_r _ [7, 8, 9, 10, 6, 11, 2, 12, 13, 160, 161, 162, 163, 164, 165, 166, 167, 168, 169, 170, 171, 172, 173, 174, 175, 176, 177, 178, 179, 180, 181, 182, 183, 184, 185, 186, 187, 188, 189, 190, 191, 192, 193, 194] (by decide +kernel) (by decide +kernel)
set_option maxRecDepth 20000 in
theorem gX9_readGuard_X9_check : GoodIn wsX9_readGuard (wsV RX9 364 RX9 yX9_check wsX9_check) := goodIn_app (goodIn_of _ (by decide +kernel)) ggX9_readGuard_X9_check
set_option maxRecDepth 20000 in
theorem ggX9_readGuard_X9_advance : GoodIn wsX9_readGuard wsX9_advance := goodIn_r _ [17, 2, 18, 19, 20, 6, 21, 22, 12, 23, 24, 25, 26, 27, 28, 29, 30, 31, 32, 33, 34, 35, 36, 37, 160, 161, 162, 163, 164, 165, 166, 167, 168, 169, 170, 171, 172, 173, 174, 175, 176, 177, 178, 179, 180, 181, 182, 183, 184, 185, 186, 187, 188, 189, 190, 191, 192, 193, 194] (by decide +kernel) (by decide +kernel)
set_option maxRecDepth 20000 in
theorem gX9_readGuard_X9_advance : GoodIn wsX9_readGuard (wsV RX9 368 RX9 yX9_advance wsX9_advance) := goodIn_app (goodIn_of _ (by decide +kernel)) ggX9_readGuard_X9_advance
set_option maxRecDepth 20000 in
theorem ggX9_readGuard_X9_readWalk : GoodIn wsX9_readGuard wsX9_readWalk := goodIn_r _ [41, 1, 2, 24, 42, 43, 6, 44, 45, 46, 47, 48, 3, 4, 5, 7, 8, 9, 10, 11, 12, 13, 49, 50, 51, 52, 22, 53, 54, 29, 55, 56, 57, 58, 59, 60, 61, 62, 63, 64, 65, 66, 67, 68, 69, 70, 71, 72, 73, 74, 75, 76, 77, 78, 79, 80, 81, 82, 83, 84, 85, 86, 87, 88, 89, 90, 91, 92, 93, 94, 14, 15, 16, 17, 18, 19, 20, 21, 23, 25, 26, 27, 28, 30, 31, 32, 33, 34, 35, 36, 37, 95, 96, 97, 98, 99, 100, 101, 102, 103, 104, 105, 106, 107, 108, 109, 110, 111, 112, 113, 114, 115, 116, 117, 118, 119, 120, 121, 122, 123, 124, 125, 126, 127, 128, 129, 130, 131, 132, 133, 134, 135, 136, 137, 138, 139, 140, 141, 142, 143, 144, 145, 146, 147, 148, 149, 150, 151, 152, 153, 154, 155, 156, 157, 158, 159, 160, 161, 162, 163, 164, 165, 166, 167, 168, 169, 170, 171, 172, 173, 174, 175, 176, 177, 178, 179, 180, 181, 182, 183, 184, 185, 186, 187, 188, 189, 190, 191, 192, 193, 194] (by decide +kernel) (by decide +kernel)
set_option maxRecDepth 20000 in
theorem gX9_readGuard_X9_readWalk : GoodIn wsX9_readGuard (wsV RX9 403 RX9 yX9_readWalk wsX9_readWalk) := goodIn_app (goodIn_of _ (by decide +kernel)) ggX9_readGuard_X9_readWalk
theorem dX9_readGuard_0 : decode cX9_readGuard 0 = .ok (.aload_n 0, 1) := by decide +kernel
theorem dX9_readGuard_1 : decode cX9_readGuard 1 = .ok (.aload_n 0, 1) := by decide +kernel
theorem dX9_readGuard_2 : decode cX9_readGuard 2 = .ok (.getfield 13, 3) := by decide +kernel
theorem dX9_readGuard_5 : decode cX9_readGuard 5 = .ok (.iconst 2, 1) := by decide +kernel
theorem dX9_readGuard_6 : decode cX9_readGuard 6 = .ok (.iaload, 1) := by decide +kernel
theorem dX9_readGuard_7 : decode cX9_readGuard 7 = .ok (.iconst 4, 1) := by decide +kernel
theorem dX9_readGuard_8 : decode cX9_readGuard 8 = .ok (.if_icmp .ge 7, 3) := by decide +kernel
theorem dX9_readGuard_11 : decode cX9_readGuard 11 = .ok (.iconst 1, 1) := by decide +kernel
theorem dX9_readGuard_12 : decode cX9_readGuard 12 = .ok (.goto 4, 3) := by decide +kernel
theorem dX9_readGuard_15 : decode cX9_readGuard 15 = .ok (.iconst 0, 1) := by decide +kernel
theorem dX9_readGuard_16 : decode cX9_readGuard 16 = .ok (.iconst 3, 1) := by decide +kernel
theorem dX9_readGuard_17 : decode cX9_readGuard 17 = .ok (.invokevirtual 364, 3) := by decide +kernel
theorem dX9_readGuard_20 : decode cX9_readGuard 20 = .ok (.aload_n 0, 1) := by decide +kernel
theorem dX9_readGuard_21 : decode cX9_readGuard 21 = .ok (.invokevirtual 368, 3) := by decide +kernel
theorem dX9_readGuard_24 : decode cX9_readGuard 24 = .ok (.aload_n 0, 1) := by decide +kernel
theorem dX9_readGuard_25 : decode cX9_readGuard 25 = .ok (.getfield 338, 3) := by decide +kernel
theorem dX9_readGuard_28 : decode cX9_readGuard 28 = .ok (.ifCond .ne 24, 3) := by decide +kernel
theorem dX9_readGuard_31 : decode cX9_readGuard 31 = .ok (.aload_n 0, 1) := by decide +kernel
theorem dX9_readGuard_32 : decode cX9_readGuard 32 = .ok (.aload_n 0, 1) := by decide +kernel
theorem dX9_readGuard_33 : decode cX9_readGuard 33 = .ok (.getfield 13, 3) := by decide +kernel
theorem dX9_readGuard_36 : decode cX9_readGuard 36 = .ok (.iconst 2, 1) := by decide +kernel
theorem dX9_readGuard_37 : decode cX9_readGuard 37 = .ok (.iaload, 1) := by decide +kernel
theorem dX9_readGuard_38 : decode cX9_readGuard 38 = .ok (.iconst 0, 1) := by decide +kernel
theorem dX9_readGuard_39 : decode cX9_readGuard 39 = .ok (.invokevirtual 403, 3) := by decide +kernel
theorem dX9_readGuard_42 : decode cX9_readGuard 42 = .ok (.aload_n 0, 1) := by decide +kernel
theorem dX9_readGuard_43 : decode cX9_readGuard 43 = .ok (.getfield 13, 3) := by decide +kernel
theorem dX9_readGuard_46 : decode cX9_readGuard 46 = .ok (.iconst 2, 1) := by decide +kernel
theorem dX9_readGuard_47 : decode cX9_readGuard 47 = .ok (.dup2, 1) := by decide +kernel
theorem dX9_readGuard_48 : decode cX9_readGuard 48 = .ok (.iaload, 1) := by decide +kernel
theorem dX9_readGuard_49 : decode cX9_readGuard 49 = .ok (.iconst 1, 1) := by decide +kernel
theorem dX9_readGuard_50 : decode cX9_readGuard 50 = .ok (.iadd, 1) := by decide +kernel
theorem dX9_readGuard_51 : decode cX9_readGuard 51 = .ok (.iastore, 1) := by decide +kernel
theorem dX9_readGuard_52 : decode cX9_readGuard 52 = .ok (.return_, 1) := by decide +kernel
set_option maxRecDepth 20000 in
theorem ggX9_readAll_X9_expectWord : GoodIn wsX9_readAll wsX9_expectWord := goodIn_r _ [8, 9, 10, 11, 7, 12, 2, 3, 13, 14, 15, 16, 17, 18, 19, 20, 21, 22, 23, 24, 25, 26, 27, 28, 29, 30, 31, 32, 33, 34, 35, 36, 37, 38, 39, 40, 41, 42, 43, 44, 45, 46, 47, 48, 49, 50, 51, 52, 53, 54, 55, 56, 57, 58, 59, 60, 61, 62, 63, 64, 65, 66, 67, 68, 69, 70, 71, 72, 73, 74, 75, 76, 77, 78, 79, 80, 81, 82, 83, 84, 85, 86, 87, 88, 89, 90, 91, 92, 93, 94, 183, 184, 185, 186, 187, 188, 189, 190, 191, 192, 193, 194, 195, 196, 197, 198, 199, 200, 201, 202, 203, 204, 205, 206, 207, 208, 209, 210, 211, 212, 213, 214, 215, 216, 217] (by decide +kernel) (by decide +kernel)
set_option maxRecDepth 20000 in
theorem gX9_readAll_X9_expectWord : GoodIn wsX9_readAll (wsV RX9 407 RX9 yX9_expectWord wsX9_expectWord) := goodIn_app (goodIn_of _ (by decide +kernel)) ggX9_readAll_X9_expectWord
set_option maxRecDepth 20000 in
theorem ggX9_readAll_X9_readNumber : GoodIn wsX9_readAll wsX9_readNumber := goodIn_r _ [98, 2, 3, 65, 66, 67, 7, 68, 69, 70, 71, 72, 14, 73, 99, 100, 101, 102, 13, 103, 104, 15, 105, 106, 107, 108, 109, 110, 111, 112, 74, 75, 76, 77, 78, 79, 80, 81, 82, 83, 84, 85, 86, 87, 88, 89, 90, 91, 92, 93, 94, 183, 184, 185, 186, 187, 188, 189, 190, 191, 192, 193, 194, 195, 196, 197, 198, 199, 200, 201, 202, 203, 204, 205, 206, 207, 208, 209, 210, 211, 212, 213, 214, 215, 216, 217] (by decide +kernel) (by decide +kernel)
set_option maxRecDepth 20000 in
theorem gX9_readAll_X9_readNumber : GoodIn wsX9_readAll (wsV RX9 387 RX9 yX9_readNumber wsX9_readNumber) := goodIn_app (goodIn_of _ (by decide +kernel)) ggX9_readAll_X9_readNumber
set_option maxRecDepth 20000 in
theorem ggX9_readAll_X9_expect : GoodIn wsX9_readAll wsX9_expect := goodIn_r _ [116, 117, 118, 119, 7, 120, 2, 3, 15, 14, 65, 66, 67, 68, 69, 70, 71, 72, 73, 74, 75, 76, 77, 78, 79, 80, 81, 13, 82, 83, 84, 85, 86, 87, 88, 89, 90, 91, 92, 93, 94, 183, 184, 185, 186, 187, 188, 189, 190, 191, 192, 193, 194, 195, 196, 197, 198, 199, 200, 201, 202, 203, 204, 205, 206, 207, 208, 209, 210, 211, 212, 213, 214, 215, 216, 217] (by decide +kernel) (by decide +kernel)
set_option maxRecDepth 20000 in
theorem gX9_readAll_X9_expect : GoodIn wsX9_readAll (wsV RX9 411 RX9 yX9_expect wsX9_expect) := goodIn_app (goodIn_of _ (by decide +kernel)) ggX9_readAll_X9_expect
set_option maxRecDepth 20000 in
theorem ggX9_readAll_X9_isWord : GoodIn wsX9_readAll wsX9_isWord := goodIn_r _ [12, 2, 3, 13, 14, 15, 16, 17, 18, 19, 20, 21, 22, 23, 24, 25, 26, 27, 28, 29, 30, 31, 32, 33, 34, 35, 36, 37, 38, 39, 40, 41, 42, 43, 44, 45, 46, 47, 48, 49, 50, 51, 52, 53, 54, 55, 56, 57, 58, 59, 60, 61, 62, 63, 64, 183, 184, 185, 186, 187, 188, 189, 190, 191, 192, 193, 194, 195, 196, 197, 198, 199, 200, 201, 202, 203, 204, 205, 206, 207, 208, 209, 210, 211, 212, 213, 214, 215, 216, 217] (by decide +kernel) (by decide +kernel)
set_option maxRecDepth 20000 in
theorem gX9_readAll_X9_isWord : GoodIn wsX9_readAll (wsV RX9 360 RX9 yX9_isWord wsX9_isWord) := goodIn_app (goodIn_of _ (by decide +kernel)) ggX9_readAll_X9_isWord
set_option maxRecDepth 20000 in
theorem ggX9_readAll_X9_readDoor : GoodIn wsX9_readAll wsX9_readDoor := goodIn_r _ [124, 1, 2, 3, 65, 66, 67, 7, 68, 69, 70, 71, 72, 14, 73, 74, 75, 76, 77, 78, 79, 80, 81, 13, 82, 83, 84, 85, 86, 15, 87, 88, 89, 90, 91, 92, 93, 94, 125, 126, 127, 128, 129, 95, 96, 97, 98, 99, 100, 101, 102, 103, 104, 105, 106, 107, 108, 109, 110, 111, 112, 130, 131, 132, 133, 134, 135, 136, 137, 9, 10, 11, 12, 16, 17, 18, 19, 20, 21, 22, 23, 24, 25, 26, 27, 28, 29, 30, 31, 32, 33, 34, 35, 36, 37, 38, 39, 40, 41, 42, 43, 44, 45, 46, 47, 48, 49, 50, 51, 52, 53, 54, 55, 56, 57, 58, 59, 60, 61, 62, 63, 64, 138, 139, 140, 183, 184, 185, 186, 187, 188, 189, 190, 191, 192, 193, 194, 195, 196, 197, 198, 199, 200, 201, 202, 203, 204, 205, 206, 207, 208, 209, 210, 211, 212, 213, 214, 215, 216, 217] (by decide +kernel) (by decide +kernel)
set_option maxRecDepth 20000 in
theorem gX9_readAll_X9_readDoor : GoodIn wsX9_readAll (wsV RX9 416 RX9 yX9_readDoor wsX9_readDoor) := goodIn_app (goodIn_of _ (by decide +kernel)) ggX9_readAll_X9_readDoor
set_option maxRecDepth 20000 in
theorem ggX9_readAll_X9_readGuard : GoodIn wsX9_readAll wsX9_readGuard := goodIn_r _ [144, 1, 2, 65, 66, 67, 7, 68, 69, 70, 71, 72, 14, 73, 74, 75, 76, 77, 78, 79, 80, 81, 13, 82, 3, 83, 84, 85, 86, 15, 87, 88, 89, 90, 91, 92, 93, 94, 145, 146, 147, 148, 149, 150, 151, 152, 153, 154, 155, 99, 100, 101, 102, 103, 104, 105, 106, 107, 108, 109, 130, 131, 132, 133, 125, 126, 127, 128, 129, 110, 111, 112, 156, 157, 158, 159, 160, 161, 162, 163, 164, 165, 166, 167, 168, 169, 170, 171, 172, 173, 174, 175, 138, 139, 140, 9, 10, 11, 12, 16, 17, 18, 19, 20, 21, 22, 23, 24, 25, 26, 27, 28, 29, 30, 31, 32, 33, 34, 35, 36, 37, 38, 39, 40, 41, 42, 43, 44, 45, 46, 47, 48, 49, 50, 51, 52, 53, 54, 55, 56, 57, 58, 59, 60, 61, 62, 63, 64, 117, 118, 119, 120, 134, 135, 136, 137, 95, 96, 97, 98, 183, 184, 185, 186, 187, 188, 189, 190, 191, 192, 193, 194, 195, 196, 197, 198, 199, 200, 201, 202, 203, 204, 205, 206, 207, 208, 209, 210, 211, 212, 213, 214, 215, 216, 217] (by decide +kernel) (by decide +kernel)
set_option maxRecDepth 20000 in
theorem gX9_readAll_X9_readGuard : GoodIn wsX9_readAll (wsV RX9 421 RX9 yX9_readGuard wsX9_readGuard) := goodIn_app (goodIn_of _ (by decide +kernel)) ggX9_readAll_X9_readGuard
set_option maxRecDepth 20000 in
theorem ggX9_readAll_X9_readLimit : GoodIn wsX9_readAll wsX9_readLimit := goodIn_r _ [179, 2, 1, 125, 126, 127, 7, 128, 129, 95, 96, 97, 98, 3, 65, 66, 67, 68, 69, 70, 71, 72, 14, 73, 99, 100, 101, 102, 13, 103, 104, 15, 105, 106, 107, 108, 109, 110, 111, 112, 74, 75, 76, 77, 78, 79, 80, 81, 82, 83, 84, 85, 86, 87, 88, 89, 90, 91, 92, 93, 94, 180, 181, 182, 183, 184, 185, 186, 187, 188, 189, 190, 191, 192, 193, 194, 195, 196, 197, 198, 199, 200, 201, 202, 203, 204, 205, 206, 207, 208, 209, 210, 211, 212, 213, 214, 215, 216, 217] (by decide +kernel) (by decide +kernel)
set_option maxRecDepth 20000 in
theorem gX9_readAll_X9_readLimit : GoodIn wsX9_readAll (wsV RX9 424 RX9 yX9_readLimit wsX9_readLimit) := goodIn_app (goodIn_of _ (by decide +kernel)) ggX9_readAll_X9_readLimit
theorem dX9_readAll_0 : decode cX9_readAll 0 = .ok (.aload_n 0, 1) := by decide +kernel
theorem dX9_readAll_1 : decode cX9_readAll 1 = .ok (.ldc_w 406, 3) := by decide +kernel
theorem dX9_readAll_4 : decode cX9_readAll 4 = .ok (.invokevirtual 407, 3) := by decide +kernel
theorem dX9_readAll_7 : decode cX9_readAll 7 = .ok (.aload_n 0, 1) := by decide +kernel
theorem dX9_readAll_8 : decode cX9_readAll 8 = .ok (.getfield 13, 3) := by decide +kernel
theorem dX9_readAll_11 : decode cX9_readAll 11 = .ok (.iconst 0, 1) := by decide +kernel
theorem dX9_readAll_12 : decode cX9_readAll 12 = .ok (.aload_n 0, 1) := by decide +kernel
theorem dX9_readAll_13 : decode cX9_readAll 13 = .ok (.iconst 1, 1) := by decide +kernel
theorem dX9_readAll_14 : decode cX9_readAll 14 = .ok (.bipush 12, 2) := by decide +kernel
theorem dX9_readAll_16 : decode cX9_readAll 16 = .ok (.invokevirtual 387, 3) := by decide +kernel
theorem dX9_readAll_19 : decode cX9_readAll 19 = .ok (.iastore, 1) := by decide +kernel
theorem dX9_readAll_20 : decode cX9_readAll 20 = .ok (.aload_n 0, 1) := by decide +kernel
theorem dX9_readAll_21 : decode cX9_readAll 21 = .ok (.bipush 59, 2) := by decide +kernel
theorem dX9_readAll_23 : decode cX9_readAll 23 = .ok (.invokevirtual 411, 3) := by decide +kernel
theorem dX9_readAll_26 : decode cX9_readAll 26 = .ok (.aload_n 0, 1) := by decide +kernel
theorem dX9_readAll_27 : decode cX9_readAll 27 = .ok (.getfield 338, 3) := by decide +kernel
theorem dX9_readAll_30 : decode cX9_readAll 30 = .ok (.ifCond .ne 63, 3) := by decide +kernel
theorem dX9_readAll_33 : decode cX9_readAll 33 = .ok (.aload_n 0, 1) := by decide +kernel
theorem dX9_readAll_34 : decode cX9_readAll 34 = .ok (.getfield 329, 3) := by decide +kernel
theorem dX9_readAll_37 : decode cX9_readAll 37 = .ok (.ifCond .eq 56, 3) := by decide +kernel
theorem dX9_readAll_40 : decode cX9_readAll 40 = .ok (.aload_n 0, 1) := by decide +kernel
theorem dX9_readAll_41 : decode cX9_readAll 41 = .ok (.ldc_w 414, 3) := by decide +kernel
theorem dX9_readAll_44 : decode cX9_readAll 44 = .ok (.invokevirtual 360, 3) := by decide +kernel
theorem dX9_readAll_47 : decode cX9_readAll 47 = .ok (.ifCond .eq 10, 3) := by decide +kernel
theorem dX9_readAll_50 : decode cX9_readAll 50 = .ok (.aload_n 0, 1) := by decide +kernel
theorem dX9_readAll_51 : decode cX9_readAll 51 = .ok (.invokevirtual 416, 3) := by decide +kernel
theorem dX9_readAll_54 : decode cX9_readAll 54 = .ok (.goto 30, 3) := by decide +kernel
theorem dX9_readAll_57 : decode cX9_readAll 57 = .ok (.aload_n 0, 1) := by decide +kernel
theorem dX9_readAll_58 : decode cX9_readAll 58 = .ok (.ldc_w 419, 3) := by decide +kernel
theorem dX9_readAll_61 : decode cX9_readAll 61 = .ok (.invokevirtual 360, 3) := by decide +kernel
theorem dX9_readAll_64 : decode cX9_readAll 64 = .ok (.ifCond .eq 10, 3) := by decide +kernel
theorem dX9_readAll_67 : decode cX9_readAll 67 = .ok (.aload_n 0, 1) := by decide +kernel
theorem dX9_readAll_68 : decode cX9_readAll 68 = .ok (.invokevirtual 421, 3) := by decide +kernel
theorem dX9_readAll_71 : decode cX9_readAll 71 = .ok (.goto 13, 3) := by decide +kernel
theorem dX9_readAll_74 : decode cX9_readAll 74 = .ok (.aload_n 0, 1) := by decide +kernel
theorem dX9_readAll_75 : decode cX9_readAll 75 = .ok (.ldc 65, 2) := by decide +kernel
theorem dX9_readAll_77 : decode cX9_readAll 77 = .ok (.invokevirtual 407, 3) := by decide +kernel
theorem dX9_readAll_80 : decode cX9_readAll 80 = .ok (.aload_n 0, 1) := by decide +kernel
theorem dX9_readAll_81 : decode cX9_readAll 81 = .ok (.invokevirtual 424, 3) := by decide +kernel
theorem dX9_readAll_84 : decode cX9_readAll 84 = .ok (.aload_n 0, 1) := by decide +kernel
theorem dX9_readAll_85 : decode cX9_readAll 85 = .ok (.bipush 59, 2) := by decide +kernel
theorem dX9_readAll_87 : decode cX9_readAll 87 = .ok (.invokevirtual 411, 3) := by decide +kernel
theorem dX9_readAll_90 : decode cX9_readAll 90 = .ok (.goto (-64), 3) := by decide +kernel
theorem dX9_readAll_93 : decode cX9_readAll 93 = .ok (.return_, 1) := by decide +kernel
set_option maxRecDepth 20000 in
theorem ggX9_load_X9_inRange : GoodIn wsX9_load wsX9_inRange := goodIn_r _ [12] (by decide +kernel) (by decide +kernel)
set_option maxRecDepth 20000 in
theorem gX9_load_X9_inRange : GoodIn wsX9_load (va_wsS RX9 114 yX9_inRange wsX9_inRange) := goodIn_app (goodIn_of _ (by decide +kernel)) ggX9_load_X9_inRange
set_option maxRecDepth 20000 in
theorem ggX9_load_X9_raise : GoodIn wsX9_load wsX9_raise := goodIn_r _ [16, 1, 212, 213, 214, 215, 216, 217, 218, 219, 220, 221, 222, 223, 224, 225, 226, 227, 228, 229, 230, 231, 232, 233, 234, 235, 236, 237, 238, 239, 240, 241, 242, 243, 244, 245, 246] (by decide +kernel) (by decide +kernel)
set_option maxRecDepth 20000 in
theorem gX9_load_X9_raise : GoodIn wsX9_load (wsV RX9 237 RX9 yX9_raise wsX9_raise) := goodIn_app (goodIn_of _ (by decide +kernel)) ggX9_load_X9_raise
set_option maxRecDepth 20000 in
theorem ggX9_load_X9_clear : GoodIn wsX9_load wsX9_clear := goodIn_r _ [19, 20, 21, 11, 22] (by decide +kernel) (by decide +kernel)
set_option maxRecDepth 20000 in
theorem gX9_load_X9_clear : GoodIn wsX9_load (va_wsS RX9 93 yX9_clear wsX9_clear) := goodIn_app (goodIn_of _ (by decide +kernel)) ggX9_load_X9_clear
set_option maxRecDepth 20000 in
theorem ggX9_load_X9_startText : GoodIn wsX9_load wsX9_startText := goodIn_r _ [26, 27, 28, 6, 29, 30, 31, 32, 11, 33, 34, 35, 36, 37, 38, 39, 40, 41, 42, 43, 44, 45, 46, 47, 48, 212, 213, 214, 215, 216, 217, 218, 219, 220, 221, 222, 223, 224, 225, 226, 227, 228, 229, 230, 231, 232, 233, 234, 235, 236, 237, 238, 239, 240, 241, 242, 243, 244, 245, 246] (by decide +kernel) (by decide +kernel)
set_option maxRecDepth 20000 in
theorem gX9_load_X9_startText : GoodIn wsX9_load (wsV RX9 427 RX9 yX9_startText wsX9_startText) := goodIn_app (goodIn_of _ (by decide +kernel)) ggX9_load_X9_startText
set_option maxRecDepth 20000 in
theorem ggX9_load_X9_readAll : GoodIn wsX9_load wsX9_readAll := goodIn_r _ [52, 3, 6, 35, 53, 54, 55, 11, 56, 57, 58, 59, 60, 28, 34, 40, 61, 62, 63, 64, 65, 66, 67, 68, 69, 70, 71, 72, 73, 74, 75, 76, 77, 78, 79, 80, 81, 82, 83, 84, 85, 86, 87, 88, 89, 90, 91, 92, 93, 94, 95, 96, 97, 98, 99, 100, 101, 102, 103, 104, 105, 106, 107, 108, 109, 110, 111, 112, 113, 114, 115, 116, 117, 118, 119, 120, 121, 122, 30, 31, 32, 33, 27, 36, 37, 38, 39, 41, 42, 43, 44, 45, 46, 47, 48, 123, 124, 125, 126, 127, 128, 129, 130, 131, 132, 133, 134, 135, 136, 137, 9, 10, 12, 138, 139, 140, 141, 142, 143, 144, 145, 146, 147, 148, 149, 150, 151, 152, 153, 4, 154, 155, 156, 157, 158, 159, 160, 161, 162, 163, 164, 165, 166, 167, 168, 169, 170, 171, 172, 173, 174, 175, 176, 177, 178, 179, 180, 181, 182, 183, 184, 185, 186, 187, 188, 189, 190, 191, 192, 193, 194, 195, 196, 197, 198, 199, 200, 201, 202, 203, 20, 21, 22, 212, 213, 214, 215, 216, 217, 218, 219, 220, 221, 222, 223, 224, 225, 226, 227, 228, 229, 230, 231, 232, 233, 234, 235, 236, 237, 238, 239, 240, 241, 242, 243, 244, 245, 246] (by decide +kernel) (by decide +kernel)
set_option maxRecDepth 20000 in
theorem gX9_load_X9_readAll : GoodIn wsX9_load (wsV RX9 430 RX9 yX9_readAll wsX9_readAll) := goodIn_app (goodIn_of _ (by decide +kernel)) ggX9_load_X9_readAll
set_option maxRecDepth 20000 in
theorem ggX9_load_X9_finish : GoodIn wsX9_load wsX9_finish := goodIn_r _ [207, 2, 6, 118, 208, 212, 213, 214, 215, 216, 217, 218, 219, 220, 221, 222, 223, 224, 225, 226, 227, 228, 229, 230, 231, 232, 233, 234, 235, 236, 237, 238, 239, 240, 241, 242, 243, 244, 245, 246] (by decide +kernel) (by decide +kernel)
set_option maxRecDepth 20000 in
theorem gX9_load_X9_finish : GoodIn wsX9_load (wsV RX9 433 RX9 yX9_finish wsX9_finish) := goodIn_app (goodIn_of _ (by decide +kernel)) ggX9_load_X9_finish
set_option maxRecDepth 20000 in
theorem ggX9_load_X9_copy : GoodIn wsX9_load wsX9_copy := goodIn_r _ [211] (by decide +kernel) (by decide +kernel)
set_option maxRecDepth 20000 in
theorem gX9_load_X9_copy : GoodIn wsX9_load (va_wsS RX9 307 yX9_copy wsX9_copy) := goodIn_app (goodIn_of _ (by decide +kernel)) ggX9_load_X9_copy
set_option maxRecDepth 20000 in
theorem ggX9_load_X9_rooms : GoodIn wsX9_load wsX9_rooms := goodIn_r _ [153, 4, 212, 213, 214, 215, 216, 217, 218, 219, 220, 221, 222, 223, 224, 225, 226, 227, 228, 229, 230, 231, 232, 233, 234, 235, 236, 237, 238, 239, 240, 241, 242, 243, 244, 245, 246] (by decide +kernel) (by decide +kernel)
set_option maxRecDepth 20000 in
theorem gX9_load_X9_rooms : GoodIn wsX9_load (wsV RX9 110 RX9 yX9_rooms wsX9_rooms) := goodIn_app (goodIn_of _ (by decide +kernel)) ggX9_load_X9_rooms
theorem dX9_load_0 : decode cX9_load 0 = .ok (.aload_n 0, 1) := by decide +kernel
theorem dX9_load_1 : decode cX9_load 1 = .ok (.iconst 0, 1) := by decide +kernel
theorem dX9_load_2 : decode cX9_load 2 = .ok (.putfield 97, 3) := by decide +kernel
theorem dX9_load_5 : decode cX9_load 5 = .ok (.iload_n 1, 1) := by decide +kernel
theorem dX9_load_6 : decode cX9_load 6 = .ok (.iconst 0, 1) := by decide +kernel
theorem dX9_load_7 : decode cX9_load 7 = .ok (.aload_n 0, 1) := by decide +kernel
theorem dX9_load_8 : decode cX9_load 8 = .ok (.getfield 315, 3) := by decide +kernel
theorem dX9_load_11 : decode cX9_load 11 = .ok (.invokestatic 114, 3) := by decide +kernel
theorem dX9_load_14 : decode cX9_load 14 = .ok (.ifCond .ne 9, 3) := by decide +kernel
theorem dX9_load_17 : decode cX9_load 17 = .ok (.aload_n 0, 1) := by decide +kernel
theorem dX9_load_18 : decode cX9_load 18 = .ok (.iconst 1, 1) := by decide +kernel
theorem dX9_load_19 : decode cX9_load 19 = .ok (.invokevirtual 237, 3) := by decide +kernel
theorem dX9_load_22 : decode cX9_load 22 = .ok (.ireturn, 1) := by decide +kernel
theorem dX9_load_23 : decode cX9_load 23 = .ok (.aload_n 0, 1) := by decide +kernel
theorem dX9_load_24 : decode cX9_load 24 = .ok (.getfield 13, 3) := by decide +kernel
theorem dX9_load_27 : decode cX9_load 27 = .ok (.invokestatic 93, 3) := by decide +kernel
theorem dX9_load_30 : decode cX9_load 30 = .ok (.aload_n 0, 1) := by decide +kernel
theorem dX9_load_31 : decode cX9_load 31 = .ok (.aload_n 0, 1) := by decide +kernel
theorem dX9_load_32 : decode cX9_load 32 = .ok (.getfield 13, 3) := by decide +kernel
theorem dX9_load_35 : decode cX9_load 35 = .ok (.putfield 22, 3) := by decide +kernel
theorem dX9_load_38 : decode cX9_load 38 = .ok (.aload_n 0, 1) := by decide +kernel
theorem dX9_load_39 : decode cX9_load 39 = .ok (.iload_n 1, 1) := by decide +kernel
theorem dX9_load_40 : decode cX9_load 40 = .ok (.invokevirtual 427, 3) := by decide +kernel
theorem dX9_load_43 : decode cX9_load 43 = .ok (.aload_n 0, 1) := by decide +kernel
theorem dX9_load_44 : decode cX9_load 44 = .ok (.invokevirtual 430, 3) := by decide +kernel
theorem dX9_load_47 : decode cX9_load 47 = .ok (.aload_n 0, 1) := by decide +kernel
theorem dX9_load_48 : decode cX9_load 48 = .ok (.aload_n 0, 1) := by decide +kernel
theorem dX9_load_49 : decode cX9_load 49 = .ok (.getfield 9, 3) := by decide +kernel
theorem dX9_load_52 : decode cX9_load 52 = .ok (.putfield 22, 3) := by decide +kernel
theorem dX9_load_55 : decode cX9_load 55 = .ok (.aload_n 0, 1) := by decide +kernel
theorem dX9_load_56 : decode cX9_load 56 = .ok (.invokevirtual 433, 3) := by decide +kernel
theorem dX9_load_59 : decode cX9_load 59 = .ok (.ifCond .eq 11, 3) := by decide +kernel
theorem dX9_load_62 : decode cX9_load 62 = .ok (.bipush (-10), 2) := by decide +kernel
theorem dX9_load_64 : decode cX9_load 64 = .ok (.aload_n 0, 1) := by decide +kernel
theorem dX9_load_65 : decode cX9_load 65 = .ok (.getfield 338, 3) := by decide +kernel
theorem dX9_load_68 : decode cX9_load 68 = .ok (.isub, 1) := by decide +kernel
theorem dX9_load_69 : decode cX9_load 69 = .ok (.ireturn, 1) := by decide +kernel
theorem dX9_load_70 : decode cX9_load 70 = .ok (.aload_n 0, 1) := by decide +kernel
theorem dX9_load_71 : decode cX9_load 71 = .ok (.getfield 13, 3) := by decide +kernel
theorem dX9_load_74 : decode cX9_load 74 = .ok (.iconst 0, 1) := by decide +kernel
theorem dX9_load_75 : decode cX9_load 75 = .ok (.aload_n 0, 1) := by decide +kernel
theorem dX9_load_76 : decode cX9_load 76 = .ok (.getfield 9, 3) := by decide +kernel
theorem dX9_load_79 : decode cX9_load 79 = .ok (.iconst 0, 1) := by decide +kernel
theorem dX9_load_80 : decode cX9_load 80 = .ok (.invokestatic 307, 3) := by decide +kernel
theorem dX9_load_83 : decode cX9_load 83 = .ok (.aload_n 0, 1) := by decide +kernel
theorem dX9_load_84 : decode cX9_load 84 = .ok (.iconst 0, 1) := by decide +kernel
theorem dX9_load_85 : decode cX9_load 85 = .ok (.putfield 304, 3) := by decide +kernel
theorem dX9_load_88 : decode cX9_load 88 = .ok (.aload_n 0, 1) := by decide +kernel
theorem dX9_load_89 : decode cX9_load 89 = .ok (.iconst 0, 1) := by decide +kernel
theorem dX9_load_90 : decode cX9_load 90 = .ok (.putfield 311, 3) := by decide +kernel
theorem dX9_load_93 : decode cX9_load 93 = .ok (.aload_n 0, 1) := by decide +kernel
theorem dX9_load_94 : decode cX9_load 94 = .ok (.invokevirtual 110, 3) := by decide +kernel
theorem dX9_load_97 : decode cX9_load 97 = .ok (.ireturn, 1) := by decide +kernel
set_option maxRecDepth 20000 in
theorem ggX9_change_X9_inRange : GoodIn wsX9_change wsX9_inRange := goodIn_r _ [11] (by decide +kernel) (by decide +kernel)
set_option maxRecDepth 20000 in
theorem gX9_change_X9_inRange : GoodIn wsX9_change (va_wsS RX9 114 yX9_inRange wsX9_inRange) := goodIn_app (goodIn_of _ (by decide +kernel)) ggX9_change_X9_inRange
set_option maxRecDepth 20000 in
theorem ggX9_change_X9_raise : GoodIn wsX9_change wsX9_raise := goodIn_r _ [15, 1, 205, 206, 207, 208, 209, 210, 211, 212, 213, 214, 215, 216, 217, 218, 219, 220, 221, 222, 223, 224, 225, 226, 227, 228, 229, 230, 231, 232, 233, 234, 235, 236, 237, 238, 239] (by decide +kernel) (by decide +kernel)
set_option maxRecDepth 20000 in
theorem gX9_change_X9_raise : GoodIn wsX9_change (wsV RX9 237 RX9 yX9_raise wsX9_raise) := goodIn_app (goodIn_of _ (by decide +kernel)) ggX9_change_X9_raise
set_option maxRecDepth 20000 in
theorem ggX9_change_X9_copy : GoodIn wsX9_change wsX9_copy := goodIn_r _ [18] (by decide +kernel) (by decide +kernel)
set_option maxRecDepth 20000 in
theorem gX9_change_X9_copy : GoodIn wsX9_change (va_wsS RX9 307 yX9_copy wsX9_copy) := goodIn_app (goodIn_of _ (by decide +kernel)) ggX9_change_X9_copy
set_option maxRecDepth 20000 in
theorem ggX9_change_X9_startText : GoodIn wsX9_change wsX9_startText := goodIn_r _ [22, 23, 24, 6, 25, 26, 27, 28, 10, 29, 30, 7, 31, 32, 33, 34, 35, 36, 37, 38, 39, 40, 41, 42, 43, 205, 206, 207, 208, 209, 210, 211, 212, 213, 214, 215, 216, 217, 218, 219, 220, 221, 222, 223, 224, 225, 226, 227, 228, 229, 230, 231, 232, 233, 234, 235, 236, 237, 238, 239] (by decide +kernel) (by decide +kernel)
set_option maxRecDepth 20000 in
theorem gX9_change_X9_startText : GoodIn wsX9_change (wsV RX9 427 RX9 yX9_startText wsX9_startText) := goodIn_app (goodIn_of _ (by decide +kernel)) ggX9_change_X9_startText
set_option maxRecDepth 20000 in
theorem ggX9_change_X9_expectWord : GoodIn wsX9_change wsX9_expectWord := goodIn_r _ [47, 48, 49, 50, 10, 51, 6, 7, 24, 30, 35, 52, 53, 54, 55, 56, 57, 58, 59, 60, 61, 62, 63, 64, 65, 66, 67, 68, 69, 70, 71, 72, 73, 74, 75, 76, 77, 78, 79, 80, 81, 82, 83, 84, 85, 86, 87, 88, 89, 90, 91, 92, 93, 94, 95, 96, 97, 98, 99, 100, 101, 102, 103, 104, 105, 106, 107, 108, 109, 110, 111, 112, 113, 26, 27, 28, 29, 23, 31, 32, 33, 34, 36, 37, 38, 39, 40, 41, 42, 43, 205, 206, 207, 208, 209, 210, 211, 212, 213, 214, 215, 216, 217, 218, 219, 220, 221, 222, 223, 224, 225, 226, 227, 228, 229, 230, 231, 232, 233, 234, 235, 236, 237, 238, 239] (by decide +kernel) (by decide +kernel)
set_option maxRecDepth 20000 in
theorem gX9_change_X9_expectWord : GoodIn wsX9_change (wsV RX9 407 RX9 yX9_expectWord wsX9_expectWord) := goodIn_app (goodIn_of _ (by decide +kernel)) ggX9_change_X9_expectWord
set_option maxRecDepth 20000 in
theorem ggX9_change_X9_guards : GoodIn wsX9_change wsX9_guards := goodIn_r _ [117, 5, 205, 206, 207, 208, 209, 210, 211, 212, 213, 214, 215, 216, 217, 218, 219, 220, 221, 222, 223, 224, 225, 226, 227, 228, 229, 230, 231, 232, 233, 234, 235, 236, 237, 238, 239] (by decide +kernel) (by decide +kernel)
set_option maxRecDepth 20000 in
theorem gX9_change_X9_guards : GoodIn wsX9_change (wsV RX9 118 RX9 yX9_guards wsX9_guards) := goodIn_app (goodIn_of _ (by decide +kernel)) ggX9_change_X9_guards
set_option maxRecDepth 20000 in
theorem ggX9_change_X9_readNumber : GoodIn wsX9_change wsX9_readNumber := goodIn_r _ [121, 6, 7, 101, 102, 103, 10, 104, 105, 106, 107, 108, 30, 109, 122, 123, 124, 125, 24, 126, 127, 35, 128, 129, 130, 131, 132, 8, 9, 11, 110, 111, 112, 113, 26, 27, 28, 29, 23, 31, 32, 33, 34, 36, 37, 38, 39, 40, 41, 42, 43, 205, 206, 207, 208, 209, 210, 211, 212, 213, 214, 215, 216, 217, 218, 219, 220, 221, 222, 223, 224, 225, 226, 227, 228, 229, 230, 231, 232, 233, 234, 235, 236, 237, 238, 239] (by decide +kernel) (by decide +kernel)
set_option maxRecDepth 20000 in
theorem gX9_change_X9_readNumber : GoodIn wsX9_change (wsV RX9 387 RX9 yX9_readNumber wsX9_readNumber) := goodIn_app (goodIn_of _ (by decide +kernel)) ggX9_change_X9_readNumber
set_option maxRecDepth 20000 in
theorem ggX9_change_X9_readWalk : GoodIn wsX9_change wsX9_readWalk := goodIn_r _ [136, 4, 6, 7, 137, 138, 10, 139, 140, 141, 142, 143, 101, 102, 103, 104, 105, 106, 107, 108, 30, 109, 122, 123, 124, 125, 24, 126, 127, 35, 128, 129, 130, 131, 132, 144, 145, 146, 147, 148, 149, 150, 151, 5, 8, 9, 11, 152, 153, 154, 155, 156, 157, 158, 159, 160, 161, 162, 163, 164, 165, 166, 167, 168, 169, 170, 171, 172, 173, 174, 110, 111, 112, 113, 26, 27, 28, 29, 23, 31, 32, 33, 34, 36, 37, 38, 39, 40, 41, 42, 43, 48, 49, 50, 51, 52, 53, 54, 55, 56, 57, 58, 59, 60, 61, 62, 63, 64, 65, 66, 67, 68, 69, 70, 71, 72, 73, 74, 75, 76, 77, 78, 79, 80, 81, 82, 83, 84, 85, 86, 87, 88, 89, 90, 91, 92, 93, 94, 95, 96, 97, 98, 99, 100, 175, 176, 177, 178, 179, 180, 181, 182, 118, 119, 120, 121, 205, 206, 207, 208, 209, 210, 211, 212, 213, 214, 215, 216, 217, 218, 219, 220, 221, 222, 223, 224, 225, 226, 227, 228, 229, 230, 231, 232, 233, 234, 235, 236, 237, 238, 239] (by decide +kernel) (by decide +kernel)
set_option maxRecDepth 20000 in
theorem gX9_change_X9_readWalk : GoodIn wsX9_change (wsV RX9 403 RX9 yX9_readWalk wsX9_readWalk) := goodIn_app (goodIn_of _ (by decide +kernel)) ggX9_change_X9_readWalk
set_option maxRecDepth 20000 in
theorem ggX9_change_X9_check : GoodIn wsX9_change wsX9_check := goodIn_r _ [104, 105, 106, 107, 10, 108, 6, 30, 109, 205, 206, 207, 208, 209, 210, 211, 212, 213, 214, 215, 216, 217, 218, 219, 220, 221, 222, 223, 224, 225, 226, 227, 228, 229, 230, 231, 232, 233, 234, 235, 236, 237, 238, 239] (by decide +kernel) (by decide +kernel)
set_option maxRecDepth 20000 in
theorem gX9_change_X9_check : GoodIn wsX9_change (wsV RX9 364 RX9 yX9_check wsX9_check) := goodIn_app (goodIn_of _ (by decide +kernel)) ggX9_change_X9_check

theorem dX8_adopt_6 : decode cX8_adopt 6 = .ok (.getfield 22, 3) := by decide +kernel
theorem dX8_adopt_9 : decode cX8_adopt 9 = .ok (.aload_n 0, 1) := by decide +kernel
theorem dX8_adopt_10 : decode cX8_adopt 10 = .ok (.getfield 10, 3) := by decide +kernel
theorem dX8_adopt_13 : decode cX8_adopt 13 = .ok (.invokevirtual 282, 3) := by decide +kernel
theorem dX8_adopt_16 : decode cX8_adopt 16 = .ok (.iconst 0, 1) := by decide +kernel
theorem dX8_adopt_17 : decode cX8_adopt 17 = .ok (.istore_n 2, 1) := by decide +kernel
theorem dX8_adopt_18 : decode cX8_adopt 18 = .ok (.iconst 0, 1) := by decide +kernel
theorem dX8_adopt_19 : decode cX8_adopt 19 = .ok (.istore_n 3, 1) := by decide +kernel
theorem dX8_adopt_20 : decode cX8_adopt 20 = .ok (.iload_n 3, 1) := by decide +kernel
theorem dX8_adopt_21 : decode cX8_adopt 21 = .ok (.aload_n 0, 1) := by decide +kernel
theorem dX8_adopt_22 : decode cX8_adopt 22 = .ok (.getfield 10, 3) := by decide +kernel
theorem dX8_adopt_25 : decode cX8_adopt 25 = .ok (.getfield 125, 3) := by decide +kernel
theorem dX8_adopt_28 : decode cX8_adopt 28 = .ok (.if_icmp .ge 50, 3) := by decide +kernel
theorem dX8_adopt_31 : decode cX8_adopt 31 = .ok (.iload_n 3, 1) := by decide +kernel
theorem dX8_adopt_32 : decode cX8_adopt 32 = .ok (.iconst 4, 1) := by decide +kernel
theorem dX8_adopt_33 : decode cX8_adopt 33 = .ok (.if_icmp .ge 45, 3) := by decide +kernel
theorem dX8_adopt_36 : decode cX8_adopt 36 = .ok (.aload_n 0, 1) := by decide +kernel
theorem dX8_adopt_37 : decode cX8_adopt 37 = .ok (.getfield 10, 3) := by decide +kernel
theorem dX8_adopt_40 : decode cX8_adopt 40 = .ok (.getfield 215, 3) := by decide +kernel
theorem dX8_adopt_43 : decode cX8_adopt 43 = .ok (.iload_n 3, 1) := by decide +kernel
theorem dX8_adopt_44 : decode cX8_adopt 44 = .ok (.iaload, 1) := by decide +kernel
theorem dX8_adopt_45 : decode cX8_adopt 45 = .ok (.aload_n 1, 1) := by decide +kernel
theorem dX8_adopt_46 : decode cX8_adopt 46 = .ok (.getfield 267, 3) := by decide +kernel
theorem dX8_adopt_49 : decode cX8_adopt 49 = .ok (.iload_n 3, 1) := by decide +kernel
theorem dX8_adopt_50 : decode cX8_adopt 50 = .ok (.iaload, 1) := by decide +kernel
theorem dX8_adopt_51 : decode cX8_adopt 51 = .ok (.if_icmp .eq 21, 3) := by decide +kernel
theorem dX8_adopt_54 : decode cX8_adopt 54 = .ok (.aload_n 0, 1) := by decide +kernel
theorem dX8_adopt_55 : decode cX8_adopt 55 = .ok (.getfield 10, 3) := by decide +kernel
theorem dX8_adopt_58 : decode cX8_adopt 58 = .ok (.getfield 215, 3) := by decide +kernel
theorem dX8_adopt_61 : decode cX8_adopt 61 = .ok (.iload_n 3, 1) := by decide +kernel
theorem dX8_adopt_62 : decode cX8_adopt 62 = .ok (.aload_n 1, 1) := by decide +kernel
theorem dX8_adopt_63 : decode cX8_adopt 63 = .ok (.getfield 267, 3) := by decide +kernel
theorem dX8_adopt_66 : decode cX8_adopt 66 = .ok (.iload_n 3, 1) := by decide +kernel
theorem dX8_adopt_67 : decode cX8_adopt 67 = .ok (.iaload, 1) := by decide +kernel
theorem dX8_adopt_68 : decode cX8_adopt 68 = .ok (.iastore, 1) := by decide +kernel
theorem dX8_adopt_69 : decode cX8_adopt 69 = .ok (.iinc 2 1, 3) := by decide +kernel
theorem dX8_adopt_72 : decode cX8_adopt 72 = .ok (.iinc 3 1, 3) := by decide +kernel
theorem dX8_adopt_75 : decode cX8_adopt 75 = .ok (.goto (-55), 3) := by decide +kernel
theorem dX8_adopt_78 : decode cX8_adopt 78 = .ok (.aload_n 0, 1) := by decide +kernel
theorem dX8_adopt_79 : decode cX8_adopt 79 = .ok (.invokevirtual 288, 3) := by decide +kernel
theorem dX8_adopt_82 : decode cX8_adopt 82 = .ok (.iload_n 2, 1) := by decide +kernel
theorem dX8_adopt_83 : decode cX8_adopt 83 = .ok (.ireturn, 1) := by decide +kernel
set_option maxRecDepth 20000 in
theorem ggX8_closeDoor_X8_needDoor : GoodIn wsX8_closeDoor wsX8_needDoor := goodIn_ca (goodIn_r _ [7, 8, 9, 1, 10, 11, 12, 13, 14, 15, 117, 118, 119, 120, 121, 122, 123, 124, 125, 126, 127, 128, 129, 130, 131, 132, 133, 134, 135, 136, 137, 138, 139, 140, 141, 142, 143, 144, 145, 146, 147, 148, 149] (by decide +kernel) (by decide +kernel)) (goodIn_sub (fun _ h => List.mem_cons_of_mem _ (List.mem_append_right _ h)) (by decide +kernel))
set_option maxRecDepth 20000 in
theorem gX8_closeDoor_X8_needDoor : GoodIn wsX8_closeDoor (wsV RX8 161 RX8 yX8_needDoor wsX8_needDoor) := goodIn_app (goodIn_of _ (by decide +kernel)) ggX8_closeDoor_X8_needDoor
set_option maxRecDepth 20000 in
theorem ggX8_closeDoor_X2_isOpen : GoodIn wsX8_closeDoor wsX2_isOpen := goodIn_r _ [19, 20, 21, 6, 22, 131, 132, 133, 134, 135, 136, 137, 138, 139, 140, 141, 142, 143, 144, 145, 146, 147, 148, 149] (by decide +kernel) (by decide +kernel)
set_option maxRecDepth 20000 in
theorem gX8_closeDoor_X2_isOpen : GoodIn wsX8_closeDoor (wsV RX8 170 RX2 yX2_isOpen wsX2_isOpen) := goodIn_app (goodIn_of _ (by decide +kernel)) ggX8_closeDoor_X2_isOpen
set_option maxRecDepth 20000 in
theorem ggX8_closeDoor_X2_countGuardsThrough : GoodIn wsX8_closeDoor wsX2_countGuardsThrough := goodIn_r _ [26, 27, 28, 29, 30, 11, 12, 13, 14, 15, 31, 32, 33, 34, 35, 36, 37, 38, 39, 40, 41, 42, 43, 44, 45, 46, 47, 48, 131, 132, 133, 134, 135, 136, 137, 138, 139, 140, 141, 142, 143, 144, 145, 146, 147, 148, 149] (by decide +kernel) (by decide +kernel)
set_option maxRecDepth 20000 in
theorem gX8_closeDoor_X2_countGuardsThrough : GoodIn wsX8_closeDoor (wsV RX8 174 RX2 yX2_countGuardsThrough wsX2_countGuardsThrough) := goodIn_app (goodIn_of _ (by decide +kernel)) ggX8_closeDoor_X2_countGuardsThrough
set_option maxRecDepth 20000 in
theorem ggX8_closeDoor_X2_hasOtherOpenDoor : GoodIn wsX8_closeDoor wsX2_hasOtherOpenDoor := goodIn_r _ [52, 15, 53, 17, 18, 13, 19, 20, 21, 6, 22, 54, 55, 56, 57, 28, 29, 30, 11, 12, 14, 131, 132, 133, 134, 135, 136, 137, 138, 139, 140, 141, 142, 143, 144, 145, 146, 147, 148, 149] (by decide +kernel) (by decide +kernel)
set_option maxRecDepth 20000 in
theorem gX8_closeDoor_X2_hasOtherOpenDoor : GoodIn wsX8_closeDoor (wsV RX8 291 RX2 yX2_hasOtherOpenDoor wsX2_hasOtherOpenDoor) := goodIn_app (goodIn_of _ (by decide +kernel)) ggX8_closeDoor_X2_hasOtherOpenDoor
set_option maxRecDepth 20000 in
theorem ggX8_closeDoor_X1_record : GoodIn wsX8_closeDoor wsX1_record := goodIn_r _ [62, 63, 64, 65, 66, 67, 68, 69, 70, 71, 72, 13, 73, 74, 15, 27, 75, 20, 76, 77, 28, 78, 79, 80, 81, 29, 82, 83, 39, 84, 40, 85, 86, 87, 88, 89, 150, 151, 152, 153, 154, 131, 132, 133, 134, 135, 136, 137, 138, 139, 140, 141, 142, 143, 144, 145, 146, 147, 148, 149] (by decide +kernel) (by decide +kernel)
set_option maxRecDepth 20000 in
theorem gX8_closeDoor_X1_record : GoodIn wsX8_closeDoor (wsV RX8 282 RX1 yX1_record wsX1_record) := goodIn_app (goodIn_of _ (by decide +kernel)) ggX8_closeDoor_X1_record
set_option maxRecDepth 20000 in
theorem ggX8_closeDoor_X2_setOpen : GoodIn wsX8_closeDoor wsX2_setOpen := goodIn_r _ [93, 20, 82, 15, 28, 29, 94, 95, 96, 97, 53, 17, 18, 13, 19, 21, 6, 22, 98, 99, 100, 101, 102, 103, 104, 105, 74, 131, 132, 133, 134, 135, 136, 137, 138, 139, 140, 141, 142, 143, 144, 145, 146, 147, 148, 149] (by decide +kernel) (by decide +kernel)
set_option maxRecDepth 20000 in
theorem gX8_closeDoor_X2_setOpen : GoodIn wsX8_closeDoor (wsV RX8 294 RX2 yX2_setOpen wsX2_setOpen) := goodIn_app (goodIn_of _ (by decide +kernel)) ggX8_closeDoor_X2_setOpen
set_option maxRecDepth 20000 in
theorem ggX8_closeDoor_X2_countOpenDoors : GoodIn wsX8_closeDoor wsX2_countOpenDoors := goodIn_r _ [109, 20, 110, 111, 112, 113, 114, 115, 116, 131, 132, 133, 134, 135, 136, 137, 138, 139, 140, 141, 142, 143, 144, 145, 146, 147, 148, 149] (by decide +kernel) (by decide +kernel)
set_option maxRecDepth 20000 in
theorem gX8_closeDoor_X2_countOpenDoors : GoodIn wsX8_closeDoor (wsV RX8 148 RX2 yX2_countOpenDoors wsX2_countOpenDoors) := goodIn_app (goodIn_of _ (by decide +kernel)) ggX8_closeDoor_X2_countOpenDoors
theorem dX8_closeDoor_0 : decode cX8_closeDoor 0 = .ok (.aload_n 0, 1) := by decide +kernel
theorem dX8_closeDoor_1 : decode cX8_closeDoor 1 = .ok (.iload_n 1, 1) := by decide +kernel
theorem dX8_closeDoor_2 : decode cX8_closeDoor 2 = .ok (.invokevirtual 161, 3) := by decide +kernel
theorem dX8_closeDoor_5 : decode cX8_closeDoor 5 = .ok (.aload_n 0, 1) := by decide +kernel
theorem dX8_closeDoor_6 : decode cX8_closeDoor 6 = .ok (.getfield 10, 3) := by decide +kernel
theorem dX8_closeDoor_9 : decode cX8_closeDoor 9 = .ok (.iload_n 1, 1) := by decide +kernel
theorem dX8_closeDoor_10 : decode cX8_closeDoor 10 = .ok (.invokevirtual 170, 3) := by decide +kernel
theorem dX8_closeDoor_13 : decode cX8_closeDoor 13 = .ok (.ifCond .ne 6, 3) := by decide +kernel
theorem dX8_closeDoor_16 : decode cX8_closeDoor 16 = .ok (.bipush (-2), 2) := by decide +kernel
theorem dX8_closeDoor_18 : decode cX8_closeDoor 18 = .ok (.ireturn, 1) := by decide +kernel
theorem dX8_closeDoor_19 : decode cX8_closeDoor 19 = .ok (.aload_n 0, 1) := by decide +kernel
theorem dX8_closeDoor_20 : decode cX8_closeDoor 20 = .ok (.getfield 10, 3) := by decide +kernel
theorem dX8_closeDoor_23 : decode cX8_closeDoor 23 = .ok (.iload_n 1, 1) := by decide +kernel
theorem dX8_closeDoor_24 : decode cX8_closeDoor 24 = .ok (.invokevirtual 174, 3) := by decide +kernel
theorem dX8_closeDoor_27 : decode cX8_closeDoor 27 = .ok (.ifCond .le 17, 3) := by decide +kernel
theorem dX8_closeDoor_30 : decode cX8_closeDoor 30 = .ok (.aload_n 0, 1) := by decide +kernel
theorem dX8_closeDoor_31 : decode cX8_closeDoor 31 = .ok (.getfield 10, 3) := by decide +kernel
theorem dX8_closeDoor_34 : decode cX8_closeDoor 34 = .ok (.iload_n 1, 1) := by decide +kernel
theorem dX8_closeDoor_35 : decode cX8_closeDoor 35 = .ok (.invokevirtual 291, 3) := by decide +kernel
theorem dX8_closeDoor_38 : decode cX8_closeDoor 38 = .ok (.ifCond .ne 6, 3) := by decide +kernel
theorem dX8_closeDoor_41 : decode cX8_closeDoor 41 = .ok (.bipush (-3), 2) := by decide +kernel
theorem dX8_closeDoor_43 : decode cX8_closeDoor 43 = .ok (.ireturn, 1) := by decide +kernel
theorem dX8_closeDoor_44 : decode cX8_closeDoor 44 = .ok (.aload_n 0, 1) := by decide +kernel
theorem dX8_closeDoor_45 : decode cX8_closeDoor 45 = .ok (.getfield 22, 3) := by decide +kernel
theorem dX8_closeDoor_48 : decode cX8_closeDoor 48 = .ok (.aload_n 0, 1) := by decide +kernel
theorem dX8_closeDoor_49 : decode cX8_closeDoor 49 = .ok (.getfield 10, 3) := by decide +kernel
theorem dX8_closeDoor_52 : decode cX8_closeDoor 52 = .ok (.invokevirtual 282, 3) := by decide +kernel
theorem dX8_closeDoor_55 : decode cX8_closeDoor 55 = .ok (.aload_n 0, 1) := by decide +kernel
theorem dX8_closeDoor_56 : decode cX8_closeDoor 56 = .ok (.getfield 10, 3) := by decide +kernel
theorem dX8_closeDoor_59 : decode cX8_closeDoor 59 = .ok (.iload_n 1, 1) := by decide +kernel
theorem dX8_closeDoor_60 : decode cX8_closeDoor 60 = .ok (.iconst 0, 1) := by decide +kernel
theorem dX8_closeDoor_61 : decode cX8_closeDoor 61 = .ok (.invokevirtual 294, 3) := by decide +kernel
theorem dX8_closeDoor_64 : decode cX8_closeDoor 64 = .ok (.aload_n 0, 1) := by decide +kernel
theorem dX8_closeDoor_65 : decode cX8_closeDoor 65 = .ok (.getfield 10, 3) := by decide +kernel
theorem dX8_closeDoor_68 : decode cX8_closeDoor 68 = .ok (.invokevirtual 148, 3) := by decide +kernel
theorem dX8_closeDoor_71 : decode cX8_closeDoor 71 = .ok (.ireturn, 1) := by decide +kernel
set_option maxRecDepth 20000 in
theorem ggX8_openDoor_X8_needDoor : GoodIn wsX8_openDoor wsX8_needDoor := goodIn_ca (goodIn_r _ [7, 8, 9, 1, 10, 11, 12, 13, 14, 15, 88, 89, 90, 91, 92, 93, 94, 95, 96, 97, 98, 99, 100, 101, 102, 103, 104, 105, 106, 107, 108, 109, 110, 111, 112, 113, 114, 115, 116, 117, 118, 119, 120] (by decide +kernel) (by decide +kernel)) (goodIn_sub (fun _ h => List.mem_cons_of_mem _ (List.mem_append_right _ h)) (by decide +kernel))
set_option maxRecDepth 20000 in
theorem gX8_openDoor_X8_needDoor : GoodIn wsX8_openDoor (wsV RX8 161 RX8 yX8_needDoor wsX8_needDoor) := goodIn_app (goodIn_of _ (by decide +kernel)) ggX8_openDoor_X8_needDoor
set_option maxRecDepth 20000 in
theorem ggX8_openDoor_X2_isOpen : GoodIn wsX8_openDoor wsX2_isOpen := goodIn_r _ [19, 20, 21, 6, 22, 102, 103, 104, 105, 106, 107, 108, 109, 110, 111, 112, 113, 114, 115, 116, 117, 118, 119, 120] (by decide +kernel) (by decide +kernel)
set_option maxRecDepth 20000 in
theorem gX8_openDoor_X2_isOpen : GoodIn wsX8_openDoor (wsV RX8 170 RX2 yX2_isOpen wsX2_isOpen) := goodIn_app (goodIn_of _ (by decide +kernel)) ggX8_openDoor_X2_isOpen
set_option maxRecDepth 20000 in
theorem ggX8_openDoor_X1_record : GoodIn wsX8_openDoor wsX1_record := goodIn_r _ [27, 28, 29, 30, 31, 32, 33, 34, 35, 36, 37, 13, 38, 39, 15, 40, 41, 20, 42, 43, 44, 45, 46, 47, 48, 49, 50, 51, 52, 53, 54, 55, 56, 57, 58, 59, 121, 122, 123, 124, 125, 102, 103, 104, 105, 106, 107, 108, 109, 110, 111, 112, 113, 114, 115, 116, 117, 118, 119, 120] (by decide +kernel) (by decide +kernel)
set_option maxRecDepth 20000 in
theorem gX8_openDoor_X1_record : GoodIn wsX8_openDoor (wsV RX8 282 RX1 yX1_record wsX1_record) := goodIn_app (goodIn_of _ (by decide +kernel)) ggX8_openDoor_X1_record
set_option maxRecDepth 20000 in
theorem ggX8_openDoor_X2_setOpen : GoodIn wsX8_openDoor wsX2_setOpen := goodIn_r _ [63, 20, 50, 15, 44, 49, 64, 65, 66, 67, 68, 17, 18, 13, 19, 21, 6, 22, 69, 70, 71, 72, 73, 74, 75, 76, 39, 102, 103, 104, 105, 106, 107, 108, 109, 110, 111, 112, 113, 114, 115, 116, 117, 118, 119, 120] (by decide +kernel) (by decide +kernel)
set_option maxRecDepth 20000 in
theorem gX8_openDoor_X2_setOpen : GoodIn wsX8_openDoor (wsV RX8 294 RX2 yX2_setOpen wsX2_setOpen) := goodIn_app (goodIn_of _ (by decide +kernel)) ggX8_openDoor_X2_setOpen
set_option maxRecDepth 20000 in
theorem ggX8_openDoor_X2_countOpenDoors : GoodIn wsX8_openDoor wsX2_countOpenDoors := goodIn_r _ [80, 20, 81, 82, 83, 84, 85, 86, 87, 102, 103, 104, 105, 106, 107, 108, 109, 110, 111, 112, 113, 114, 115, 116, 117, 118, 119, 120] (by decide +kernel) (by decide +kernel)
set_option maxRecDepth 20000 in
theorem gX8_openDoor_X2_countOpenDoors : GoodIn wsX8_openDoor (wsV RX8 148 RX2 yX2_countOpenDoors wsX2_countOpenDoors) := goodIn_app (goodIn_of _ (by decide +kernel)) ggX8_openDoor_X2_countOpenDoors
theorem dX8_openDoor_0 : decode cX8_openDoor 0 = .ok (.aload_n 0, 1) := by decide +kernel
theorem dX8_openDoor_1 : decode cX8_openDoor 1 = .ok (.iload_n 1, 1) := by decide +kernel
theorem dX8_openDoor_2 : decode cX8_openDoor 2 = .ok (.invokevirtual 161, 3) := by decide +kernel
theorem dX8_openDoor_5 : decode cX8_openDoor 5 = .ok (.aload_n 0, 1) := by decide +kernel
theorem dX8_openDoor_6 : decode cX8_openDoor 6 = .ok (.getfield 10, 3) := by decide +kernel
theorem dX8_openDoor_9 : decode cX8_openDoor 9 = .ok (.iload_n 1, 1) := by decide +kernel
theorem dX8_openDoor_10 : decode cX8_openDoor 10 = .ok (.invokevirtual 170, 3) := by decide +kernel
theorem dX8_openDoor_13 : decode cX8_openDoor 13 = .ok (.ifCond .eq 6, 3) := by decide +kernel
theorem dX8_openDoor_16 : decode cX8_openDoor 16 = .ok (.bipush (-2), 2) := by decide +kernel
theorem dX8_openDoor_18 : decode cX8_openDoor 18 = .ok (.ireturn, 1) := by decide +kernel
theorem dX8_openDoor_19 : decode cX8_openDoor 19 = .ok (.aload_n 0, 1) := by decide +kernel
theorem dX8_openDoor_20 : decode cX8_openDoor 20 = .ok (.getfield 22, 3) := by decide +kernel
theorem dX8_openDoor_23 : decode cX8_openDoor 23 = .ok (.aload_n 0, 1) := by decide +kernel
theorem dX8_openDoor_24 : decode cX8_openDoor 24 = .ok (.getfield 10, 3) := by decide +kernel
theorem dX8_openDoor_27 : decode cX8_openDoor 27 = .ok (.invokevirtual 282, 3) := by decide +kernel
theorem dX8_openDoor_30 : decode cX8_openDoor 30 = .ok (.aload_n 0, 1) := by decide +kernel
theorem dX8_openDoor_31 : decode cX8_openDoor 31 = .ok (.getfield 10, 3) := by decide +kernel
theorem dX8_openDoor_34 : decode cX8_openDoor 34 = .ok (.iload_n 1, 1) := by decide +kernel
theorem dX8_openDoor_35 : decode cX8_openDoor 35 = .ok (.iconst 1, 1) := by decide +kernel
theorem dX8_openDoor_36 : decode cX8_openDoor 36 = .ok (.invokevirtual 294, 3) := by decide +kernel
theorem dX8_openDoor_39 : decode cX8_openDoor 39 = .ok (.aload_n 0, 1) := by decide +kernel
theorem dX8_openDoor_40 : decode cX8_openDoor 40 = .ok (.getfield 10, 3) := by decide +kernel
theorem dX8_openDoor_43 : decode cX8_openDoor 43 = .ok (.invokevirtual 148, 3) := by decide +kernel
theorem dX8_openDoor_46 : decode cX8_openDoor 46 = .ok (.ireturn, 1) := by decide +kernel
set_option maxRecDepth 20000 in
theorem ggX8_setLimit_X8_needRoom : GoodIn wsX8_setLimit wsX8_needRoom := goodIn_ca (goodIn_r _ [8, 9, 10, 2, 11, 12, 13, 14, 15, 16, 128, 129, 130, 131, 132, 133, 134, 135, 136, 137, 138, 139, 140, 141, 142, 143, 144, 145, 146, 147, 148, 149, 150, 151, 152, 153, 154, 155, 156, 157, 158, 159, 160] (by decide +kernel) (by decide +kernel)) (goodIn_sub (fun _ h => List.mem_cons_of_mem _ (List.mem_append_left _ (List.mem_append_right _ h))) (by decide +kernel))
set_option maxRecDepth 20000 in
theorem gX8_setLimit_X8_needRoom : GoodIn wsX8_setLimit (wsV RX8 180 RX8 yX8_needRoom wsX8_needRoom) := goodIn_app (goodIn_of _ (by decide +kernel)) ggX8_setLimit_X8_needRoom
set_option maxRecDepth 20000 in
theorem ggX8_setLimit_X8_needRange : GoodIn wsX8_setLimit wsX8_needRange := goodIn_ca (goodIn_r _ [19, 20, 21] (by decide +kernel) (by decide +kernel)) (goodIn_sub (fun _ h => List.mem_cons_of_mem _ (List.mem_append_right _ h)) (by decide +kernel))
set_option maxRecDepth 20000 in
theorem gX8_setLimit_X8_needRange : GoodIn wsX8_setLimit (va_wsS RX8 97 yX8_needRange wsX8_needRange) := goodIn_app (goodIn_of _ (by decide +kernel)) ggX8_setLimit_X8_needRange
set_option maxRecDepth 20000 in
theorem ggX8_setLimit_X1_record : GoodIn wsX8_setLimit wsX1_record := goodIn_r _ [26, 27, 28, 29, 30, 31, 32, 33, 34, 35, 36, 14, 37, 16, 38, 39, 40, 41, 42, 43, 44, 45, 46, 47, 48, 49, 50, 51, 52, 53, 54, 55, 56, 57, 58, 59, 161, 162, 163, 164, 165, 142, 143, 144, 145, 146, 147, 148, 149, 150, 151, 152, 153, 154, 155, 156, 157, 158, 159, 160] (by decide +kernel) (by decide +kernel)
set_option maxRecDepth 20000 in
theorem gX8_setLimit_X1_record : GoodIn wsX8_setLimit (wsV RX8 282 RX1 yX1_record wsX1_record) := goodIn_app (goodIn_of _ (by decide +kernel)) ggX8_setLimit_X1_record
set_option maxRecDepth 20000 in
theorem ggX8_setLimit_X8_measured : GoodIn wsX8_setLimit wsX8_measured := goodIn_r _ [63, 64, 65, 2, 66, 67, 68, 69, 70, 71, 72, 73, 74, 75, 76, 77, 78, 79, 46, 47, 48, 80, 81, 82, 83, 32, 84, 85, 86, 87, 88, 89, 90, 91, 92, 93, 14, 94, 39, 52, 95, 7, 96, 97, 98, 99, 100, 101, 102, 103, 104, 105, 106, 54, 107, 108, 109, 110, 111, 112, 113, 114, 115, 116, 117, 118, 128, 129, 130, 131, 132, 133, 134, 135, 136, 137, 138, 139, 140, 141, 166, 167, 168, 169, 170, 171, 172, 173, 142, 143, 144, 145, 146, 147, 148, 149, 150, 151, 152, 153, 154, 155, 156, 157, 158, 159, 160] (by decide +kernel) (by decide +kernel)
set_option maxRecDepth 20000 in
theorem gX8_setLimit_X8_measured : GoodIn wsX8_setLimit (wsV RX8 135 RX8 yX8_measured wsX8_measured) := goodIn_app (goodIn_of _ (by decide +kernel)) ggX8_setLimit_X8_measured
set_option maxRecDepth 20000 in
theorem ggX8_setLimit_X6_countLate : GoodIn wsX8_setLimit wsX6_countLate := goodIn_r _ [122, 81, 123, 124, 125, 70, 126, 73, 127, 142, 143, 144, 145, 146, 147, 148, 149, 150, 151, 152, 153, 154, 155, 156, 157, 158, 159, 160, 166, 167, 168, 169, 170, 171, 172, 173] (by decide +kernel) (by decide +kernel)
set_option maxRecDepth 20000 in
theorem gX8_setLimit_X6_countLate : GoodIn wsX8_setLimit (wsV RX8 142 RX6 yX6_countLate wsX6_countLate) := goodIn_app (goodIn_of _ (by decide +kernel)) ggX8_setLimit_X6_countLate
theorem dX8_setLimit_0 : decode cX8_setLimit 0 = .ok (.aload_n 0, 1) := by decide +kernel
theorem dX8_setLimit_1 : decode cX8_setLimit 1 = .ok (.iload_n 1, 1) := by decide +kernel
theorem dX8_setLimit_2 : decode cX8_setLimit 2 = .ok (.invokevirtual 180, 3) := by decide +kernel
theorem dX8_setLimit_5 : decode cX8_setLimit 5 = .ok (.iload_n 2, 1) := by decide +kernel
theorem dX8_setLimit_6 : decode cX8_setLimit 6 = .ok (.iconst 0, 1) := by decide +kernel
theorem dX8_setLimit_7 : decode cX8_setLimit 7 = .ok (.bipush 99, 2) := by decide +kernel
theorem dX8_setLimit_9 : decode cX8_setLimit 9 = .ok (.invokestatic 97, 3) := by decide +kernel
theorem dX8_setLimit_12 : decode cX8_setLimit 12 = .ok (.aload_n 0, 1) := by decide +kernel
theorem dX8_setLimit_13 : decode cX8_setLimit 13 = .ok (.getfield 22, 3) := by decide +kernel
theorem dX8_setLimit_16 : decode cX8_setLimit 16 = .ok (.aload_n 0, 1) := by decide +kernel
theorem dX8_setLimit_17 : decode cX8_setLimit 17 = .ok (.getfield 10, 3) := by decide +kernel
theorem dX8_setLimit_20 : decode cX8_setLimit 20 = .ok (.invokevirtual 282, 3) := by decide +kernel
theorem dX8_setLimit_23 : decode cX8_setLimit 23 = .ok (.aload_n 0, 1) := by decide +kernel
theorem dX8_setLimit_24 : decode cX8_setLimit 24 = .ok (.getfield 10, 3) := by decide +kernel
theorem dX8_setLimit_27 : decode cX8_setLimit 27 = .ok (.getfield 183, 3) := by decide +kernel
theorem dX8_setLimit_30 : decode cX8_setLimit 30 = .ok (.iload_n 1, 1) := by decide +kernel
theorem dX8_setLimit_31 : decode cX8_setLimit 31 = .ok (.iload_n 2, 1) := by decide +kernel
theorem dX8_setLimit_32 : decode cX8_setLimit 32 = .ok (.iastore, 1) := by decide +kernel
theorem dX8_setLimit_33 : decode cX8_setLimit 33 = .ok (.aload_n 0, 1) := by decide +kernel
theorem dX8_setLimit_34 : decode cX8_setLimit 34 = .ok (.invokevirtual 135, 3) := by decide +kernel
theorem dX8_setLimit_37 : decode cX8_setLimit 37 = .ok (.aload_n 0, 1) := by decide +kernel
theorem dX8_setLimit_38 : decode cX8_setLimit 38 = .ok (.getfield 10, 3) := by decide +kernel
theorem dX8_setLimit_41 : decode cX8_setLimit 41 = .ok (.invokevirtual 142, 3) := by decide +kernel
theorem dX8_setLimit_44 : decode cX8_setLimit 44 = .ok (.ireturn, 1) := by decide +kernel
set_option maxRecDepth 20000 in
theorem ggX8_change_X8_needRange : GoodIn wsX8_change wsX8_needRange := goodIn_ca (goodIn_r _ [10, 11, 12] (by decide +kernel) (by decide +kernel)) (goodIn_sub (fun _ h => List.mem_cons_of_mem _ (List.mem_append_right _ h)) (by decide +kernel))
set_option maxRecDepth 20000 in
theorem gX8_change_X8_needRange : GoodIn wsX8_change (va_wsS RX8 97 yX8_needRange wsX8_needRange) := goodIn_app (goodIn_of _ (by decide +kernel)) ggX8_change_X8_needRange
set_option maxRecDepth 20000 in
theorem ggX8_change_X7_begin : GoodIn wsX8_change wsX7_begin := goodIn_r _ [17, 18, 19, 20, 21, 22, 23, 24, 25, 26, 16, 27, 28, 29, 30, 31, 32, 33, 34, 234, 235, 236, 237, 238, 239, 240] (by decide +kernel) (by decide +kernel)
set_option maxRecDepth 20000 in
theorem gX8_change_X7_begin : GoodIn wsX8_change (wsV RX8 101 RX7 yX7_begin wsX7_begin) := goodIn_app (goodIn_of _ (by decide +kernel)) ggX8_change_X7_begin
set_option maxRecDepth 20000 in
theorem ggX8_change_X2_copyFrom : GoodIn wsX8_change wsX2_copyFrom := goodIn_r _ [39, 40, 41, 42, 43, 44, 45, 46, 47, 48, 49, 50, 51, 52, 53, 54, 55, 56, 57, 58, 59, 60, 61, 62, 241, 242, 243, 244, 245, 246, 247, 248, 249, 250, 251, 252, 253, 254, 255, 256, 257, 258, 259] (by decide +kernel) (by decide +kernel)
set_option maxRecDepth 20000 in
theorem gX8_change_X2_copyFrom : GoodIn wsX8_change (wsV RX8 109 RX2 yX2_copyFrom wsX2_copyFrom) := goodIn_app (goodIn_of _ (by decide +kernel)) ggX8_change_X2_copyFrom
set_option maxRecDepth 20000 in
theorem ggX8_change_X3_readChange : GoodIn wsX8_change wsX3_readChange := goodIn_r _ [67, 68, 69, 70, 71, 72, 73, 16, 74, 31, 23, 29, 28, 75, 76, 77, 78, 79, 80, 81, 82, 83, 84, 85, 86, 87, 88, 89, 90, 91, 92, 93, 94, 95, 96, 97, 98, 99, 100, 101, 102, 103, 104, 105, 106, 107, 108, 109, 110, 111, 112, 113, 114, 115, 116, 117, 118, 119, 120, 121, 122, 123, 124, 25, 26, 27, 22, 30, 32, 33, 34, 125, 126, 127, 128, 129, 130, 131, 66, 132, 133, 134, 135, 136, 137, 138, 38, 139, 42, 140, 141, 142, 143, 55, 56, 58, 144, 145, 146, 147, 148, 149, 150, 151, 152, 153, 154, 155, 156, 57, 157, 158, 159, 160, 53, 161, 162, 163, 164, 40, 165, 9, 166, 167, 168, 169, 170, 171, 172, 173, 174, 175, 176, 177, 178, 179, 180, 181, 182, 183, 184, 185, 186, 260, 241, 242, 243, 244, 245, 246, 247, 248, 249, 250, 251, 252, 253, 254, 255, 256, 257, 258, 259, 234, 235, 236, 237, 238, 239, 240] (by decide +kernel) (by decide +kernel)
set_option maxRecDepth 20000 in
theorem gX8_change_X3_readChange : GoodIn wsX8_change (wsV RX8 298 RX3 yX3_readChange wsX3_readChange) := goodIn_app (goodIn_of _ (by decide +kernel)) ggX8_change_X3_readChange
set_option maxRecDepth 20000 in
theorem ggX8_change_X8_endReading : GoodIn wsX8_change wsX8_endReading := goodIn_r _ [190, 1, 191, 192, 2, 220, 221, 222, 223, 224, 225, 226, 227, 228, 229, 230, 231, 232, 233, 234, 235, 236, 237, 238, 239, 240] (by decide +kernel) (by decide +kernel)
set_option maxRecDepth 20000 in
theorem gX8_change_X8_endReading : GoodIn wsX8_change (wsV RX8 106 RX8 yX8_endReading wsX8_endReading) := goodIn_app (goodIn_of _ (by decide +kernel)) ggX8_change_X8_endReading
set_option maxRecDepth 20000 in
theorem ggX8_change_X1_record : GoodIn wsX8_change wsX1_record := goodIn_r _ [197, 198, 199, 200, 201, 19, 20, 21, 202, 36, 37, 38, 39, 40, 41, 42, 43, 44, 45, 46, 47, 48, 49, 50, 51, 52, 53, 54, 55, 56, 57, 58, 59, 60, 61, 62, 261, 262, 263, 264, 265, 241, 242, 243, 244, 245, 246, 247, 248, 249, 250, 251, 252, 253, 254, 255, 256, 257, 258, 259] (by decide +kernel) (by decide +kernel)
set_option maxRecDepth 20000 in
theorem gX8_change_X1_record : GoodIn wsX8_change (wsV RX8 282 RX1 yX1_record wsX1_record) := goodIn_app (goodIn_of _ (by decide +kernel)) ggX8_change_X1_record
set_option maxRecDepth 20000 in
theorem ggX8_change_X8_markWalksChanged : GoodIn wsX8_change wsX8_markWalksChanged := goodIn_r _ [206, 4, 207, 208, 209, 210, 211, 9, 212, 213, 220, 221, 222, 223, 224, 225, 226, 227, 228, 229, 230, 231, 232, 233, 241, 242, 243, 244, 245, 246, 247, 248, 249, 250, 251, 252, 253, 254, 255, 256, 257, 258, 259] (by decide +kernel) (by decide +kernel)
set_option maxRecDepth 20000 in
theorem gX8_change_X8_markWalksChanged : GoodIn wsX8_change (wsV RX8 113 RX8 yX8_markWalksChanged wsX8_markWalksChanged) := goodIn_app (goodIn_of _ (by decide +kernel)) ggX8_change_X8_markWalksChanged
set_option maxRecDepth 20000 in
theorem ggX8_change_X2_cycleLength : GoodIn wsX8_change wsX2_cycleLength := goodIn_r _ [217, 42, 55, 218, 9, 219, 241, 242, 243, 244, 245, 246, 247, 248, 249, 250, 251, 252, 253, 254, 255, 256, 257, 258, 259] (by decide +kernel) (by decide +kernel)
set_option maxRecDepth 20000 in
theorem gX8_change_X2_cycleLength : GoodIn wsX8_change (wsV RX8 128 RX2 yX2_cycleLength wsX2_cycleLength) := goodIn_app (goodIn_of _ (by decide +kernel)) ggX8_change_X2_cycleLength
theorem dX8_change_0 : decode cX8_change 0 = .ok (.iload_n 1, 1) := by decide +kernel
theorem dX8_change_1 : decode cX8_change 1 = .ok (.iconst 0, 1) := by decide +kernel
theorem dX8_change_2 : decode cX8_change 2 = .ok (.aload_n 0, 1) := by decide +kernel
theorem dX8_change_3 : decode cX8_change 3 = .ok (.getfield 53, 3) := by decide +kernel
theorem dX8_change_6 : decode cX8_change 6 = .ok (.getfield 91, 3) := by decide +kernel
theorem dX8_change_9 : decode cX8_change 9 = .ok (.invokestatic 97, 3) := by decide +kernel
theorem dX8_change_12 : decode cX8_change 12 = .ok (.aload_n 0, 1) := by decide +kernel
theorem dX8_change_13 : decode cX8_change 13 = .ok (.getfield 53, 3) := by decide +kernel
theorem dX8_change_16 : decode cX8_change 16 = .ok (.iload_n 1, 1) := by decide +kernel
theorem dX8_change_17 : decode cX8_change 17 = .ok (.invokevirtual 101, 3) := by decide +kernel
theorem dX8_change_20 : decode cX8_change 20 = .ok (.aload_n 0, 1) := by decide +kernel
theorem dX8_change_21 : decode cX8_change 21 = .ok (.getfield 16, 3) := by decide +kernel
theorem dX8_change_24 : decode cX8_change 24 = .ok (.aload_n 0, 1) := by decide +kernel
theorem dX8_change_25 : decode cX8_change 25 = .ok (.getfield 10, 3) := by decide +kernel
theorem dX8_change_28 : decode cX8_change 28 = .ok (.invokevirtual 109, 3) := by decide +kernel
theorem dX8_change_31 : decode cX8_change 31 = .ok (.aload_n 0, 1) := by decide +kernel
theorem dX8_change_32 : decode cX8_change 32 = .ok (.getfield 62, 3) := by decide +kernel
theorem dX8_change_35 : decode cX8_change 35 = .ok (.aload_n 0, 1) := by decide +kernel
theorem dX8_change_36 : decode cX8_change 36 = .ok (.getfield 16, 3) := by decide +kernel
theorem dX8_change_39 : decode cX8_change 39 = .ok (.invokevirtual 298, 3) := by decide +kernel
theorem dX8_change_42 : decode cX8_change 42 = .ok (.istore_n 2, 1) := by decide +kernel
theorem dX8_change_43 : decode cX8_change 43 = .ok (.aload_n 0, 1) := by decide +kernel
theorem dX8_change_44 : decode cX8_change 44 = .ok (.iload_n 2, 1) := by decide +kernel
theorem dX8_change_45 : decode cX8_change 45 = .ok (.invokevirtual 106, 3) := by decide +kernel
theorem dX8_change_48 : decode cX8_change 48 = .ok (.iload_n 2, 1) := by decide +kernel
theorem dX8_change_49 : decode cX8_change 49 = .ok (.ifCond .eq 8, 3) := by decide +kernel
theorem dX8_change_52 : decode cX8_change 52 = .ok (.bipush (-10), 2) := by decide +kernel
theorem dX8_change_54 : decode cX8_change 54 = .ok (.iload_n 2, 1) := by decide +kernel
theorem dX8_change_55 : decode cX8_change 55 = .ok (.isub, 1) := by decide +kernel
theorem dX8_change_56 : decode cX8_change 56 = .ok (.ireturn, 1) := by decide +kernel
theorem dX8_change_57 : decode cX8_change 57 = .ok (.aload_n 0, 1) := by decide +kernel
theorem dX8_change_58 : decode cX8_change 58 = .ok (.getfield 22, 3) := by decide +kernel
theorem dX8_change_61 : decode cX8_change 61 = .ok (.aload_n 0, 1) := by decide +kernel
theorem dX8_change_62 : decode cX8_change 62 = .ok (.getfield 10, 3) := by decide +kernel
theorem dX8_change_65 : decode cX8_change 65 = .ok (.invokevirtual 282, 3) := by decide +kernel
theorem dX8_change_68 : decode cX8_change 68 = .ok (.aload_n 0, 1) := by decide +kernel
theorem dX8_change_69 : decode cX8_change 69 = .ok (.getfield 10, 3) := by decide +kernel
theorem dX8_change_72 : decode cX8_change 72 = .ok (.aload_n 0, 1) := by decide +kernel
theorem dX8_change_73 : decode cX8_change 73 = .ok (.getfield 16, 3) := by decide +kernel
theorem dX8_change_76 : decode cX8_change 76 = .ok (.invokevirtual 109, 3) := by decide +kernel
theorem dX8_change_79 : decode cX8_change 79 = .ok (.aload_n 0, 1) := by decide +kernel
theorem dX8_change_80 : decode cX8_change 80 = .ok (.invokevirtual 113, 3) := by decide +kernel
theorem dX8_change_83 : decode cX8_change 83 = .ok (.aload_n 0, 1) := by decide +kernel
theorem dX8_change_84 : decode cX8_change 84 = .ok (.getfield 10, 3) := by decide +kernel
theorem dX8_change_87 : decode cX8_change 87 = .ok (.invokevirtual 128, 3) := by decide +kernel
theorem dX8_change_90 : decode cX8_change 90 = .ok (.ireturn, 1) := by decide +kernel
theorem dX8_undoCount_0 : decode cX8_undoCount 0 = .ok (.aload_n 0, 1) := by decide +kernel
theorem dX8_undoCount_1 : decode cX8_undoCount 1 = .ok (.getfield 22, 3) := by decide +kernel
theorem dX8_undoCount_4 : decode cX8_undoCount 4 = .ok (.getfield 307, 3) := by decide +kernel
theorem dX8_undoCount_7 : decode cX8_undoCount 7 = .ok (.ireturn, 1) := by decide +kernel
set_option maxRecDepth 20000 in
theorem ggX8_undo_X1_takeBack : GoodIn wsX8_undo wsX1_takeBack := goodIn_r _ [8, 9, 10, 11, 12, 13, 14, 15, 16, 17, 18, 19, 20, 21, 22, 23, 24, 25, 26, 27, 28, 29, 30, 31, 32, 33, 34, 35, 36, 37, 38, 39, 54, 55, 56, 57, 58, 59, 60, 61, 62, 63, 64, 65, 66, 67, 68, 69, 70, 71, 72, 73, 74, 75, 76, 77] (by decide +kernel) (by decide +kernel)
set_option maxRecDepth 20000 in
theorem gX8_undo_X1_takeBack : GoodIn wsX8_undo (wsV RX8 310 RX1 yX1_takeBack wsX1_takeBack) := goodIn_app (goodIn_of _ (by decide +kernel)) ggX8_undo_X1_takeBack
theorem dX8_undo_0 : decode cX8_undo 0 = .ok (.aload_n 0, 1) := by decide +kernel
theorem dX8_undo_1 : decode cX8_undo 1 = .ok (.getfield 22, 3) := by decide +kernel
theorem dX8_undo_4 : decode cX8_undo 4 = .ok (.aload_n 0, 1) := by decide +kernel
theorem dX8_undo_5 : decode cX8_undo 5 = .ok (.getfield 10, 3) := by decide +kernel
theorem dX8_undo_8 : decode cX8_undo 8 = .ok (.invokevirtual 310, 3) := by decide +kernel
theorem dX8_undo_11 : decode cX8_undo 11 = .ok (.ifCond .eq 13, 3) := by decide +kernel
theorem dX8_undo_14 : decode cX8_undo 14 = .ok (.aload_n 0, 1) := by decide +kernel
theorem dX8_undo_15 : decode cX8_undo 15 = .ok (.getfield 22, 3) := by decide +kernel
theorem dX8_undo_18 : decode cX8_undo 18 = .ok (.getfield 307, 3) := by decide +kernel
theorem dX8_undo_21 : decode cX8_undo 21 = .ok (.goto 4, 3) := by decide +kernel
theorem dX8_undo_24 : decode cX8_undo 24 = .ok (.iconst (-1), 1) := by decide +kernel
theorem dX8_undo_25 : decode cX8_undo 25 = .ok (.ireturn, 1) := by decide +kernel
set_option maxRecDepth 20000 in
theorem ggX8_saveSnapshot_X1_keepSnapshot : GoodIn wsX8_saveSnapshot wsX1_keepSnapshot := goodIn_r _ [7, 8, 9, 10, 11, 12, 13, 14, 15, 16, 17, 18, 19, 20, 21, 22, 23, 24, 25, 26, 27, 28, 29, 30, 31, 32, 33, 34, 35, 36, 37, 52, 53, 54, 55, 56, 57, 58, 59, 60, 61, 62, 63, 64, 65, 66, 67, 68, 69, 70, 71, 72, 73, 74, 75] (by decide +kernel) (by decide +kernel)
set_option maxRecDepth 20000 in
theorem gX8_saveSnapshot_X1_keepSnapshot : GoodIn wsX8_saveSnapshot (wsV RX8 314 RX1 yX1_keepSnapshot wsX1_keepSnapshot) := goodIn_app (goodIn_of _ (by decide +kernel)) ggX8_saveSnapshot_X1_keepSnapshot
theorem dX8_saveSnapshot_0 : decode cX8_saveSnapshot 0 = .ok (.aload_n 0, 1) := by decide +kernel
theorem dX8_saveSnapshot_1 : decode cX8_saveSnapshot 1 = .ok (.getfield 22, 3) := by decide +kernel
theorem dX8_saveSnapshot_4 : decode cX8_saveSnapshot 4 = .ok (.aload_n 0, 1) := by decide +kernel
theorem dX8_saveSnapshot_5 : decode cX8_saveSnapshot 5 = .ok (.getfield 10, 3) := by decide +kernel
theorem dX8_saveSnapshot_8 : decode cX8_saveSnapshot 8 = .ok (.invokevirtual 314, 3) := by decide +kernel
theorem dX8_saveSnapshot_11 : decode cX8_saveSnapshot 11 = .ok (.return_, 1) := by decide +kernel
set_option maxRecDepth 20000 in
theorem ggX8_restoreSnapshot_X1_bringSnapshot : GoodIn wsX8_restoreSnapshot wsX1_bringSnapshot := goodIn_r _ [7, 8, 9, 10, 11, 12, 13, 14, 15, 16, 17, 18, 19, 20, 21, 22, 23, 24, 25, 26, 27, 28, 29, 30, 31, 32, 33, 34, 35, 36, 37, 38, 53, 54, 55, 56, 57, 58, 59, 60, 61, 62, 63, 64, 65, 66, 67, 68, 69, 70, 71, 72, 73, 74, 75, 76] (by decide +kernel) (by decide +kernel)
set_option maxRecDepth 20000 in
theorem gX8_restoreSnapshot_X1_bringSnapshot : GoodIn wsX8_restoreSnapshot (wsV RX8 317 RX1 yX1_bringSnapshot wsX1_bringSnapshot) := goodIn_app (goodIn_of _ (by decide +kernel)) ggX8_restoreSnapshot_X1_bringSnapshot
theorem dX8_restoreSnapshot_0 : decode cX8_restoreSnapshot 0 = .ok (.aload_n 0, 1) := by decide +kernel
theorem dX8_restoreSnapshot_1 : decode cX8_restoreSnapshot 1 = .ok (.getfield 22, 3) := by decide +kernel
theorem dX8_restoreSnapshot_4 : decode cX8_restoreSnapshot 4 = .ok (.aload_n 0, 1) := by decide +kernel
theorem dX8_restoreSnapshot_5 : decode cX8_restoreSnapshot 5 = .ok (.getfield 10, 3) := by decide +kernel
theorem dX8_restoreSnapshot_8 : decode cX8_restoreSnapshot 8 = .ok (.invokevirtual 317, 3) := by decide +kernel
theorem dX8_restoreSnapshot_11 : decode cX8_restoreSnapshot 11 = .ok (.ireturn, 1) := by decide +kernel
set_option maxRecDepth 20000 in
theorem ggX8_needRoom_X2_hasRoom : GoodIn wsX8_needRoom wsX2_hasRoom := goodIn_r _ [8, 9, 24, 25, 26, 27, 28, 29, 30, 31, 32, 33, 34, 35, 36, 37, 38, 39, 40, 41, 42] (by decide +kernel) (by decide +kernel)
set_option maxRecDepth 20000 in
theorem gX8_needRoom_X2_hasRoom : GoodIn wsX8_needRoom (wsV RX8 333 RX2 yX2_hasRoom wsX2_hasRoom) := goodIn_app (goodIn_of _ (by decide +kernel)) ggX8_needRoom_X2_hasRoom
theorem dX8_needRoom_0 : decode cX8_needRoom 0 = .ok (.aload_n 0, 1) := by decide +kernel
theorem dX8_needRoom_1 : decode cX8_needRoom 1 = .ok (.getfield 10, 3) := by decide +kernel
theorem dX8_needRoom_4 : decode cX8_needRoom 4 = .ok (.iload_n 1, 1) := by decide +kernel
theorem dX8_needRoom_5 : decode cX8_needRoom 5 = .ok (.invokevirtual 333, 3) := by decide +kernel
theorem dX8_needRoom_8 : decode cX8_needRoom 8 = .ok (.ifCond .ne 14, 3) := by decide +kernel
theorem dX8_needRoom_11 : decode cX8_needRoom 11 = .ok (.new 154, 3) := by decide +kernel
theorem dX8_needRoom_14 : decode cX8_needRoom 14 = .ok (.dup, 1) := by decide +kernel
theorem dX8_needRoom_15 : decode cX8_needRoom 15 = .ok (.ldc_w 336, 3) := by decide +kernel
theorem dX8_needRoom_18 : decode cX8_needRoom 18 = .ok (.invokespecial 158, 3) := by decide +kernel
theorem dX8_needRoom_21 : decode cX8_needRoom 21 = .ok (.athrow, 1) := by decide +kernel
theorem dX8_needRoom_22 : decode cX8_needRoom 22 = .ok (.return_, 1) := by decide +kernel
set_option maxRecDepth 20000 in
theorem ggX8_needDoor_X2_hasDoor : GoodIn wsX8_needDoor wsX2_hasDoor := goodIn_r _ [8, 9, 24, 25, 26, 27, 28, 29, 30, 31, 32, 33, 34, 35, 36, 37, 38, 39, 40, 41, 42] (by decide +kernel) (by decide +kernel)
set_option maxRecDepth 20000 in
theorem gX8_needDoor_X2_hasDoor : GoodIn wsX8_needDoor (wsV RX8 338 RX2 yX2_hasDoor wsX2_hasDoor) := goodIn_app (goodIn_of _ (by decide +kernel)) ggX8_needDoor_X2_hasDoor
theorem dX8_needDoor_0 : decode cX8_needDoor 0 = .ok (.aload_n 0, 1) := by decide +kernel
theorem dX8_needDoor_1 : decode cX8_needDoor 1 = .ok (.getfield 10, 3) := by decide +kernel
theorem dX8_needDoor_4 : decode cX8_needDoor 4 = .ok (.iload_n 1, 1) := by decide +kernel
theorem dX8_needDoor_5 : decode cX8_needDoor 5 = .ok (.invokevirtual 338, 3) := by decide +kernel
theorem dX8_needDoor_8 : decode cX8_needDoor 8 = .ok (.ifCond .ne 14, 3) := by decide +kernel
theorem dX8_needDoor_11 : decode cX8_needDoor 11 = .ok (.new 154, 3) := by decide +kernel
theorem dX8_needDoor_14 : decode cX8_needDoor 14 = .ok (.dup, 1) := by decide +kernel
theorem dX8_needDoor_15 : decode cX8_needDoor 15 = .ok (.ldc_w 341, 3) := by decide +kernel
theorem dX8_needDoor_18 : decode cX8_needDoor 18 = .ok (.invokespecial 158, 3) := by decide +kernel
theorem dX8_needDoor_21 : decode cX8_needDoor 21 = .ok (.athrow, 1) := by decide +kernel
theorem dX8_needDoor_22 : decode cX8_needDoor 22 = .ok (.return_, 1) := by decide +kernel
set_option maxRecDepth 20000 in
theorem ggX8_needGuard_X2_hasGuard : GoodIn wsX8_needGuard wsX2_hasGuard := goodIn_r _ [8, 9, 24, 25, 26, 27, 28, 29, 30, 31, 32, 33, 34, 35, 36, 37, 38, 39, 40, 41, 42] (by decide +kernel) (by decide +kernel)
set_option maxRecDepth 20000 in
theorem gX8_needGuard_X2_hasGuard : GoodIn wsX8_needGuard (wsV RX8 343 RX2 yX2_hasGuard wsX2_hasGuard) := goodIn_app (goodIn_of _ (by decide +kernel)) ggX8_needGuard_X2_hasGuard
theorem dX8_needGuard_0 : decode cX8_needGuard 0 = .ok (.aload_n 0, 1) := by decide +kernel
theorem dX8_needGuard_1 : decode cX8_needGuard 1 = .ok (.getfield 10, 3) := by decide +kernel
theorem dX8_needGuard_4 : decode cX8_needGuard 4 = .ok (.iload_n 1, 1) := by decide +kernel
theorem dX8_needGuard_5 : decode cX8_needGuard 5 = .ok (.invokevirtual 343, 3) := by decide +kernel
theorem dX8_needGuard_8 : decode cX8_needGuard 8 = .ok (.ifCond .ne 14, 3) := by decide +kernel
theorem dX8_needGuard_11 : decode cX8_needGuard 11 = .ok (.new 154, 3) := by decide +kernel
theorem dX8_needGuard_14 : decode cX8_needGuard 14 = .ok (.dup, 1) := by decide +kernel
theorem dX8_needGuard_15 : decode cX8_needGuard 15 = .ok (.ldc_w 346, 3) := by decide +kernel
theorem dX8_needGuard_18 : decode cX8_needGuard 18 = .ok (.invokespecial 158, 3) := by decide +kernel
theorem dX8_needGuard_21 : decode cX8_needGuard 21 = .ok (.athrow, 1) := by decide +kernel
theorem dX8_needGuard_22 : decode cX8_needGuard 22 = .ok (.return_, 1) := by decide +kernel
theorem dX8_needRange_0 : decode cX8_needRange 0 = .ok (.iload_n 0, 1) := by decide +kernel
theorem dX8_needRange_1 : decode cX8_needRange 1 = .ok (.iload_n 1, 1) := by decide +kernel
theorem dX8_needRange_2 : decode cX8_needRange 2 = .ok (.if_icmp .lt 8, 3) := by decide +kernel
theorem dX8_needRange_5 : decode cX8_needRange 5 = .ok (.iload_n 0, 1) := by decide +kernel
theorem dX8_needRange_6 : decode cX8_needRange 6 = .ok (.iload_n 2, 1) := by decide +kernel
theorem dX8_needRange_7 : decode cX8_needRange 7 = .ok (.if_icmp .le 14, 3) := by decide +kernel
theorem dX8_needRange_10 : decode cX8_needRange 10 = .ok (.new 348, 3) := by decide +kernel
theorem dX8_needRange_13 : decode cX8_needRange 13 = .ok (.dup, 1) := by decide +kernel
theorem dX8_needRange_14 : decode cX8_needRange 14 = .ok (.ldc_w 350, 3) := by decide +kernel
theorem dX8_needRange_17 : decode cX8_needRange 17 = .ok (.invokespecial 352, 3) := by decide +kernel
theorem dX8_needRange_20 : decode cX8_needRange 20 = .ok (.athrow, 1) := by decide +kernel
theorem dX8_needRange_21 : decode cX8_needRange 21 = .ok (.return_, 1) := by decide +kernel
theorem dX8_needNotNegative_0 : decode cX8_needNotNegative 0 = .ok (.iload_n 0, 1) := by decide +kernel
theorem dX8_needNotNegative_1 : decode cX8_needNotNegative 1 = .ok (.ifCond .ge 14, 3) := by decide +kernel
theorem dX8_needNotNegative_4 : decode cX8_needNotNegative 4 = .ok (.new 348, 3) := by decide +kernel
theorem dX8_needNotNegative_7 : decode cX8_needNotNegative 7 = .ok (.dup, 1) := by decide +kernel
theorem dX8_needNotNegative_8 : decode cX8_needNotNegative 8 = .ok (.ldc_w 353, 3) := by decide +kernel
theorem dX8_needNotNegative_11 : decode cX8_needNotNegative 11 = .ok (.invokespecial 352, 3) := by decide +kernel
theorem dX8_needNotNegative_14 : decode cX8_needNotNegative 14 = .ok (.athrow, 1) := by decide +kernel
theorem dX8_needNotNegative_15 : decode cX8_needNotNegative 15 = .ok (.return_, 1) := by decide +kernel
theorem dX8_endReading_0 : decode cX8_endReading 0 = .ok (.aload_n 0, 1) := by decide +kernel
theorem dX8_endReading_1 : decode cX8_endReading 1 = .ok (.iload_n 1, 1) := by decide +kernel
theorem dX8_endReading_2 : decode cX8_endReading 2 = .ok (.ifCond .ne 7, 3) := by decide +kernel
theorem dX8_endReading_5 : decode cX8_endReading 5 = .ok (.iconst (-1), 1) := by decide +kernel
theorem dX8_endReading_6 : decode cX8_endReading 6 = .ok (.goto 10, 3) := by decide +kernel
theorem dX8_endReading_9 : decode cX8_endReading 9 = .ok (.aload_n 0, 1) := by decide +kernel
theorem dX8_endReading_10 : decode cX8_endReading 10 = .ok (.getfield 53, 3) := by decide +kernel
theorem dX8_endReading_13 : decode cX8_endReading 13 = .ok (.getfield 355, 3) := by decide +kernel
theorem dX8_endReading_16 : decode cX8_endReading 16 = .ok (.putfield 81, 3) := by decide +kernel
theorem dX8_endReading_19 : decode cX8_endReading 19 = .ok (.aload_n 0, 1) := by decide +kernel
theorem dX8_endReading_20 : decode cX8_endReading 20 = .ok (.getfield 53, 3) := by decide +kernel
theorem dX8_endReading_23 : decode cX8_endReading 23 = .ok (.iconst 0, 1) := by decide +kernel
theorem dX8_endReading_24 : decode cX8_endReading 24 = .ok (.putfield 91, 3) := by decide +kernel
theorem dX8_endReading_27 : decode cX8_endReading 27 = .ok (.return_, 1) := by decide +kernel
theorem dX8_markPhasesChanged_0 : decode cX8_markPhasesChanged 0 = .ok (.aload_n 0, 1) := by decide +kernel
theorem dX8_markPhasesChanged_1 : decode cX8_markPhasesChanged 1 = .ok (.dup, 1) := by decide +kernel
theorem dX8_markPhasesChanged_2 : decode cX8_markPhasesChanged 2 = .ok (.getfield 84, 3) := by decide +kernel
theorem dX8_markPhasesChanged_5 : decode cX8_markPhasesChanged 5 = .ok (.iconst 1, 1) := by decide +kernel
theorem dX8_markPhasesChanged_6 : decode cX8_markPhasesChanged 6 = .ok (.iadd, 1) := by decide +kernel
theorem dX8_markPhasesChanged_7 : decode cX8_markPhasesChanged 7 = .ok (.putfield 84, 3) := by decide +kernel
theorem dX8_markPhasesChanged_10 : decode cX8_markPhasesChanged 10 = .ok (.aload_n 0, 1) := by decide +kernel
theorem dX8_markPhasesChanged_11 : decode cX8_markPhasesChanged 11 = .ok (.getfield 10, 3) := by decide +kernel
theorem dX8_markPhasesChanged_14 : decode cX8_markPhasesChanged 14 = .ok (.aload_n 0, 1) := by decide +kernel
theorem dX8_markPhasesChanged_15 : decode cX8_markPhasesChanged 15 = .ok (.getfield 84, 3) := by decide +kernel
theorem dX8_markPhasesChanged_18 : decode cX8_markPhasesChanged 18 = .ok (.putfield 358, 3) := by decide +kernel
theorem dX8_markPhasesChanged_21 : decode cX8_markPhasesChanged 21 = .ok (.return_, 1) := by decide +kernel
set_option maxRecDepth 20000 in
theorem ggX8_markWalksChanged_X8_markPhasesChanged : GoodIn wsX8_markWalksChanged wsX8_markPhasesChanged := goodIn_r _ [8, 2, 1, 9, 10, 11, 12, 13, 14, 15, 16, 17, 18, 19, 20, 21, 22, 23, 24, 25, 26, 27, 28, 29, 30, 31, 32, 33, 34, 35, 36, 37, 38, 39, 40, 41, 42] (by decide +kernel) (by decide +kernel)
set_option maxRecDepth 20000 in
theorem gX8_markWalksChanged_X8_markPhasesChanged : GoodIn wsX8_markWalksChanged (wsV RX8 288 RX8 yX8_markPhasesChanged wsX8_markPhasesChanged) := goodIn_app (goodIn_of _ (by decide +kernel)) ggX8_markWalksChanged_X8_markPhasesChanged
theorem dX8_markWalksChanged_0 : decode cX8_markWalksChanged 0 = .ok (.aload_n 0, 1) := by decide +kernel
theorem dX8_markWalksChanged_1 : decode cX8_markWalksChanged 1 = .ok (.invokevirtual 288, 3) := by decide +kernel
theorem dX8_markWalksChanged_4 : decode cX8_markWalksChanged 4 = .ok (.aload_n 0, 1) := by decide +kernel
theorem dX8_markWalksChanged_5 : decode cX8_markWalksChanged 5 = .ok (.getfield 10, 3) := by decide +kernel
theorem dX8_markWalksChanged_8 : decode cX8_markWalksChanged 8 = .ok (.aload_n 0, 1) := by decide +kernel
theorem dX8_markWalksChanged_9 : decode cX8_markWalksChanged 9 = .ok (.getfield 84, 3) := by decide +kernel
theorem dX8_markWalksChanged_12 : decode cX8_markWalksChanged 12 = .ok (.putfield 361, 3) := by decide +kernel
theorem dX8_markWalksChanged_15 : decode cX8_markWalksChanged 15 = .ok (.return_, 1) := by decide +kernel
set_option maxRecDepth 20000 in
theorem ggX8_measured_X6_measure : GoodIn wsX8_measured wsX6_measure := goodIn_r _ [9, 10, 11, 12, 13, 14, 15, 16, 17, 18, 19, 20, 21, 22, 23, 24, 25, 26, 27, 28, 29, 30, 31, 32, 33, 34, 35, 36, 37, 38, 39, 40, 41, 42, 43, 44, 45, 8, 46, 47, 48, 49, 50, 51, 52, 53, 54, 55, 56, 57, 58, 59, 60, 61, 62, 63, 64, 65, 80, 81, 82, 83, 84, 85, 86, 87, 88, 89, 90, 91, 92, 93, 94, 95, 96, 97, 98, 99, 100, 101, 102, 103, 104, 105, 106] (by decide +kernel) (by decide +kernel)
set_option maxRecDepth 20000 in
theorem gX8_measured_X6_measure : GoodIn wsX8_measured (wsV RX8 256 RX6 yX6_measure wsX6_measure) := goodIn_app (goodIn_of _ (by decide +kernel)) ggX8_measured_X6_measure
theorem dX8_measured_0 : decode cX8_measured 0 = .ok (.aload_n 0, 1) := by decide +kernel
theorem dX8_measured_1 : decode cX8_measured 1 = .ok (.getfield 29, 3) := by decide +kernel
theorem dX8_measured_4 : decode cX8_measured 4 = .ok (.getfield 364, 3) := by decide +kernel
theorem dX8_measured_7 : decode cX8_measured 7 = .ok (.aload_n 0, 1) := by decide +kernel
theorem dX8_measured_8 : decode cX8_measured 8 = .ok (.getfield 10, 3) := by decide +kernel
theorem dX8_measured_11 : decode cX8_measured 11 = .ok (.getfield 358, 3) := by decide +kernel
theorem dX8_measured_14 : decode cX8_measured 14 = .ok (.if_icmp .eq 14, 3) := by decide +kernel
theorem dX8_measured_17 : decode cX8_measured 17 = .ok (.aload_n 0, 1) := by decide +kernel
theorem dX8_measured_18 : decode cX8_measured 18 = .ok (.getfield 29, 3) := by decide +kernel
theorem dX8_measured_21 : decode cX8_measured 21 = .ok (.aload_n 0, 1) := by decide +kernel
theorem dX8_measured_22 : decode cX8_measured 22 = .ok (.getfield 10, 3) := by decide +kernel
theorem dX8_measured_25 : decode cX8_measured 25 = .ok (.invokevirtual 256, 3) := by decide +kernel
theorem dX8_measured_28 : decode cX8_measured 28 = .ok (.aload_n 0, 1) := by decide +kernel
theorem dX8_measured_29 : decode cX8_measured 29 = .ok (.getfield 29, 3) := by decide +kernel
theorem dX8_measured_32 : decode cX8_measured 32 = .ok (.areturn, 1) := by decide +kernel
set_option maxRecDepth 20000 in
theorem ggX8_best_X0_search : GoodIn wsX8_best wsX0_search := goodIn_r _ [9, 10, 11, 12, 13, 14, 15, 16, 17, 18, 19, 20, 21, 22, 23, 24, 25, 26, 27, 28, 29, 30, 31, 32, 33, 34, 35, 36, 37, 38, 39, 40, 41, 42, 43, 8, 44, 45, 46, 47, 48, 49, 50, 51, 52, 53, 54, 55, 56, 57, 58, 59, 60, 61, 62, 63, 64, 65, 66, 67, 68, 69, 70, 71, 72, 73, 74, 75, 76, 77, 78, 79, 80, 81, 82, 83, 84, 85, 86, 87, 88, 89, 90, 91, 92, 93, 94, 95, 96, 97, 98, 99, 100, 101, 102, 103, 104, 105, 106, 107, 108, 109, 110, 111, 112, 113, 114, 115, 116, 117, 118, 119, 120, 121, 122, 123, 124, 125, 126, 127, 128, 129, 130, 131, 132, 147, 148, 149, 150, 151, 152, 153, 154, 155, 156, 157, 158, 159, 160, 161, 162, 163, 164, 165, 166, 167, 168, 169, 170, 171, 172, 173, 174, 175, 176, 177, 178, 179, 180] (by decide +kernel) (by decide +kernel)
set_option maxRecDepth 20000 in
theorem gX8_best_X0_search : GoodIn wsX8_best (wsV RX8 368 RX0 yX0_search wsX0_search) := goodIn_app (goodIn_of _ (by decide +kernel)) ggX8_best_X0_search
theorem dX8_best_0 : decode cX8_best 0 = .ok (.aload_n 0, 1) := by decide +kernel
theorem dX8_best_1 : decode cX8_best 1 = .ok (.getfield 39, 3) := by decide +kernel
theorem dX8_best_4 : decode cX8_best 4 = .ok (.getfield 367, 3) := by decide +kernel
theorem dX8_best_7 : decode cX8_best 7 = .ok (.aload_n 0, 1) := by decide +kernel
theorem dX8_best_8 : decode cX8_best 8 = .ok (.getfield 10, 3) := by decide +kernel
theorem dX8_best_11 : decode cX8_best 11 = .ok (.getfield 361, 3) := by decide +kernel
theorem dX8_best_14 : decode cX8_best 14 = .ok (.if_icmp .eq 14, 3) := by decide +kernel
theorem dX8_best_17 : decode cX8_best 17 = .ok (.aload_n 0, 1) := by decide +kernel
theorem dX8_best_18 : decode cX8_best 18 = .ok (.getfield 39, 3) := by decide +kernel
theorem dX8_best_21 : decode cX8_best 21 = .ok (.aload_n 0, 1) := by decide +kernel
theorem dX8_best_22 : decode cX8_best 22 = .ok (.getfield 10, 3) := by decide +kernel
theorem dX8_best_25 : decode cX8_best 25 = .ok (.invokevirtual 368, 3) := by decide +kernel
theorem dX8_best_28 : decode cX8_best 28 = .ok (.aload_n 0, 1) := by decide +kernel
theorem dX8_best_29 : decode cX8_best 29 = .ok (.getfield 39, 3) := by decide +kernel
theorem dX8_best_32 : decode cX8_best 32 = .ok (.areturn, 1) := by decide +kernel
theorem dX8_has_0 : decode cX8_has 0 = .ok (.iload_n 0, 1) := by decide +kernel
theorem dX8_has_1 : decode cX8_has 1 = .ok (.iload_n 1, 1) := by decide +kernel
theorem dX8_has_2 : decode cX8_has 2 = .ok (.ishr, 1) := by decide +kernel
theorem dX8_has_3 : decode cX8_has 3 = .ok (.iconst 1, 1) := by decide +kernel
theorem dX8_has_4 : decode cX8_has 4 = .ok (.iand, 1) := by decide +kernel
theorem dX8_has_5 : decode cX8_has 5 = .ok (.ifCond .eq 7, 3) := by decide +kernel
theorem dX8_has_8 : decode cX8_has 8 = .ok (.iconst 1, 1) := by decide +kernel
theorem dX8_has_9 : decode cX8_has 9 = .ok (.goto 4, 3) := by decide +kernel
theorem dX8_has_12 : decode cX8_has 12 = .ok (.iconst 0, 1) := by decide +kernel
theorem dX8_has_13 : decode cX8_has 13 = .ok (.ireturn, 1) := by decide +kernel
theorem dX8_leastMultiple_0 : decode cX8_leastMultiple 0 = .ok (.iload_n 1, 1) := by decide +kernel
theorem dX8_leastMultiple_1 : decode cX8_leastMultiple 1 = .ok (.iconst 1, 1) := by decide +kernel
theorem dX8_leastMultiple_2 : decode cX8_leastMultiple 2 = .ok (.if_icmp .ge 5, 3) := by decide +kernel
theorem dX8_leastMultiple_5 : decode cX8_leastMultiple 5 = .ok (.iload_n 0, 1) := by decide +kernel
theorem dX8_leastMultiple_6 : decode cX8_leastMultiple 6 = .ok (.ireturn, 1) := by decide +kernel
theorem dX8_leastMultiple_7 : decode cX8_leastMultiple 7 = .ok (.iconst 1, 1) := by decide +kernel
theorem dX8_leastMultiple_8 : decode cX8_leastMultiple 8 = .ok (.istore_n 2, 1) := by decide +kernel
theorem dX8_leastMultiple_9 : decode cX8_leastMultiple 9 = .ok (.iload_n 2, 1) := by decide +kernel
theorem dX8_leastMultiple_10 : decode cX8_leastMultiple 10 = .ok (.iload_n 1, 1) := by decide +kernel
theorem dX8_leastMultiple_11 : decode cX8_leastMultiple 11 = .ok (.if_icmp .ge 21, 3) := by decide +kernel
theorem dX8_leastMultiple_14 : decode cX8_leastMultiple 14 = .ok (.iload_n 0, 1) := by decide +kernel
theorem dX8_leastMultiple_15 : decode cX8_leastMultiple 15 = .ok (.iload_n 2, 1) := by decide +kernel
theorem dX8_leastMultiple_16 : decode cX8_leastMultiple 16 = .ok (.imul, 1) := by decide +kernel
theorem dX8_leastMultiple_17 : decode cX8_leastMultiple 17 = .ok (.iload_n 1, 1) := by decide +kernel
theorem dX8_leastMultiple_18 : decode cX8_leastMultiple 18 = .ok (.irem, 1) := by decide +kernel
theorem dX8_leastMultiple_19 : decode cX8_leastMultiple 19 = .ok (.ifCond .ne 7, 3) := by decide +kernel
theorem dX8_leastMultiple_22 : decode cX8_leastMultiple 22 = .ok (.iload_n 0, 1) := by decide +kernel
theorem dX8_leastMultiple_23 : decode cX8_leastMultiple 23 = .ok (.iload_n 2, 1) := by decide +kernel
theorem dX8_leastMultiple_24 : decode cX8_leastMultiple 24 = .ok (.imul, 1) := by decide +kernel
theorem dX8_leastMultiple_25 : decode cX8_leastMultiple 25 = .ok (.ireturn, 1) := by decide +kernel
theorem dX8_leastMultiple_26 : decode cX8_leastMultiple 26 = .ok (.iinc 2 1, 3) := by decide +kernel
theorem dX8_leastMultiple_29 : decode cX8_leastMultiple 29 = .ok (.goto (-20), 3) := by decide +kernel
theorem dX8_leastMultiple_32 : decode cX8_leastMultiple 32 = .ok (.iload_n 0, 1) := by decide +kernel
theorem dX8_leastMultiple_33 : decode cX8_leastMultiple 33 = .ok (.iload_n 1, 1) := by decide +kernel
theorem dX8_leastMultiple_34 : decode cX8_leastMultiple 34 = .ok (.imul, 1) := by decide +kernel
theorem dX8_leastMultiple_35 : decode cX8_leastMultiple 35 = .ok (.ireturn, 1) := by decide +kernel
theorem dX9_init_0 : decode cX9_init 0 = .ok (.aload_n 0, 1) := by decide +kernel
theorem dX9_init_1 : decode cX9_init 1 = .ok (.invokespecial 1, 3) := by decide +kernel
theorem dX9_init_4 : decode cX9_init 4 = .ok (.aload_n 0, 1) := by decide +kernel
theorem dX9_init_5 : decode cX9_init 5 = .ok (.iconst 1, 1) := by decide +kernel
theorem dX9_init_6 : decode cX9_init 6 = .ok (.putfield 7, 3) := by decide +kernel
theorem dX9_init_9 : decode cX9_init 9 = .ok (.aload_n 0, 1) := by decide +kernel
theorem dX9_init_10 : decode cX9_init 10 = .ok (.bipush 20, 2) := by decide +kernel
theorem dX9_init_12 : decode cX9_init 12 = .ok (.anewarray 13, 3) := by decide +kernel
theorem dX9_init_15 : decode cX9_init 15 = .ok (.putfield 15, 3) := by decide +kernel
theorem dX9_init_18 : decode cX9_init 18 = .ok (.aload_n 0, 1) := by decide +kernel
theorem dX9_init_19 : decode cX9_init 19 = .ok (.bipush 12, 2) := by decide +kernel
theorem dX9_init_21 : decode cX9_init 21 = .ok (.anewarray 13, 3) := by decide +kernel
theorem dX9_init_24 : decode cX9_init 24 = .ok (.putfield 19, 3) := by decide +kernel
theorem dX9_init_27 : decode cX9_init 27 = .ok (.aload_n 0, 1) := by decide +kernel
theorem dX9_init_28 : decode cX9_init 28 = .ok (.iconst 4, 1) := by decide +kernel
theorem dX9_init_29 : decode cX9_init 29 = .ok (.anewarray 13, 3) := by decide +kernel
theorem dX9_init_32 : decode cX9_init 32 = .ok (.putfield 22, 3) := by decide +kernel
theorem dX9_init_35 : decode cX9_init 35 = .ok (.aload_n 0, 1) := by decide +kernel
theorem dX9_init_36 : decode cX9_init 36 = .ok (.iconst 4, 1) := by decide +kernel
theorem dX9_init_37 : decode cX9_init 37 = .ok (.newarray .int, 2) := by decide +kernel
theorem dX9_init_39 : decode cX9_init 39 = .ok (.putfield 25, 3) := by decide +kernel
theorem dX9_init_42 : decode cX9_init 42 = .ok (.return_, 1) := by decide +kernel
set_option maxRecDepth 20000 in
theorem ggX9_copy_X9_init : GoodIn wsX9_copy wsX9_init := goodIn_r _ [20, 21, 22, 23, 4, 14, 8, 15, 16, 24, 17, 25, 26, 27, 28, 29, 30, 31, 32] (by decide +kernel) (by decide +kernel)
set_option maxRecDepth 20000 in
theorem gX9_copy_X9_init : GoodIn wsX9_copy (wsX9_init) := ggX9_copy_X9_init
theorem dX9_copy_0 : decode cX9_copy 0 = .ok (.new 8, 3) := by decide +kernel
theorem dX9_copy_3 : decode cX9_copy 3 = .ok (.dup, 1) := by decide +kernel
theorem dX9_copy_4 : decode cX9_copy 4 = .ok (.invokespecial 28, 3) := by decide +kernel
theorem dX9_copy_7 : decode cX9_copy 7 = .ok (.astore_n 1, 1) := by decide +kernel
theorem dX9_copy_8 : decode cX9_copy 8 = .ok (.aload_n 1, 1) := by decide +kernel
theorem dX9_copy_9 : decode cX9_copy 9 = .ok (.aload_n 0, 1) := by decide +kernel
theorem dX9_copy_10 : decode cX9_copy 10 = .ok (.getfield 7, 3) := by decide +kernel
theorem dX9_copy_13 : decode cX9_copy 13 = .ok (.putfield 7, 3) := by decide +kernel
theorem dX9_copy_16 : decode cX9_copy 16 = .ok (.aload_n 1, 1) := by decide +kernel
theorem dX9_copy_17 : decode cX9_copy 17 = .ok (.aload_n 0, 1) := by decide +kernel
theorem dX9_copy_18 : decode cX9_copy 18 = .ok (.getfield 29, 3) := by decide +kernel
theorem dX9_copy_21 : decode cX9_copy 21 = .ok (.putfield 29, 3) := by decide +kernel
theorem dX9_copy_24 : decode cX9_copy 24 = .ok (.aload_n 1, 1) := by decide +kernel
theorem dX9_copy_25 : decode cX9_copy 25 = .ok (.aload_n 0, 1) := by decide +kernel
theorem dX9_copy_26 : decode cX9_copy 26 = .ok (.getfield 32, 3) := by decide +kernel
theorem dX9_copy_29 : decode cX9_copy 29 = .ok (.putfield 32, 3) := by decide +kernel
theorem dX9_copy_32 : decode cX9_copy 32 = .ok (.aload_n 1, 1) := by decide +kernel
theorem dX9_copy_33 : decode cX9_copy 33 = .ok (.aload_n 0, 1) := by decide +kernel
theorem dX9_copy_34 : decode cX9_copy 34 = .ok (.getfield 35, 3) := by decide +kernel
theorem dX9_copy_37 : decode cX9_copy 37 = .ok (.putfield 35, 3) := by decide +kernel
theorem dX9_copy_40 : decode cX9_copy 40 = .ok (.iconst 0, 1) := by decide +kernel
theorem dX9_copy_41 : decode cX9_copy 41 = .ok (.istore_n 2, 1) := by decide +kernel
theorem dX9_copy_42 : decode cX9_copy 42 = .ok (.iload_n 2, 1) := by decide +kernel
theorem dX9_copy_43 : decode cX9_copy 43 = .ok (.aload_n 0, 1) := by decide +kernel
theorem dX9_copy_44 : decode cX9_copy 44 = .ok (.getfield 29, 3) := by decide +kernel
theorem dX9_copy_47 : decode cX9_copy 47 = .ok (.if_icmp .ge 27, 3) := by decide +kernel
theorem dX9_copy_50 : decode cX9_copy 50 = .ok (.aload_n 1, 1) := by decide +kernel
theorem dX9_copy_51 : decode cX9_copy 51 = .ok (.getfield 15, 3) := by decide +kernel
theorem dX9_copy_54 : decode cX9_copy 54 = .ok (.iload_n 2, 1) := by decide +kernel
theorem dX9_copy_55 : decode cX9_copy 55 = .ok (.aload_n 0, 1) := by decide +kernel
theorem dX9_copy_56 : decode cX9_copy 56 = .ok (.getfield 15, 3) := by decide +kernel
theorem dX9_copy_59 : decode cX9_copy 59 = .ok (.iload_n 2, 1) := by decide +kernel
theorem dX9_copy_60 : decode cX9_copy 60 = .ok (.aaload, 1) := by decide +kernel
theorem dX9_copy_61 : decode cX9_copy 61 = .ok (.invokevirtual 38, 3) := by decide +kernel
theorem dX9_copy_64 : decode cX9_copy 64 = .ok (.checkcast 13, 3) := by decide +kernel
theorem dX9_copy_67 : decode cX9_copy 67 = .ok (.aastore, 1) := by decide +kernel
theorem dX9_copy_68 : decode cX9_copy 68 = .ok (.iinc 2 1, 3) := by decide +kernel
theorem dX9_copy_71 : decode cX9_copy 71 = .ok (.goto (-29), 3) := by decide +kernel
theorem dX9_copy_74 : decode cX9_copy 74 = .ok (.iconst 0, 1) := by decide +kernel
theorem dX9_copy_75 : decode cX9_copy 75 = .ok (.istore_n 2, 1) := by decide +kernel
theorem dX9_copy_76 : decode cX9_copy 76 = .ok (.iload_n 2, 1) := by decide +kernel
theorem dX9_copy_77 : decode cX9_copy 77 = .ok (.aload_n 0, 1) := by decide +kernel
theorem dX9_copy_78 : decode cX9_copy 78 = .ok (.getfield 7, 3) := by decide +kernel
theorem dX9_copy_81 : decode cX9_copy 81 = .ok (.if_icmp .ge 27, 3) := by decide +kernel
theorem dX9_copy_84 : decode cX9_copy 84 = .ok (.aload_n 1, 1) := by decide +kernel
theorem dX9_copy_85 : decode cX9_copy 85 = .ok (.getfield 19, 3) := by decide +kernel
theorem dX9_copy_88 : decode cX9_copy 88 = .ok (.iload_n 2, 1) := by decide +kernel
theorem dX9_copy_89 : decode cX9_copy 89 = .ok (.aload_n 0, 1) := by decide +kernel
theorem dX9_copy_90 : decode cX9_copy 90 = .ok (.getfield 19, 3) := by decide +kernel
theorem dX9_copy_93 : decode cX9_copy 93 = .ok (.iload_n 2, 1) := by decide +kernel
theorem dX9_copy_94 : decode cX9_copy 94 = .ok (.aaload, 1) := by decide +kernel
theorem dX9_copy_95 : decode cX9_copy 95 = .ok (.invokevirtual 38, 3) := by decide +kernel
theorem dX9_copy_98 : decode cX9_copy 98 = .ok (.checkcast 13, 3) := by decide +kernel
theorem dX9_copy_101 : decode cX9_copy 101 = .ok (.aastore, 1) := by decide +kernel
theorem dX9_copy_102 : decode cX9_copy 102 = .ok (.iinc 2 1, 3) := by decide +kernel
theorem dX9_copy_105 : decode cX9_copy 105 = .ok (.goto (-29), 3) := by decide +kernel
theorem dX9_copy_108 : decode cX9_copy 108 = .ok (.iconst 0, 1) := by decide +kernel
theorem dX9_copy_109 : decode cX9_copy 109 = .ok (.istore_n 2, 1) := by decide +kernel
theorem dX9_copy_110 : decode cX9_copy 110 = .ok (.iload_n 2, 1) := by decide +kernel
theorem dX9_copy_111 : decode cX9_copy 111 = .ok (.aload_n 0, 1) := by decide +kernel
theorem dX9_copy_112 : decode cX9_copy 112 = .ok (.getfield 32, 3) := by decide +kernel
theorem dX9_copy_115 : decode cX9_copy 115 = .ok (.if_icmp .ge 21, 3) := by decide +kernel
theorem dX9_copy_118 : decode cX9_copy 118 = .ok (.aload_n 1, 1) := by decide +kernel
theorem dX9_copy_119 : decode cX9_copy 119 = .ok (.getfield 22, 3) := by decide +kernel
theorem dX9_copy_122 : decode cX9_copy 122 = .ok (.iload_n 2, 1) := by decide +kernel
theorem dX9_copy_123 : decode cX9_copy 123 = .ok (.aload_n 0, 1) := by decide +kernel
theorem dX9_copy_124 : decode cX9_copy 124 = .ok (.getfield 22, 3) := by decide +kernel
theorem dX9_copy_127 : decode cX9_copy 127 = .ok (.iload_n 2, 1) := by decide +kernel
theorem dX9_copy_128 : decode cX9_copy 128 = .ok (.aaload, 1) := by decide +kernel
theorem dX9_copy_129 : decode cX9_copy 129 = .ok (.aastore, 1) := by decide +kernel
theorem dX9_copy_130 : decode cX9_copy 130 = .ok (.iinc 2 1, 3) := by decide +kernel
theorem dX9_copy_133 : decode cX9_copy 133 = .ok (.goto (-23), 3) := by decide +kernel
theorem dX9_copy_136 : decode cX9_copy 136 = .ok (.aload_n 1, 1) := by decide +kernel
theorem dX9_copy_137 : decode cX9_copy 137 = .ok (.aload_n 0, 1) := by decide +kernel
theorem dX9_copy_138 : decode cX9_copy 138 = .ok (.getfield 25, 3) := by decide +kernel
theorem dX9_copy_141 : decode cX9_copy 141 = .ok (.invokevirtual 38, 3) := by decide +kernel
theorem dX9_copy_144 : decode cX9_copy 144 = .ok (.checkcast 13, 3) := by decide +kernel
theorem dX9_copy_147 : decode cX9_copy 147 = .ok (.putfield 25, 3) := by decide +kernel
theorem dX9_copy_150 : decode cX9_copy 150 = .ok (.aload_n 1, 1) := by decide +kernel
theorem dX9_copy_151 : decode cX9_copy 151 = .ok (.areturn, 1) := by decide +kernel
theorem dX9_open_0 : decode cX9_open 0 = .ok (.iconst 0, 1) := by decide +kernel
theorem dX9_open_1 : decode cX9_open 1 = .ok (.istore_n 3, 1) := by decide +kernel
theorem dX9_open_2 : decode cX9_open 2 = .ok (.iconst 0, 1) := by decide +kernel
theorem dX9_open_3 : decode cX9_open 3 = .ok (.istore 4, 2) := by decide +kernel
theorem dX9_open_5 : decode cX9_open 5 = .ok (.iload 4, 2) := by decide +kernel
theorem dX9_open_7 : decode cX9_open 7 = .ok (.aload_n 0, 1) := by decide +kernel
theorem dX9_open_8 : decode cX9_open 8 = .ok (.getfield 29, 3) := by decide +kernel
theorem dX9_open_11 : decode cX9_open 11 = .ok (.if_icmp .ge 82, 3) := by decide +kernel
theorem dX9_open_14 : decode cX9_open 14 = .ok (.iload_n 3, 1) := by decide +kernel
theorem dX9_open_15 : decode cX9_open 15 = .ok (.aload_n 0, 1) := by decide +kernel
theorem dX9_open_16 : decode cX9_open 16 = .ok (.getfield 15, 3) := by decide +kernel
theorem dX9_open_19 : decode cX9_open 19 = .ok (.iload 4, 2) := by decide +kernel
theorem dX9_open_21 : decode cX9_open 21 = .ok (.aaload, 1) := by decide +kernel
theorem dX9_open_22 : decode cX9_open 22 = .ok (.iconst 2, 1) := by decide +kernel
theorem dX9_open_23 : decode cX9_open 23 = .ok (.iaload, 1) := by decide +kernel
theorem dX9_open_24 : decode cX9_open 24 = .ok (.iconst 1, 1) := by decide +kernel
theorem dX9_open_25 : decode cX9_open 25 = .ok (.if_icmp .ne 59, 3) := by decide +kernel
theorem dX9_open_28 : decode cX9_open 28 = .ok (.aload_n 0, 1) := by decide +kernel
theorem dX9_open_29 : decode cX9_open 29 = .ok (.getfield 15, 3) := by decide +kernel
theorem dX9_open_32 : decode cX9_open 32 = .ok (.iload 4, 2) := by decide +kernel
theorem dX9_open_34 : decode cX9_open 34 = .ok (.aaload, 1) := by decide +kernel
theorem dX9_open_35 : decode cX9_open 35 = .ok (.iconst 0, 1) := by decide +kernel
theorem dX9_open_36 : decode cX9_open 36 = .ok (.iaload, 1) := by decide +kernel
theorem dX9_open_37 : decode cX9_open 37 = .ok (.iload_n 1, 1) := by decide +kernel
theorem dX9_open_38 : decode cX9_open 38 = .ok (.if_icmp .ne 16, 3) := by decide +kernel
theorem dX9_open_41 : decode cX9_open 41 = .ok (.aload_n 0, 1) := by decide +kernel
theorem dX9_open_42 : decode cX9_open 42 = .ok (.getfield 15, 3) := by decide +kernel
theorem dX9_open_45 : decode cX9_open 45 = .ok (.iload 4, 2) := by decide +kernel
theorem dX9_open_47 : decode cX9_open 47 = .ok (.aaload, 1) := by decide +kernel
theorem dX9_open_48 : decode cX9_open 48 = .ok (.iconst 1, 1) := by decide +kernel
theorem dX9_open_49 : decode cX9_open 49 = .ok (.iaload, 1) := by decide +kernel
theorem dX9_open_50 : decode cX9_open 50 = .ok (.iload_n 2, 1) := by decide +kernel
theorem dX9_open_51 : decode cX9_open 51 = .ok (.if_icmp .eq 29, 3) := by decide +kernel
theorem dX9_open_54 : decode cX9_open 54 = .ok (.aload_n 0, 1) := by decide +kernel
theorem dX9_open_55 : decode cX9_open 55 = .ok (.getfield 15, 3) := by decide +kernel
theorem dX9_open_58 : decode cX9_open 58 = .ok (.iload 4, 2) := by decide +kernel
theorem dX9_open_60 : decode cX9_open 60 = .ok (.aaload, 1) := by decide +kernel
theorem dX9_open_61 : decode cX9_open 61 = .ok (.iconst 0, 1) := by decide +kernel
theorem dX9_open_62 : decode cX9_open 62 = .ok (.iaload, 1) := by decide +kernel
theorem dX9_open_63 : decode cX9_open 63 = .ok (.iload_n 2, 1) := by decide +kernel
theorem dX9_open_64 : decode cX9_open 64 = .ok (.if_icmp .ne 20, 3) := by decide +kernel
theorem dX9_open_67 : decode cX9_open 67 = .ok (.aload_n 0, 1) := by decide +kernel
theorem dX9_open_68 : decode cX9_open 68 = .ok (.getfield 15, 3) := by decide +kernel
theorem dX9_open_71 : decode cX9_open 71 = .ok (.iload 4, 2) := by decide +kernel
theorem dX9_open_73 : decode cX9_open 73 = .ok (.aaload, 1) := by decide +kernel
theorem dX9_open_74 : decode cX9_open 74 = .ok (.iconst 1, 1) := by decide +kernel
theorem dX9_open_75 : decode cX9_open 75 = .ok (.iaload, 1) := by decide +kernel
theorem dX9_open_76 : decode cX9_open 76 = .ok (.iload_n 1, 1) := by decide +kernel
theorem dX9_open_77 : decode cX9_open 77 = .ok (.if_icmp .ne 7, 3) := by decide +kernel
theorem dX9_open_80 : decode cX9_open 80 = .ok (.iconst 1, 1) := by decide +kernel
theorem dX9_open_81 : decode cX9_open 81 = .ok (.goto 4, 3) := by decide +kernel
theorem dX9_open_84 : decode cX9_open 84 = .ok (.iconst 0, 1) := by decide +kernel
theorem dX9_open_85 : decode cX9_open 85 = .ok (.iadd, 1) := by decide +kernel
theorem dX9_open_86 : decode cX9_open 86 = .ok (.istore_n 3, 1) := by decide +kernel
theorem dX9_open_87 : decode cX9_open 87 = .ok (.iinc 4 1, 3) := by decide +kernel
theorem dX9_open_90 : decode cX9_open 90 = .ok (.goto (-85), 3) := by decide +kernel
theorem dX9_open_93 : decode cX9_open 93 = .ok (.iload_n 3, 1) := by decide +kernel
theorem dX9_open_94 : decode cX9_open 94 = .ok (.ireturn, 1) := by decide +kernel
theorem dX9_opens_0 : decode cX9_opens 0 = .ok (.iconst 0, 1) := by decide +kernel
theorem dX9_opens_1 : decode cX9_opens 1 = .ok (.istore_n 2, 1) := by decide +kernel
theorem dX9_opens_2 : decode cX9_opens 2 = .ok (.iconst 0, 1) := by decide +kernel
theorem dX9_opens_3 : decode cX9_opens 3 = .ok (.istore_n 3, 1) := by decide +kernel
theorem dX9_opens_4 : decode cX9_opens 4 = .ok (.iload_n 3, 1) := by decide +kernel
theorem dX9_opens_5 : decode cX9_opens 5 = .ok (.aload_n 0, 1) := by decide +kernel
theorem dX9_opens_6 : decode cX9_opens 6 = .ok (.getfield 29, 3) := by decide +kernel
theorem dX9_opens_9 : decode cX9_opens 9 = .ok (.if_icmp .ge 52, 3) := by decide +kernel
theorem dX9_opens_12 : decode cX9_opens 12 = .ok (.iload_n 2, 1) := by decide +kernel
theorem dX9_opens_13 : decode cX9_opens 13 = .ok (.iload_n 1, 1) := by decide +kernel
theorem dX9_opens_14 : decode cX9_opens 14 = .ok (.ifCond .lt 27, 3) := by decide +kernel
theorem dX9_opens_17 : decode cX9_opens 17 = .ok (.aload_n 0, 1) := by decide +kernel
theorem dX9_opens_18 : decode cX9_opens 18 = .ok (.getfield 15, 3) := by decide +kernel
theorem dX9_opens_21 : decode cX9_opens 21 = .ok (.iload_n 3, 1) := by decide +kernel
theorem dX9_opens_22 : decode cX9_opens 22 = .ok (.aaload, 1) := by decide +kernel
theorem dX9_opens_23 : decode cX9_opens 23 = .ok (.iconst 0, 1) := by decide +kernel
theorem dX9_opens_24 : decode cX9_opens 24 = .ok (.iaload, 1) := by decide +kernel
theorem dX9_opens_25 : decode cX9_opens 25 = .ok (.iload_n 1, 1) := by decide +kernel
theorem dX9_opens_26 : decode cX9_opens 26 = .ok (.if_icmp .eq 15, 3) := by decide +kernel
theorem dX9_opens_29 : decode cX9_opens 29 = .ok (.aload_n 0, 1) := by decide +kernel
theorem dX9_opens_30 : decode cX9_opens 30 = .ok (.getfield 15, 3) := by decide +kernel
theorem dX9_opens_33 : decode cX9_opens 33 = .ok (.iload_n 3, 1) := by decide +kernel
theorem dX9_opens_34 : decode cX9_opens 34 = .ok (.aaload, 1) := by decide +kernel
theorem dX9_opens_35 : decode cX9_opens 35 = .ok (.iconst 1, 1) := by decide +kernel
theorem dX9_opens_36 : decode cX9_opens 36 = .ok (.iaload, 1) := by decide +kernel
theorem dX9_opens_37 : decode cX9_opens 37 = .ok (.iload_n 1, 1) := by decide +kernel
theorem dX9_opens_38 : decode cX9_opens 38 = .ok (.if_icmp .ne 14, 3) := by decide +kernel
theorem dX9_opens_41 : decode cX9_opens 41 = .ok (.aload_n 0, 1) := by decide +kernel
theorem dX9_opens_42 : decode cX9_opens 42 = .ok (.getfield 15, 3) := by decide +kernel
theorem dX9_opens_45 : decode cX9_opens 45 = .ok (.iload_n 3, 1) := by decide +kernel
theorem dX9_opens_46 : decode cX9_opens 46 = .ok (.aaload, 1) := by decide +kernel
theorem dX9_opens_47 : decode cX9_opens 47 = .ok (.iconst 2, 1) := by decide +kernel
theorem dX9_opens_48 : decode cX9_opens 48 = .ok (.iaload, 1) := by decide +kernel
theorem dX9_opens_49 : decode cX9_opens 49 = .ok (.goto 4, 3) := by decide +kernel
theorem dX9_opens_52 : decode cX9_opens 52 = .ok (.iconst 0, 1) := by decide +kernel
theorem dX9_opens_53 : decode cX9_opens 53 = .ok (.iadd, 1) := by decide +kernel
theorem dX9_opens_54 : decode cX9_opens 54 = .ok (.istore_n 2, 1) := by decide +kernel
theorem dX9_opens_55 : decode cX9_opens 55 = .ok (.iinc 3 1, 3) := by decide +kernel
theorem dX9_opens_58 : decode cX9_opens 58 = .ok (.goto (-54), 3) := by decide +kernel
theorem dX9_opens_61 : decode cX9_opens 61 = .ok (.iload_n 2, 1) := by decide +kernel
theorem dX9_opens_62 : decode cX9_opens 62 = .ok (.ireturn, 1) := by decide +kernel
theorem dX9_cycle_0 : decode cX9_cycle 0 = .ok (.iconst 1, 1) := by decide +kernel
theorem dX9_cycle_1 : decode cX9_cycle 1 = .ok (.istore_n 1, 1) := by decide +kernel
theorem dX9_cycle_2 : decode cX9_cycle 2 = .ok (.iconst 1, 1) := by decide +kernel
theorem dX9_cycle_3 : decode cX9_cycle 3 = .ok (.istore_n 2, 1) := by decide +kernel
theorem dX9_cycle_4 : decode cX9_cycle 4 = .ok (.iconst 0, 1) := by decide +kernel
theorem dX9_cycle_5 : decode cX9_cycle 5 = .ok (.istore_n 3, 1) := by decide +kernel
theorem dX9_cycle_6 : decode cX9_cycle 6 = .ok (.iload_n 3, 1) := by decide +kernel
theorem dX9_cycle_7 : decode cX9_cycle 7 = .ok (.aload_n 0, 1) := by decide +kernel
theorem dX9_cycle_8 : decode cX9_cycle 8 = .ok (.getfield 32, 3) := by decide +kernel
theorem dX9_cycle_11 : decode cX9_cycle 11 = .ok (.if_icmp .ge 29, 3) := by decide +kernel
theorem dX9_cycle_14 : decode cX9_cycle 14 = .ok (.iload_n 2, 1) := by decide +kernel
theorem dX9_cycle_15 : decode cX9_cycle 15 = .ok (.iload_n 1, 1) := by decide +kernel
theorem dX9_cycle_16 : decode cX9_cycle 16 = .ok (.aload_n 0, 1) := by decide +kernel
theorem dX9_cycle_17 : decode cX9_cycle 17 = .ok (.getfield 22, 3) := by decide +kernel
theorem dX9_cycle_20 : decode cX9_cycle 20 = .ok (.iload_n 3, 1) := by decide +kernel
theorem dX9_cycle_21 : decode cX9_cycle 21 = .ok (.aaload, 1) := by decide +kernel
theorem dX9_cycle_22 : decode cX9_cycle 22 = .ok (.arraylength, 1) := by decide +kernel
theorem dX9_cycle_23 : decode cX9_cycle 23 = .ok (.irem, 1) := by decide +kernel
theorem dX9_cycle_24 : decode cX9_cycle 24 = .ok (.ifCond .ne 7, 3) := by decide +kernel
theorem dX9_cycle_27 : decode cX9_cycle 27 = .ok (.iconst 1, 1) := by decide +kernel
theorem dX9_cycle_28 : decode cX9_cycle 28 = .ok (.goto 4, 3) := by decide +kernel
theorem dX9_cycle_31 : decode cX9_cycle 31 = .ok (.iconst 0, 1) := by decide +kernel
theorem dX9_cycle_32 : decode cX9_cycle 32 = .ok (.iand, 1) := by decide +kernel
theorem dX9_cycle_33 : decode cX9_cycle 33 = .ok (.istore_n 2, 1) := by decide +kernel
theorem dX9_cycle_34 : decode cX9_cycle 34 = .ok (.iinc 3 1, 3) := by decide +kernel
theorem dX9_cycle_37 : decode cX9_cycle 37 = .ok (.goto (-31), 3) := by decide +kernel
theorem dX9_cycle_40 : decode cX9_cycle 40 = .ok (.iload_n 2, 1) := by decide +kernel
theorem dX9_cycle_41 : decode cX9_cycle 41 = .ok (.ifCond .eq 5, 3) := by decide +kernel
theorem dX9_cycle_44 : decode cX9_cycle 44 = .ok (.iload_n 1, 1) := by decide +kernel
theorem dX9_cycle_45 : decode cX9_cycle 45 = .ok (.ireturn, 1) := by decide +kernel
theorem dX9_cycle_46 : decode cX9_cycle 46 = .ok (.iinc 1 1, 3) := by decide +kernel
theorem dX9_cycle_49 : decode cX9_cycle 49 = .ok (.goto (-47), 3) := by decide +kernel
theorem dX9_at_0 : decode cX9_at 0 = .ok (.aload_n 0, 1) := by decide +kernel
theorem dX9_at_1 : decode cX9_at 1 = .ok (.getfield 22, 3) := by decide +kernel
theorem dX9_at_4 : decode cX9_at 4 = .ok (.iload_n 1, 1) := by decide +kernel
theorem dX9_at_5 : decode cX9_at 5 = .ok (.aaload, 1) := by decide +kernel
theorem dX9_at_6 : decode cX9_at 6 = .ok (.lload_n 2, 1) := by decide +kernel
theorem dX9_at_7 : decode cX9_at 7 = .ok (.aload_n 0, 1) := by decide +kernel
theorem dX9_at_8 : decode cX9_at 8 = .ok (.getfield 25, 3) := by decide +kernel
theorem dX9_at_11 : decode cX9_at 11 = .ok (.iload_n 1, 1) := by decide +kernel
theorem dX9_at_12 : decode cX9_at 12 = .ok (.iaload, 1) := by decide +kernel
theorem dX9_at_13 : decode cX9_at 13 = .ok (.i2l, 1) := by decide +kernel
theorem dX9_at_14 : decode cX9_at 14 = .ok (.ladd, 1) := by decide +kernel
theorem dX9_at_15 : decode cX9_at 15 = .ok (.aload_n 0, 1) := by decide +kernel
theorem dX9_at_16 : decode cX9_at 16 = .ok (.getfield 22, 3) := by decide +kernel
theorem dX9_at_19 : decode cX9_at 19 = .ok (.iload_n 1, 1) := by decide +kernel
theorem dX9_at_20 : decode cX9_at 20 = .ok (.aaload, 1) := by decide +kernel
theorem dX9_at_21 : decode cX9_at 21 = .ok (.arraylength, 1) := by decide +kernel
theorem dX9_at_22 : decode cX9_at 22 = .ok (.i2l, 1) := by decide +kernel
theorem dX9_at_23 : decode cX9_at 23 = .ok (.lrem, 1) := by decide +kernel
theorem dX9_at_24 : decode cX9_at 24 = .ok (.l2i, 1) := by decide +kernel
theorem dX9_at_25 : decode cX9_at 25 = .ok (.iaload, 1) := by decide +kernel
theorem dX9_at_26 : decode cX9_at 26 = .ok (.ireturn, 1) := by decide +kernel
set_option maxRecDepth 20000 in
theorem ggX9_in_X9_at : GoodIn wsX9_in wsX9_at := goodIn_r _ [6, 7, 8, 9, 10, 11, 12, 13, 14, 15, 16] (by decide +kernel) (by decide +kernel)
set_option maxRecDepth 20000 in
theorem gX9_in_X9_at : GoodIn wsX9_in (wsV RX9 42 RX9 yX9_at wsX9_at) := goodIn_app (goodIn_of _ (by decide +kernel)) ggX9_in_X9_at
theorem dX9_in_0 : decode cX9_in 0 = .ok (.iconst 0, 1) := by decide +kernel
theorem dX9_in_1 : decode cX9_in 1 = .ok (.istore 4, 2) := by decide +kernel
theorem dX9_in_3 : decode cX9_in 3 = .ok (.iconst 0, 1) := by decide +kernel
theorem dX9_in_4 : decode cX9_in 4 = .ok (.istore 5, 2) := by decide +kernel
theorem dX9_in_6 : decode cX9_in 6 = .ok (.iload 5, 2) := by decide +kernel
theorem dX9_in_8 : decode cX9_in 8 = .ok (.aload_n 0, 1) := by decide +kernel
theorem dX9_in_9 : decode cX9_in 9 = .ok (.getfield 32, 3) := by decide +kernel
theorem dX9_in_12 : decode cX9_in 12 = .ok (.if_icmp .ge 33, 3) := by decide +kernel
theorem dX9_in_15 : decode cX9_in 15 = .ok (.iload 4, 2) := by decide +kernel
theorem dX9_in_17 : decode cX9_in 17 = .ok (.aload_n 0, 1) := by decide +kernel
theorem dX9_in_18 : decode cX9_in 18 = .ok (.iload 5, 2) := by decide +kernel
theorem dX9_in_20 : decode cX9_in 20 = .ok (.lload_n 2, 1) := by decide +kernel
theorem dX9_in_21 : decode cX9_in 21 = .ok (.invokevirtual 42, 3) := by decide +kernel
theorem dX9_in_24 : decode cX9_in 24 = .ok (.iload_n 1, 1) := by decide +kernel
theorem dX9_in_25 : decode cX9_in 25 = .ok (.if_icmp .ne 10, 3) := by decide +kernel
theorem dX9_in_28 : decode cX9_in 28 = .ok (.iconst 1, 1) := by decide +kernel
theorem dX9_in_29 : decode cX9_in 29 = .ok (.iload 5, 2) := by decide +kernel
theorem dX9_in_31 : decode cX9_in 31 = .ok (.ishl, 1) := by decide +kernel
theorem dX9_in_32 : decode cX9_in 32 = .ok (.goto 4, 3) := by decide +kernel
theorem dX9_in_35 : decode cX9_in 35 = .ok (.iconst 0, 1) := by decide +kernel
theorem dX9_in_36 : decode cX9_in 36 = .ok (.ior, 1) := by decide +kernel
theorem dX9_in_37 : decode cX9_in 37 = .ok (.istore 4, 2) := by decide +kernel
theorem dX9_in_39 : decode cX9_in 39 = .ok (.iinc 5 1, 3) := by decide +kernel
theorem dX9_in_42 : decode cX9_in 42 = .ok (.goto (-36), 3) := by decide +kernel
theorem dX9_in_45 : decode cX9_in 45 = .ok (.iload 4, 2) := by decide +kernel
theorem dX9_in_47 : decode cX9_in 47 = .ok (.ireturn, 1) := by decide +kernel
set_option maxRecDepth 20000 in
theorem ggX9_seen_X9_cycle : GoodIn wsX9_seen wsX9_cycle := goodIn_r _ [5, 6, 7, 17, 18, 19, 20, 21, 22, 23, 24] (by decide +kernel) (by decide +kernel)
set_option maxRecDepth 20000 in
theorem gX9_seen_X9_cycle : GoodIn wsX9_seen (wsV RX9 46 RX9 yX9_cycle wsX9_cycle) := goodIn_app (goodIn_of _ (by decide +kernel)) ggX9_seen_X9_cycle
set_option maxRecDepth 20000 in
theorem ggX9_seen_X9_in : GoodIn wsX9_seen wsX9_in := goodIn_r _ [11, 6, 12, 13, 14, 4, 15, 7, 16, 17, 18, 19, 20, 21, 22, 23, 24] (by decide +kernel) (by decide +kernel)
set_option maxRecDepth 20000 in
theorem gX9_seen_X9_in : GoodIn wsX9_seen (wsV RX9 50 RX9 yX9_in wsX9_in) := goodIn_app (goodIn_of _ (by decide +kernel)) ggX9_seen_X9_in
theorem dX9_seen_0 : decode cX9_seen 0 = .ok (.iconst 0, 1) := by decide +kernel
theorem dX9_seen_1 : decode cX9_seen 1 = .ok (.istore_n 2, 1) := by decide +kernel
theorem dX9_seen_2 : decode cX9_seen 2 = .ok (.aload_n 0, 1) := by decide +kernel
theorem dX9_seen_3 : decode cX9_seen 3 = .ok (.invokevirtual 46, 3) := by decide +kernel
theorem dX9_seen_6 : decode cX9_seen 6 = .ok (.istore_n 3, 1) := by decide +kernel
theorem dX9_seen_7 : decode cX9_seen 7 = .ok (.iconst 0, 1) := by decide +kernel
theorem dX9_seen_8 : decode cX9_seen 8 = .ok (.istore 4, 2) := by decide +kernel
theorem dX9_seen_10 : decode cX9_seen 10 = .ok (.iload 4, 2) := by decide +kernel
theorem dX9_seen_12 : decode cX9_seen 12 = .ok (.iload_n 3, 1) := by decide +kernel
theorem dX9_seen_13 : decode cX9_seen 13 = .ok (.if_icmp .ge 28, 3) := by decide +kernel
theorem dX9_seen_16 : decode cX9_seen 16 = .ok (.iload_n 2, 1) := by decide +kernel
theorem dX9_seen_17 : decode cX9_seen 17 = .ok (.aload_n 0, 1) := by decide +kernel
theorem dX9_seen_18 : decode cX9_seen 18 = .ok (.iload_n 1, 1) := by decide +kernel
theorem dX9_seen_19 : decode cX9_seen 19 = .ok (.iload 4, 2) := by decide +kernel
theorem dX9_seen_21 : decode cX9_seen 21 = .ok (.i2l, 1) := by decide +kernel
theorem dX9_seen_22 : decode cX9_seen 22 = .ok (.invokevirtual 50, 3) := by decide +kernel
theorem dX9_seen_25 : decode cX9_seen 25 = .ok (.ifCond .ne 7, 3) := by decide +kernel
theorem dX9_seen_28 : decode cX9_seen 28 = .ok (.iconst 0, 1) := by decide +kernel
theorem dX9_seen_29 : decode cX9_seen 29 = .ok (.goto 4, 3) := by decide +kernel
theorem dX9_seen_32 : decode cX9_seen 32 = .ok (.iconst 1, 1) := by decide +kernel
theorem dX9_seen_33 : decode cX9_seen 33 = .ok (.iadd, 1) := by decide +kernel
theorem dX9_seen_34 : decode cX9_seen 34 = .ok (.istore_n 2, 1) := by decide +kernel
theorem dX9_seen_35 : decode cX9_seen 35 = .ok (.iinc 4 1, 3) := by decide +kernel
theorem dX9_seen_38 : decode cX9_seen 38 = .ok (.goto (-28), 3) := by decide +kernel
theorem dX9_seen_41 : decode cX9_seen 41 = .ok (.iload_n 2, 1) := by decide +kernel
theorem dX9_seen_42 : decode cX9_seen 42 = .ok (.ireturn, 1) := by decide +kernel
set_option maxRecDepth 20000 in
theorem ggX9_gap_X9_cycle : GoodIn wsX9_gap wsX9_cycle := goodIn_r _ [6, 7, 8, 22, 23, 24, 25, 26, 27, 28, 29] (by decide +kernel) (by decide +kernel)
set_option maxRecDepth 20000 in
theorem gX9_gap_X9_cycle : GoodIn wsX9_gap (wsV RX9 46 RX9 yX9_cycle wsX9_cycle) := goodIn_app (goodIn_of _ (by decide +kernel)) ggX9_gap_X9_cycle
set_option maxRecDepth 20000 in
theorem ggX9_gap_X9_seen : GoodIn wsX9_gap wsX9_seen := goodIn_r _ [12, 2, 3, 4, 5, 6, 7, 8, 13, 14, 15, 16, 17, 18, 19, 20, 21, 22, 23, 24, 25, 26, 27, 28, 29] (by decide +kernel) (by decide +kernel)
set_option maxRecDepth 20000 in
theorem gX9_gap_X9_seen : GoodIn wsX9_gap (wsV RX9 53 RX9 yX9_seen wsX9_seen) := goodIn_app (goodIn_of _ (by decide +kernel)) ggX9_gap_X9_seen
set_option maxRecDepth 20000 in
theorem ggX9_gap_X9_in : GoodIn wsX9_gap wsX9_in := goodIn_r _ [16, 7, 17, 18, 19, 5, 20, 8, 21, 22, 23, 24, 25, 26, 27, 28, 29] (by decide +kernel) (by decide +kernel)
set_option maxRecDepth 20000 in
theorem gX9_gap_X9_in : GoodIn wsX9_gap (wsV RX9 50 RX9 yX9_in wsX9_in) := goodIn_app (goodIn_of _ (by decide +kernel)) ggX9_gap_X9_in
theorem dX9_gap_0 : decode cX9_gap 0 = .ok (.aload_n 0, 1) := by decide +kernel
theorem dX9_gap_1 : decode cX9_gap 1 = .ok (.invokevirtual 46, 3) := by decide +kernel
theorem dX9_gap_4 : decode cX9_gap 4 = .ok (.istore_n 2, 1) := by decide +kernel
theorem dX9_gap_5 : decode cX9_gap 5 = .ok (.iconst 2, 1) := by decide +kernel
theorem dX9_gap_6 : decode cX9_gap 6 = .ok (.newarray .int, 2) := by decide +kernel
theorem dX9_gap_8 : decode cX9_gap 8 = .ok (.dup, 1) := by decide +kernel
theorem dX9_gap_9 : decode cX9_gap 9 = .ok (.iconst 0, 1) := by decide +kernel
theorem dX9_gap_10 : decode cX9_gap 10 = .ok (.iconst (-1), 1) := by decide +kernel
theorem dX9_gap_11 : decode cX9_gap 11 = .ok (.iastore, 1) := by decide +kernel
theorem dX9_gap_12 : decode cX9_gap 12 = .ok (.dup, 1) := by decide +kernel
theorem dX9_gap_13 : decode cX9_gap 13 = .ok (.iconst 1, 1) := by decide +kernel
theorem dX9_gap_14 : decode cX9_gap 14 = .ok (.iconst (-1), 1) := by decide +kernel
theorem dX9_gap_15 : decode cX9_gap 15 = .ok (.iastore, 1) := by decide +kernel
theorem dX9_gap_16 : decode cX9_gap 16 = .ok (.astore_n 3, 1) := by decide +kernel
theorem dX9_gap_17 : decode cX9_gap 17 = .ok (.aload_n 0, 1) := by decide +kernel
theorem dX9_gap_18 : decode cX9_gap 18 = .ok (.iload_n 1, 1) := by decide +kernel
theorem dX9_gap_19 : decode cX9_gap 19 = .ok (.invokevirtual 53, 3) := by decide +kernel
theorem dX9_gap_22 : decode cX9_gap 22 = .ok (.ifCond .ne 5, 3) := by decide +kernel
theorem dX9_gap_25 : decode cX9_gap 25 = .ok (.aload_n 3, 1) := by decide +kernel
theorem dX9_gap_26 : decode cX9_gap 26 = .ok (.areturn, 1) := by decide +kernel
theorem dX9_gap_27 : decode cX9_gap 27 = .ok (.aload_n 3, 1) := by decide +kernel
theorem dX9_gap_28 : decode cX9_gap 28 = .ok (.iconst 0, 1) := by decide +kernel
theorem dX9_gap_29 : decode cX9_gap 29 = .ok (.iconst 0, 1) := by decide +kernel
theorem dX9_gap_30 : decode cX9_gap 30 = .ok (.iastore, 1) := by decide +kernel
theorem dX9_gap_31 : decode cX9_gap 31 = .ok (.iconst 0, 1) := by decide +kernel
theorem dX9_gap_32 : decode cX9_gap 32 = .ok (.istore 4, 2) := by decide +kernel
theorem dX9_gap_34 : decode cX9_gap 34 = .ok (.iload 4, 2) := by decide +kernel
theorem dX9_gap_36 : decode cX9_gap 36 = .ok (.iload_n 2, 1) := by decide +kernel
theorem dX9_gap_37 : decode cX9_gap 37 = .ok (.if_icmp .ge 83, 3) := by decide +kernel
theorem dX9_gap_40 : decode cX9_gap 40 = .ok (.aload_n 0, 1) := by decide +kernel
theorem dX9_gap_41 : decode cX9_gap 41 = .ok (.iload_n 1, 1) := by decide +kernel
theorem dX9_gap_42 : decode cX9_gap 42 = .ok (.iload 4, 2) := by decide +kernel
theorem dX9_gap_44 : decode cX9_gap 44 = .ok (.i2l, 1) := by decide +kernel
theorem dX9_gap_45 : decode cX9_gap 45 = .ok (.invokevirtual 50, 3) := by decide +kernel
theorem dX9_gap_48 : decode cX9_gap 48 = .ok (.ifCond .ne 66, 3) := by decide +kernel
theorem dX9_gap_51 : decode cX9_gap 51 = .ok (.aload_n 0, 1) := by decide +kernel
theorem dX9_gap_52 : decode cX9_gap 52 = .ok (.iload_n 1, 1) := by decide +kernel
theorem dX9_gap_53 : decode cX9_gap 53 = .ok (.iload 4, 2) := by decide +kernel
theorem dX9_gap_55 : decode cX9_gap 55 = .ok (.iload_n 2, 1) := by decide +kernel
theorem dX9_gap_56 : decode cX9_gap 56 = .ok (.iadd, 1) := by decide +kernel
theorem dX9_gap_57 : decode cX9_gap 57 = .ok (.iconst 1, 1) := by decide +kernel
theorem dX9_gap_58 : decode cX9_gap 58 = .ok (.isub, 1) := by decide +kernel
theorem dX9_gap_59 : decode cX9_gap 59 = .ok (.i2l, 1) := by decide +kernel
theorem dX9_gap_60 : decode cX9_gap 60 = .ok (.invokevirtual 50, 3) := by decide +kernel
theorem dX9_gap_63 : decode cX9_gap 63 = .ok (.ifCond .ne 6, 3) := by decide +kernel
theorem dX9_gap_66 : decode cX9_gap 66 = .ok (.goto 48, 3) := by decide +kernel
theorem dX9_gap_69 : decode cX9_gap 69 = .ok (.iconst 0, 1) := by decide +kernel
theorem dX9_gap_70 : decode cX9_gap 70 = .ok (.istore 5, 2) := by decide +kernel
theorem dX9_gap_72 : decode cX9_gap 72 = .ok (.aload_n 0, 1) := by decide +kernel
theorem dX9_gap_73 : decode cX9_gap 73 = .ok (.iload_n 1, 1) := by decide +kernel
theorem dX9_gap_74 : decode cX9_gap 74 = .ok (.iload 4, 2) := by decide +kernel
theorem dX9_gap_76 : decode cX9_gap 76 = .ok (.iload 5, 2) := by decide +kernel
theorem dX9_gap_78 : decode cX9_gap 78 = .ok (.iadd, 1) := by decide +kernel
theorem dX9_gap_79 : decode cX9_gap 79 = .ok (.i2l, 1) := by decide +kernel
theorem dX9_gap_80 : decode cX9_gap 80 = .ok (.invokevirtual 50, 3) := by decide +kernel
theorem dX9_gap_83 : decode cX9_gap 83 = .ok (.ifCond .ne 9, 3) := by decide +kernel
theorem dX9_gap_86 : decode cX9_gap 86 = .ok (.iinc 5 1, 3) := by decide +kernel
theorem dX9_gap_89 : decode cX9_gap 89 = .ok (.goto (-17), 3) := by decide +kernel
theorem dX9_gap_92 : decode cX9_gap 92 = .ok (.iload 5, 2) := by decide +kernel
theorem dX9_gap_94 : decode cX9_gap 94 = .ok (.aload_n 3, 1) := by decide +kernel
theorem dX9_gap_95 : decode cX9_gap 95 = .ok (.iconst 0, 1) := by decide +kernel
theorem dX9_gap_96 : decode cX9_gap 96 = .ok (.iaload, 1) := by decide +kernel
theorem dX9_gap_97 : decode cX9_gap 97 = .ok (.if_icmp .le 17, 3) := by decide +kernel
theorem dX9_gap_100 : decode cX9_gap 100 = .ok (.iconst 2, 1) := by decide +kernel
theorem dX9_gap_101 : decode cX9_gap 101 = .ok (.newarray .int, 2) := by decide +kernel
theorem dX9_gap_103 : decode cX9_gap 103 = .ok (.dup, 1) := by decide +kernel
theorem dX9_gap_104 : decode cX9_gap 104 = .ok (.iconst 0, 1) := by decide +kernel
theorem dX9_gap_105 : decode cX9_gap 105 = .ok (.iload 5, 2) := by decide +kernel
theorem dX9_gap_107 : decode cX9_gap 107 = .ok (.iastore, 1) := by decide +kernel
theorem dX9_gap_108 : decode cX9_gap 108 = .ok (.dup, 1) := by decide +kernel
theorem dX9_gap_109 : decode cX9_gap 109 = .ok (.iconst 1, 1) := by decide +kernel
theorem dX9_gap_110 : decode cX9_gap 110 = .ok (.iload 4, 2) := by decide +kernel
theorem dX9_gap_112 : decode cX9_gap 112 = .ok (.iastore, 1) := by decide +kernel
theorem dX9_gap_113 : decode cX9_gap 113 = .ok (.astore_n 3, 1) := by decide +kernel
theorem dX9_gap_114 : decode cX9_gap 114 = .ok (.iinc 4 1, 3) := by decide +kernel
theorem dX9_gap_117 : decode cX9_gap 117 = .ok (.goto (-83), 3) := by decide +kernel
theorem dX9_gap_120 : decode cX9_gap 120 = .ok (.aload_n 3, 1) := by decide +kernel
theorem dX9_gap_121 : decode cX9_gap 121 = .ok (.areturn, 1) := by decide +kernel
set_option maxRecDepth 20000 in
theorem ggX9_late_X9_gap : GoodIn wsX9_late wsX9_gap := goodIn_r _ [6, 7, 8, 9, 10, 5, 11, 12, 13, 14, 15, 16, 17, 18, 19, 20, 21, 22, 23, 24, 25, 26, 27, 28, 29, 30, 31, 32, 33, 34] (by decide +kernel) (by decide +kernel)
set_option maxRecDepth 20000 in
theorem gX9_late_X9_gap : GoodIn wsX9_late (wsV RX9 57 RX9 yX9_gap wsX9_gap) := goodIn_app (goodIn_of _ (by decide +kernel)) ggX9_late_X9_gap
theorem dX9_late_0 : decode cX9_late 0 = .ok (.aload_n 0, 1) := by decide +kernel
theorem dX9_late_1 : decode cX9_late 1 = .ok (.iload_n 1, 1) := by decide +kernel
theorem dX9_late_2 : decode cX9_late 2 = .ok (.invokevirtual 57, 3) := by decide +kernel
theorem dX9_late_5 : decode cX9_late 5 = .ok (.iconst 0, 1) := by decide +kernel
theorem dX9_late_6 : decode cX9_late 6 = .ok (.iaload, 1) := by decide +kernel
theorem dX9_late_7 : decode cX9_late 7 = .ok (.ifCond .lt 21, 3) := by decide +kernel
theorem dX9_late_10 : decode cX9_late 10 = .ok (.aload_n 0, 1) := by decide +kernel
theorem dX9_late_11 : decode cX9_late 11 = .ok (.iload_n 1, 1) := by decide +kernel
theorem dX9_late_12 : decode cX9_late 12 = .ok (.invokevirtual 57, 3) := by decide +kernel
theorem dX9_late_15 : decode cX9_late 15 = .ok (.iconst 0, 1) := by decide +kernel
theorem dX9_late_16 : decode cX9_late 16 = .ok (.iaload, 1) := by decide +kernel
theorem dX9_late_17 : decode cX9_late 17 = .ok (.aload_n 0, 1) := by decide +kernel
theorem dX9_late_18 : decode cX9_late 18 = .ok (.getfield 19, 3) := by decide +kernel
theorem dX9_late_21 : decode cX9_late 21 = .ok (.iload_n 1, 1) := by decide +kernel
theorem dX9_late_22 : decode cX9_late 22 = .ok (.aaload, 1) := by decide +kernel
theorem dX9_late_23 : decode cX9_late 23 = .ok (.iconst 0, 1) := by decide +kernel
theorem dX9_late_24 : decode cX9_late 24 = .ok (.iaload, 1) := by decide +kernel
theorem dX9_late_25 : decode cX9_late 25 = .ok (.if_icmp .le 7, 3) := by decide +kernel
theorem dX9_late_28 : decode cX9_late 28 = .ok (.iconst 1, 1) := by decide +kernel
theorem dX9_late_29 : decode cX9_late 29 = .ok (.goto 4, 3) := by decide +kernel
theorem dX9_late_32 : decode cX9_late 32 = .ok (.iconst 0, 1) := by decide +kernel
theorem dX9_late_33 : decode cX9_late 33 = .ok (.ireturn, 1) := by decide +kernel
set_option maxRecDepth 20000 in
theorem ggX9_worst_X9_gap : GoodIn wsX9_worst wsX9_gap := goodIn_r _ [10, 11, 12, 13, 14, 9, 15, 16, 17, 18, 19, 20, 21, 22, 23, 24, 25, 26, 27, 28, 29, 30, 31, 32, 33, 34, 35, 36, 37, 38] (by decide +kernel) (by decide +kernel)
set_option maxRecDepth 20000 in
theorem gX9_worst_X9_gap : GoodIn wsX9_worst (wsV RX9 57 RX9 yX9_gap wsX9_gap) := goodIn_app (goodIn_of _ (by decide +kernel)) ggX9_worst_X9_gap
theorem dX9_worst_0 : decode cX9_worst 0 = .ok (.iconst 0, 1) := by decide +kernel
theorem dX9_worst_1 : decode cX9_worst 1 = .ok (.istore_n 1, 1) := by decide +kernel
theorem dX9_worst_2 : decode cX9_worst 2 = .ok (.iconst 0, 1) := by decide +kernel
theorem dX9_worst_3 : decode cX9_worst 3 = .ok (.istore_n 2, 1) := by decide +kernel
theorem dX9_worst_4 : decode cX9_worst 4 = .ok (.iload_n 2, 1) := by decide +kernel
theorem dX9_worst_5 : decode cX9_worst 5 = .ok (.aload_n 0, 1) := by decide +kernel
theorem dX9_worst_6 : decode cX9_worst 6 = .ok (.getfield 7, 3) := by decide +kernel
theorem dX9_worst_9 : decode cX9_worst 9 = .ok (.if_icmp .ge 21, 3) := by decide +kernel
theorem dX9_worst_12 : decode cX9_worst 12 = .ok (.iload_n 1, 1) := by decide +kernel
theorem dX9_worst_13 : decode cX9_worst 13 = .ok (.aload_n 0, 1) := by decide +kernel
theorem dX9_worst_14 : decode cX9_worst 14 = .ok (.iload_n 2, 1) := by decide +kernel
theorem dX9_worst_15 : decode cX9_worst 15 = .ok (.invokevirtual 57, 3) := by decide +kernel
theorem dX9_worst_18 : decode cX9_worst 18 = .ok (.iconst 0, 1) := by decide +kernel
theorem dX9_worst_19 : decode cX9_worst 19 = .ok (.iaload, 1) := by decide +kernel
theorem dX9_worst_20 : decode cX9_worst 20 = .ok (.invokestatic 61, 3) := by decide +kernel
theorem dX9_worst_23 : decode cX9_worst 23 = .ok (.istore_n 1, 1) := by decide +kernel
theorem dX9_worst_24 : decode cX9_worst 24 = .ok (.iinc 2 1, 3) := by decide +kernel
theorem dX9_worst_27 : decode cX9_worst 27 = .ok (.goto (-23), 3) := by decide +kernel
theorem dX9_worst_30 : decode cX9_worst 30 = .ok (.iload_n 1, 1) := by decide +kernel
theorem dX9_worst_31 : decode cX9_worst 31 = .ok (.ireturn, 1) := by decide +kernel
set_option maxRecDepth 20000 in
theorem ggX9_lates_X9_late : GoodIn wsX9_lates wsX9_late := goodIn_r _ [6, 7, 8, 9, 10, 5, 11, 12, 13, 14, 15, 16, 17, 18, 19, 20, 21, 22, 23, 24, 25, 26, 27, 28, 29, 30, 31, 32, 33, 34, 35, 36, 37, 38, 39] (by decide +kernel) (by decide +kernel)
set_option maxRecDepth 20000 in
theorem gX9_lates_X9_late : GoodIn wsX9_lates (wsV RX9 67 RX9 yX9_late wsX9_late) := goodIn_app (goodIn_of _ (by decide +kernel)) ggX9_lates_X9_late
theorem dX9_lates_0 : decode cX9_lates 0 = .ok (.iconst 0, 1) := by decide +kernel
theorem dX9_lates_1 : decode cX9_lates 1 = .ok (.istore_n 1, 1) := by decide +kernel
theorem dX9_lates_2 : decode cX9_lates 2 = .ok (.iconst 0, 1) := by decide +kernel
theorem dX9_lates_3 : decode cX9_lates 3 = .ok (.istore_n 2, 1) := by decide +kernel
theorem dX9_lates_4 : decode cX9_lates 4 = .ok (.iload_n 2, 1) := by decide +kernel
theorem dX9_lates_5 : decode cX9_lates 5 = .ok (.aload_n 0, 1) := by decide +kernel
theorem dX9_lates_6 : decode cX9_lates 6 = .ok (.getfield 7, 3) := by decide +kernel
theorem dX9_lates_9 : decode cX9_lates 9 = .ok (.if_icmp .ge 25, 3) := by decide +kernel
theorem dX9_lates_12 : decode cX9_lates 12 = .ok (.iload_n 1, 1) := by decide +kernel
theorem dX9_lates_13 : decode cX9_lates 13 = .ok (.aload_n 0, 1) := by decide +kernel
theorem dX9_lates_14 : decode cX9_lates 14 = .ok (.iload_n 2, 1) := by decide +kernel
theorem dX9_lates_15 : decode cX9_lates 15 = .ok (.invokevirtual 67, 3) := by decide +kernel
theorem dX9_lates_18 : decode cX9_lates 18 = .ok (.ifCond .eq 7, 3) := by decide +kernel
theorem dX9_lates_21 : decode cX9_lates 21 = .ok (.iconst 1, 1) := by decide +kernel
theorem dX9_lates_22 : decode cX9_lates 22 = .ok (.goto 4, 3) := by decide +kernel
theorem dX9_lates_25 : decode cX9_lates 25 = .ok (.iconst 0, 1) := by decide +kernel
theorem dX9_lates_26 : decode cX9_lates 26 = .ok (.iadd, 1) := by decide +kernel
theorem dX9_lates_27 : decode cX9_lates 27 = .ok (.istore_n 1, 1) := by decide +kernel
theorem dX9_lates_28 : decode cX9_lates 28 = .ok (.iinc 2 1, 3) := by decide +kernel
theorem dX9_lates_31 : decode cX9_lates 31 = .ok (.goto (-27), 3) := by decide +kernel
theorem dX9_lates_34 : decode cX9_lates 34 = .ok (.iload_n 1, 1) := by decide +kernel
theorem dX9_lates_35 : decode cX9_lates 35 = .ok (.ireturn, 1) := by decide +kernel
set_option maxRecDepth 20000 in
theorem ggX9_meets_X9_cycle : GoodIn wsX9_meets wsX9_cycle := goodIn_r _ [5, 6, 7, 13, 14, 15, 16, 17, 18, 19, 20] (by decide +kernel) (by decide +kernel)
set_option maxRecDepth 20000 in
theorem gX9_meets_X9_cycle : GoodIn wsX9_meets (wsV RX9 46 RX9 yX9_cycle wsX9_cycle) := goodIn_app (goodIn_of _ (by decide +kernel)) ggX9_meets_X9_cycle
set_option maxRecDepth 20000 in
theorem ggX9_meets_X9_at : GoodIn wsX9_meets wsX9_at := goodIn_r _ [11, 7, 12, 13, 14, 15, 16, 17, 18, 19, 20] (by decide +kernel) (by decide +kernel)
set_option maxRecDepth 20000 in
theorem gX9_meets_X9_at : GoodIn wsX9_meets (wsV RX9 42 RX9 yX9_at wsX9_at) := goodIn_app (goodIn_of _ (by decide +kernel)) ggX9_meets_X9_at
theorem dX9_meets_0 : decode cX9_meets 0 = .ok (.iconst 0, 1) := by decide +kernel
theorem dX9_meets_1 : decode cX9_meets 1 = .ok (.istore_n 3, 1) := by decide +kernel
theorem dX9_meets_2 : decode cX9_meets 2 = .ok (.aload_n 0, 1) := by decide +kernel
theorem dX9_meets_3 : decode cX9_meets 3 = .ok (.invokevirtual 46, 3) := by decide +kernel
theorem dX9_meets_6 : decode cX9_meets 6 = .ok (.istore 4, 2) := by decide +kernel
theorem dX9_meets_8 : decode cX9_meets 8 = .ok (.iconst 0, 1) := by decide +kernel
theorem dX9_meets_9 : decode cX9_meets 9 = .ok (.istore 5, 2) := by decide +kernel
theorem dX9_meets_11 : decode cX9_meets 11 = .ok (.iload 5, 2) := by decide +kernel
theorem dX9_meets_13 : decode cX9_meets 13 = .ok (.iload 4, 2) := by decide +kernel
theorem dX9_meets_15 : decode cX9_meets 15 = .ok (.if_icmp .ge 36, 3) := by decide +kernel
theorem dX9_meets_18 : decode cX9_meets 18 = .ok (.iload_n 3, 1) := by decide +kernel
theorem dX9_meets_19 : decode cX9_meets 19 = .ok (.aload_n 0, 1) := by decide +kernel
theorem dX9_meets_20 : decode cX9_meets 20 = .ok (.iload_n 1, 1) := by decide +kernel
theorem dX9_meets_21 : decode cX9_meets 21 = .ok (.iload 5, 2) := by decide +kernel
theorem dX9_meets_23 : decode cX9_meets 23 = .ok (.i2l, 1) := by decide +kernel
theorem dX9_meets_24 : decode cX9_meets 24 = .ok (.invokevirtual 42, 3) := by decide +kernel
theorem dX9_meets_27 : decode cX9_meets 27 = .ok (.aload_n 0, 1) := by decide +kernel
theorem dX9_meets_28 : decode cX9_meets 28 = .ok (.iload_n 2, 1) := by decide +kernel
theorem dX9_meets_29 : decode cX9_meets 29 = .ok (.iload 5, 2) := by decide +kernel
theorem dX9_meets_31 : decode cX9_meets 31 = .ok (.i2l, 1) := by decide +kernel
theorem dX9_meets_32 : decode cX9_meets 32 = .ok (.invokevirtual 42, 3) := by decide +kernel
theorem dX9_meets_35 : decode cX9_meets 35 = .ok (.if_icmp .ne 7, 3) := by decide +kernel
theorem dX9_meets_38 : decode cX9_meets 38 = .ok (.iconst 1, 1) := by decide +kernel
theorem dX9_meets_39 : decode cX9_meets 39 = .ok (.goto 4, 3) := by decide +kernel
theorem dX9_meets_42 : decode cX9_meets 42 = .ok (.iconst 0, 1) := by decide +kernel
theorem dX9_meets_43 : decode cX9_meets 43 = .ok (.iadd, 1) := by decide +kernel
theorem dX9_meets_44 : decode cX9_meets 44 = .ok (.istore_n 3, 1) := by decide +kernel
theorem dX9_meets_45 : decode cX9_meets 45 = .ok (.iinc 5 1, 3) := by decide +kernel
theorem dX9_meets_48 : decode cX9_meets 48 = .ok (.goto (-37), 3) := by decide +kernel
theorem dX9_meets_51 : decode cX9_meets 51 = .ok (.iload_n 3, 1) := by decide +kernel
theorem dX9_meets_52 : decode cX9_meets 52 = .ok (.ireturn, 1) := by decide +kernel
set_option maxRecDepth 20000 in
theorem ggX9_passes_X9_cycle : GoodIn wsX9_passes wsX9_cycle := goodIn_r _ [5, 6, 7, 13, 14, 15, 16, 17, 18, 19, 20] (by decide +kernel) (by decide +kernel)
set_option maxRecDepth 20000 in
theorem gX9_passes_X9_cycle : GoodIn wsX9_passes (wsV RX9 46 RX9 yX9_cycle wsX9_cycle) := goodIn_app (goodIn_of _ (by decide +kernel)) ggX9_passes_X9_cycle
set_option maxRecDepth 20000 in
theorem ggX9_passes_X9_at : GoodIn wsX9_passes wsX9_at := goodIn_r _ [11, 7, 12, 13, 14, 15, 16, 17, 18, 19, 20] (by decide +kernel) (by decide +kernel)
set_option maxRecDepth 20000 in
theorem gX9_passes_X9_at : GoodIn wsX9_passes (wsV RX9 42 RX9 yX9_at wsX9_at) := goodIn_app (goodIn_of _ (by decide +kernel)) ggX9_passes_X9_at
theorem dX9_passes_0 : decode cX9_passes 0 = .ok (.iconst 0, 1) := by decide +kernel
theorem dX9_passes_1 : decode cX9_passes 1 = .ok (.istore_n 3, 1) := by decide +kernel
theorem dX9_passes_2 : decode cX9_passes 2 = .ok (.aload_n 0, 1) := by decide +kernel
theorem dX9_passes_3 : decode cX9_passes 3 = .ok (.invokevirtual 46, 3) := by decide +kernel
theorem dX9_passes_6 : decode cX9_passes 6 = .ok (.istore 4, 2) := by decide +kernel
theorem dX9_passes_8 : decode cX9_passes 8 = .ok (.iconst 0, 1) := by decide +kernel
theorem dX9_passes_9 : decode cX9_passes 9 = .ok (.istore 5, 2) := by decide +kernel
theorem dX9_passes_11 : decode cX9_passes 11 = .ok (.iload 5, 2) := by decide +kernel
theorem dX9_passes_13 : decode cX9_passes 13 = .ok (.iload 4, 2) := by decide +kernel
theorem dX9_passes_15 : decode cX9_passes 15 = .ok (.if_icmp .ge 78, 3) := by decide +kernel
theorem dX9_passes_18 : decode cX9_passes 18 = .ok (.iload_n 3, 1) := by decide +kernel
theorem dX9_passes_19 : decode cX9_passes 19 = .ok (.aload_n 0, 1) := by decide +kernel
theorem dX9_passes_20 : decode cX9_passes 20 = .ok (.iload_n 1, 1) := by decide +kernel
theorem dX9_passes_21 : decode cX9_passes 21 = .ok (.iload 5, 2) := by decide +kernel
theorem dX9_passes_23 : decode cX9_passes 23 = .ok (.i2l, 1) := by decide +kernel
theorem dX9_passes_24 : decode cX9_passes 24 = .ok (.invokevirtual 42, 3) := by decide +kernel
theorem dX9_passes_27 : decode cX9_passes 27 = .ok (.aload_n 0, 1) := by decide +kernel
theorem dX9_passes_28 : decode cX9_passes 28 = .ok (.iload_n 2, 1) := by decide +kernel
theorem dX9_passes_29 : decode cX9_passes 29 = .ok (.iload 5, 2) := by decide +kernel
theorem dX9_passes_31 : decode cX9_passes 31 = .ok (.i2l, 1) := by decide +kernel
theorem dX9_passes_32 : decode cX9_passes 32 = .ok (.invokevirtual 42, 3) := by decide +kernel
theorem dX9_passes_35 : decode cX9_passes 35 = .ok (.if_icmp .eq 49, 3) := by decide +kernel
theorem dX9_passes_38 : decode cX9_passes 38 = .ok (.aload_n 0, 1) := by decide +kernel
theorem dX9_passes_39 : decode cX9_passes 39 = .ok (.iload_n 1, 1) := by decide +kernel
theorem dX9_passes_40 : decode cX9_passes 40 = .ok (.iload 5, 2) := by decide +kernel
theorem dX9_passes_42 : decode cX9_passes 42 = .ok (.i2l, 1) := by decide +kernel
theorem dX9_passes_43 : decode cX9_passes 43 = .ok (.invokevirtual 42, 3) := by decide +kernel
theorem dX9_passes_46 : decode cX9_passes 46 = .ok (.aload_n 0, 1) := by decide +kernel
theorem dX9_passes_47 : decode cX9_passes 47 = .ok (.iload_n 2, 1) := by decide +kernel
theorem dX9_passes_48 : decode cX9_passes 48 = .ok (.iload 5, 2) := by decide +kernel
theorem dX9_passes_50 : decode cX9_passes 50 = .ok (.iconst 1, 1) := by decide +kernel
theorem dX9_passes_51 : decode cX9_passes 51 = .ok (.iadd, 1) := by decide +kernel
theorem dX9_passes_52 : decode cX9_passes 52 = .ok (.i2l, 1) := by decide +kernel
theorem dX9_passes_53 : decode cX9_passes 53 = .ok (.invokevirtual 42, 3) := by decide +kernel
theorem dX9_passes_56 : decode cX9_passes 56 = .ok (.if_icmp .ne 28, 3) := by decide +kernel
theorem dX9_passes_59 : decode cX9_passes 59 = .ok (.aload_n 0, 1) := by decide +kernel
theorem dX9_passes_60 : decode cX9_passes 60 = .ok (.iload_n 2, 1) := by decide +kernel
theorem dX9_passes_61 : decode cX9_passes 61 = .ok (.iload 5, 2) := by decide +kernel
theorem dX9_passes_63 : decode cX9_passes 63 = .ok (.i2l, 1) := by decide +kernel
theorem dX9_passes_64 : decode cX9_passes 64 = .ok (.invokevirtual 42, 3) := by decide +kernel
theorem dX9_passes_67 : decode cX9_passes 67 = .ok (.aload_n 0, 1) := by decide +kernel
theorem dX9_passes_68 : decode cX9_passes 68 = .ok (.iload_n 1, 1) := by decide +kernel
theorem dX9_passes_69 : decode cX9_passes 69 = .ok (.iload 5, 2) := by decide +kernel
theorem dX9_passes_71 : decode cX9_passes 71 = .ok (.iconst 1, 1) := by decide +kernel
theorem dX9_passes_72 : decode cX9_passes 72 = .ok (.iadd, 1) := by decide +kernel
theorem dX9_passes_73 : decode cX9_passes 73 = .ok (.i2l, 1) := by decide +kernel
theorem dX9_passes_74 : decode cX9_passes 74 = .ok (.invokevirtual 42, 3) := by decide +kernel
theorem dX9_passes_77 : decode cX9_passes 77 = .ok (.if_icmp .ne 7, 3) := by decide +kernel
theorem dX9_passes_80 : decode cX9_passes 80 = .ok (.iconst 1, 1) := by decide +kernel
theorem dX9_passes_81 : decode cX9_passes 81 = .ok (.goto 4, 3) := by decide +kernel
theorem dX9_passes_84 : decode cX9_passes 84 = .ok (.iconst 0, 1) := by decide +kernel
theorem dX9_passes_85 : decode cX9_passes 85 = .ok (.iadd, 1) := by decide +kernel
theorem dX9_passes_86 : decode cX9_passes 86 = .ok (.istore_n 3, 1) := by decide +kernel
theorem dX9_passes_87 : decode cX9_passes 87 = .ok (.iinc 5 1, 3) := by decide +kernel
theorem dX9_passes_90 : decode cX9_passes 90 = .ok (.goto (-79), 3) := by decide +kernel
theorem dX9_passes_93 : decode cX9_passes 93 = .ok (.iload_n 3, 1) := by decide +kernel
theorem dX9_passes_94 : decode cX9_passes 94 = .ok (.ireturn, 1) := by decide +kernel
set_option maxRecDepth 20000 in
theorem ggX9_crossings_X9_meets : GoodIn wsX9_crossings wsX9_meets := goodIn_r _ [6, 7, 8, 9, 5, 10, 1, 11, 12, 13, 14, 15, 16, 21, 22, 23, 24, 25, 26, 27, 28] (by decide +kernel) (by decide +kernel)
set_option maxRecDepth 20000 in
theorem gX9_crossings_X9_meets : GoodIn wsX9_crossings (wsV RX9 71 RX9 yX9_meets wsX9_meets) := goodIn_app (goodIn_of _ (by decide +kernel)) ggX9_crossings_X9_meets
set_option maxRecDepth 20000 in
theorem ggX9_crossings_X9_passes : GoodIn wsX9_crossings wsX9_passes := goodIn_r _ [20, 7, 8, 9, 5, 10, 1, 11, 12, 13, 14, 15, 16, 21, 22, 23, 24, 25, 26, 27, 28] (by decide +kernel) (by decide +kernel)
set_option maxRecDepth 20000 in
theorem gX9_crossings_X9_passes : GoodIn wsX9_crossings (wsV RX9 74 RX9 yX9_passes wsX9_passes) := goodIn_app (goodIn_of _ (by decide +kernel)) ggX9_crossings_X9_passes
theorem dX9_crossings_0 : decode cX9_crossings 0 = .ok (.iconst 0, 1) := by decide +kernel
theorem dX9_crossings_1 : decode cX9_crossings 1 = .ok (.istore_n 1, 1) := by decide +kernel
theorem dX9_crossings_2 : decode cX9_crossings 2 = .ok (.iconst 0, 1) := by decide +kernel
theorem dX9_crossings_3 : decode cX9_crossings 3 = .ok (.istore_n 2, 1) := by decide +kernel
theorem dX9_crossings_4 : decode cX9_crossings 4 = .ok (.iload_n 2, 1) := by decide +kernel
theorem dX9_crossings_5 : decode cX9_crossings 5 = .ok (.aload_n 0, 1) := by decide +kernel
theorem dX9_crossings_6 : decode cX9_crossings 6 = .ok (.getfield 32, 3) := by decide +kernel
theorem dX9_crossings_9 : decode cX9_crossings 9 = .ok (.if_icmp .ge 43, 3) := by decide +kernel
theorem dX9_crossings_12 : decode cX9_crossings 12 = .ok (.iload_n 2, 1) := by decide +kernel
theorem dX9_crossings_13 : decode cX9_crossings 13 = .ok (.iconst 1, 1) := by decide +kernel
theorem dX9_crossings_14 : decode cX9_crossings 14 = .ok (.iadd, 1) := by decide +kernel
theorem dX9_crossings_15 : decode cX9_crossings 15 = .ok (.istore_n 3, 1) := by decide +kernel
theorem dX9_crossings_16 : decode cX9_crossings 16 = .ok (.iload_n 3, 1) := by decide +kernel
theorem dX9_crossings_17 : decode cX9_crossings 17 = .ok (.aload_n 0, 1) := by decide +kernel
theorem dX9_crossings_18 : decode cX9_crossings 18 = .ok (.getfield 32, 3) := by decide +kernel
theorem dX9_crossings_21 : decode cX9_crossings 21 = .ok (.if_icmp .ge 25, 3) := by decide +kernel
theorem dX9_crossings_24 : decode cX9_crossings 24 = .ok (.iload_n 1, 1) := by decide +kernel
theorem dX9_crossings_25 : decode cX9_crossings 25 = .ok (.aload_n 0, 1) := by decide +kernel
theorem dX9_crossings_26 : decode cX9_crossings 26 = .ok (.iload_n 2, 1) := by decide +kernel
theorem dX9_crossings_27 : decode cX9_crossings 27 = .ok (.iload_n 3, 1) := by decide +kernel
theorem dX9_crossings_28 : decode cX9_crossings 28 = .ok (.invokevirtual 71, 3) := by decide +kernel
theorem dX9_crossings_31 : decode cX9_crossings 31 = .ok (.aload_n 0, 1) := by decide +kernel
theorem dX9_crossings_32 : decode cX9_crossings 32 = .ok (.iload_n 2, 1) := by decide +kernel
theorem dX9_crossings_33 : decode cX9_crossings 33 = .ok (.iload_n 3, 1) := by decide +kernel
theorem dX9_crossings_34 : decode cX9_crossings 34 = .ok (.invokevirtual 74, 3) := by decide +kernel
theorem dX9_crossings_37 : decode cX9_crossings 37 = .ok (.iadd, 1) := by decide +kernel
theorem dX9_crossings_38 : decode cX9_crossings 38 = .ok (.iadd, 1) := by decide +kernel
theorem dX9_crossings_39 : decode cX9_crossings 39 = .ok (.istore_n 1, 1) := by decide +kernel
theorem dX9_crossings_40 : decode cX9_crossings 40 = .ok (.iinc 3 1, 3) := by decide +kernel
theorem dX9_crossings_43 : decode cX9_crossings 43 = .ok (.goto (-27), 3) := by decide +kernel
theorem dX9_crossings_46 : decode cX9_crossings 46 = .ok (.iinc 2 1, 3) := by decide +kernel
theorem dX9_crossings_49 : decode cX9_crossings 49 = .ok (.goto (-45), 3) := by decide +kernel
theorem dX9_crossings_52 : decode cX9_crossings 52 = .ok (.iload_n 1, 1) := by decide +kernel
theorem dX9_crossings_53 : decode cX9_crossings 53 = .ok (.ireturn, 1) := by decide +kernel
set_option maxRecDepth 20000 in
theorem ggX9_best_X9_copy : GoodIn wsX9_best wsX9_copy := goodIn_r _ [9, 10, 11, 8, 12, 13, 1, 14, 15, 16, 17, 18, 19, 20, 21, 22, 2, 3, 23, 24, 25, 26, 27, 28, 4, 69, 70, 71, 72, 73, 74, 75, 76] (by decide +kernel) (by decide +kernel)
set_option maxRecDepth 20000 in
theorem gX9_best_X9_copy : GoodIn wsX9_best (wsV RX9 77 RX9 yX9_copy wsX9_copy) := goodIn_app (goodIn_of _ (by decide +kernel)) ggX9_best_X9_copy
set_option maxRecDepth 20000 in
theorem ggX9_best_X9_worst : GoodIn wsX9_best wsX9_worst := goodIn_r _ [32, 12, 33, 34, 35, 36, 37, 38, 39, 8, 40, 4, 41, 42, 43, 44, 1, 2, 45, 46, 47, 48, 49, 50, 51, 52, 53, 54, 55, 56, 3, 69, 70, 71, 72, 73, 74, 75, 76] (by decide +kernel) (by decide +kernel)
set_option maxRecDepth 20000 in
theorem gX9_best_X9_worst : GoodIn wsX9_best (wsV RX9 81 RX9 yX9_worst wsX9_worst) := goodIn_app (goodIn_of _ (by decide +kernel)) ggX9_best_X9_worst
set_option maxRecDepth 20000 in
theorem ggX9_best_X9_crossings : GoodIn wsX9_best wsX9_crossings := goodIn_r _ [60, 1, 61, 62, 63, 8, 64, 41, 42, 43, 44, 2, 53, 54, 55, 56, 3, 65, 66, 67, 68, 69, 70, 71, 72, 73, 74, 75, 76] (by decide +kernel) (by decide +kernel)
set_option maxRecDepth 20000 in
theorem gX9_best_X9_crossings : GoodIn wsX9_best (wsV RX9 84 RX9 yX9_crossings wsX9_crossings) := goodIn_app (goodIn_of _ (by decide +kernel)) ggX9_best_X9_crossings
theorem dX9_best_0 : decode cX9_best 0 = .ok (.aload_n 0, 1) := by decide +kernel
theorem dX9_best_1 : decode cX9_best 1 = .ok (.invokevirtual 77, 3) := by decide +kernel
theorem dX9_best_4 : decode cX9_best 4 = .ok (.astore_n 1, 1) := by decide +kernel
theorem dX9_best_5 : decode cX9_best 5 = .ok (.aconst_null, 1) := by decide +kernel
theorem dX9_best_6 : decode cX9_best 6 = .ok (.astore_n 2, 1) := by decide +kernel
theorem dX9_best_7 : decode cX9_best 7 = .ok (.iconst 1, 1) := by decide +kernel
theorem dX9_best_8 : decode cX9_best 8 = .ok (.istore_n 3, 1) := by decide +kernel
theorem dX9_best_9 : decode cX9_best 9 = .ok (.iconst 0, 1) := by decide +kernel
theorem dX9_best_10 : decode cX9_best 10 = .ok (.istore 4, 2) := by decide +kernel
theorem dX9_best_12 : decode cX9_best 12 = .ok (.iload 4, 2) := by decide +kernel
theorem dX9_best_14 : decode cX9_best 14 = .ok (.aload_n 0, 1) := by decide +kernel
theorem dX9_best_15 : decode cX9_best 15 = .ok (.getfield 32, 3) := by decide +kernel
theorem dX9_best_18 : decode cX9_best 18 = .ok (.if_icmp .ge 20, 3) := by decide +kernel
theorem dX9_best_21 : decode cX9_best 21 = .ok (.iload_n 3, 1) := by decide +kernel
theorem dX9_best_22 : decode cX9_best 22 = .ok (.aload_n 0, 1) := by decide +kernel
theorem dX9_best_23 : decode cX9_best 23 = .ok (.getfield 22, 3) := by decide +kernel
theorem dX9_best_26 : decode cX9_best 26 = .ok (.iload 4, 2) := by decide +kernel
theorem dX9_best_28 : decode cX9_best 28 = .ok (.aaload, 1) := by decide +kernel
theorem dX9_best_29 : decode cX9_best 29 = .ok (.arraylength, 1) := by decide +kernel
theorem dX9_best_30 : decode cX9_best 30 = .ok (.imul, 1) := by decide +kernel
theorem dX9_best_31 : decode cX9_best 31 = .ok (.istore_n 3, 1) := by decide +kernel
theorem dX9_best_32 : decode cX9_best 32 = .ok (.iinc 4 1, 3) := by decide +kernel
theorem dX9_best_35 : decode cX9_best 35 = .ok (.goto (-23), 3) := by decide +kernel
theorem dX9_best_38 : decode cX9_best 38 = .ok (.iconst 0, 1) := by decide +kernel
theorem dX9_best_39 : decode cX9_best 39 = .ok (.istore 4, 2) := by decide +kernel
theorem dX9_best_41 : decode cX9_best 41 = .ok (.iload 4, 2) := by decide +kernel
theorem dX9_best_43 : decode cX9_best 43 = .ok (.iload_n 3, 1) := by decide +kernel
theorem dX9_best_44 : decode cX9_best 44 = .ok (.if_icmp .ge 161, 3) := by decide +kernel
theorem dX9_best_47 : decode cX9_best 47 = .ok (.iload 4, 2) := by decide +kernel
theorem dX9_best_49 : decode cX9_best 49 = .ok (.istore 5, 2) := by decide +kernel
theorem dX9_best_51 : decode cX9_best 51 = .ok (.aload_n 0, 1) := by decide +kernel
theorem dX9_best_52 : decode cX9_best 52 = .ok (.getfield 32, 3) := by decide +kernel
theorem dX9_best_55 : decode cX9_best 55 = .ok (.iconst 1, 1) := by decide +kernel
theorem dX9_best_56 : decode cX9_best 56 = .ok (.isub, 1) := by decide +kernel
theorem dX9_best_57 : decode cX9_best 57 = .ok (.istore 6, 2) := by decide +kernel
theorem dX9_best_59 : decode cX9_best 59 = .ok (.iload 6, 2) := by decide +kernel
theorem dX9_best_61 : decode cX9_best 61 = .ok (.ifCond .lt 40, 3) := by decide +kernel
theorem dX9_best_64 : decode cX9_best 64 = .ok (.aload_n 1, 1) := by decide +kernel
theorem dX9_best_65 : decode cX9_best 65 = .ok (.getfield 25, 3) := by decide +kernel
theorem dX9_best_68 : decode cX9_best 68 = .ok (.iload 6, 2) := by decide +kernel
theorem dX9_best_70 : decode cX9_best 70 = .ok (.iload 5, 2) := by decide +kernel
theorem dX9_best_72 : decode cX9_best 72 = .ok (.aload_n 0, 1) := by decide +kernel
theorem dX9_best_73 : decode cX9_best 73 = .ok (.getfield 22, 3) := by decide +kernel
theorem dX9_best_76 : decode cX9_best 76 = .ok (.iload 6, 2) := by decide +kernel
theorem dX9_best_78 : decode cX9_best 78 = .ok (.aaload, 1) := by decide +kernel
theorem dX9_best_79 : decode cX9_best 79 = .ok (.arraylength, 1) := by decide +kernel
theorem dX9_best_80 : decode cX9_best 80 = .ok (.irem, 1) := by decide +kernel
theorem dX9_best_81 : decode cX9_best 81 = .ok (.iastore, 1) := by decide +kernel
theorem dX9_best_82 : decode cX9_best 82 = .ok (.iload 5, 2) := by decide +kernel
theorem dX9_best_84 : decode cX9_best 84 = .ok (.aload_n 0, 1) := by decide +kernel
theorem dX9_best_85 : decode cX9_best 85 = .ok (.getfield 22, 3) := by decide +kernel
theorem dX9_best_88 : decode cX9_best 88 = .ok (.iload 6, 2) := by decide +kernel
theorem dX9_best_90 : decode cX9_best 90 = .ok (.aaload, 1) := by decide +kernel
theorem dX9_best_91 : decode cX9_best 91 = .ok (.arraylength, 1) := by decide +kernel
theorem dX9_best_92 : decode cX9_best 92 = .ok (.idiv, 1) := by decide +kernel
theorem dX9_best_93 : decode cX9_best 93 = .ok (.istore 5, 2) := by decide +kernel
theorem dX9_best_95 : decode cX9_best 95 = .ok (.iinc 6 (-1), 3) := by decide +kernel
theorem dX9_best_98 : decode cX9_best 98 = .ok (.goto (-39), 3) := by decide +kernel
theorem dX9_best_101 : decode cX9_best 101 = .ok (.aload_n 1, 1) := by decide +kernel
theorem dX9_best_102 : decode cX9_best 102 = .ok (.invokevirtual 81, 3) := by decide +kernel
theorem dX9_best_105 : decode cX9_best 105 = .ok (.istore 6, 2) := by decide +kernel
theorem dX9_best_107 : decode cX9_best 107 = .ok (.aload_n 2, 1) := by decide +kernel
theorem dX9_best_108 : decode cX9_best 108 = .ok (.ifnull 14, 3) := by decide +kernel
theorem dX9_best_111 : decode cX9_best 111 = .ok (.iload 6, 2) := by decide +kernel
theorem dX9_best_113 : decode cX9_best 113 = .ok (.aload_n 2, 1) := by decide +kernel
theorem dX9_best_114 : decode cX9_best 114 = .ok (.iconst 0, 1) := by decide +kernel
theorem dX9_best_115 : decode cX9_best 115 = .ok (.iaload, 1) := by decide +kernel
theorem dX9_best_116 : decode cX9_best 116 = .ok (.if_icmp .le 6, 3) := by decide +kernel
theorem dX9_best_119 : decode cX9_best 119 = .ok (.goto 80, 3) := by decide +kernel
theorem dX9_best_122 : decode cX9_best 122 = .ok (.aload_n 1, 1) := by decide +kernel
theorem dX9_best_123 : decode cX9_best 123 = .ok (.invokevirtual 84, 3) := by decide +kernel
theorem dX9_best_126 : decode cX9_best 126 = .ok (.istore 7, 2) := by decide +kernel
theorem dX9_best_128 : decode cX9_best 128 = .ok (.aload_n 2, 1) := by decide +kernel
theorem dX9_best_129 : decode cX9_best 129 = .ok (.ifnull 19, 3) := by decide +kernel
theorem dX9_best_132 : decode cX9_best 132 = .ok (.iload 6, 2) := by decide +kernel
theorem dX9_best_134 : decode cX9_best 134 = .ok (.aload_n 2, 1) := by decide +kernel
theorem dX9_best_135 : decode cX9_best 135 = .ok (.iconst 0, 1) := by decide +kernel
theorem dX9_best_136 : decode cX9_best 136 = .ok (.iaload, 1) := by decide +kernel
theorem dX9_best_137 : decode cX9_best 137 = .ok (.if_icmp .lt 11, 3) := by decide +kernel
theorem dX9_best_140 : decode cX9_best 140 = .ok (.iload 7, 2) := by decide +kernel
theorem dX9_best_142 : decode cX9_best 142 = .ok (.aload_n 2, 1) := by decide +kernel
theorem dX9_best_143 : decode cX9_best 143 = .ok (.iconst 1, 1) := by decide +kernel
theorem dX9_best_144 : decode cX9_best 144 = .ok (.iaload, 1) := by decide +kernel
theorem dX9_best_145 : decode cX9_best 145 = .ok (.if_icmp .ge 54, 3) := by decide +kernel
theorem dX9_best_148 : decode cX9_best 148 = .ok (.bipush 6, 2) := by decide +kernel
theorem dX9_best_150 : decode cX9_best 150 = .ok (.newarray .int, 2) := by decide +kernel
theorem dX9_best_152 : decode cX9_best 152 = .ok (.dup, 1) := by decide +kernel
theorem dX9_best_153 : decode cX9_best 153 = .ok (.iconst 0, 1) := by decide +kernel
theorem dX9_best_154 : decode cX9_best 154 = .ok (.iload 6, 2) := by decide +kernel
theorem dX9_best_156 : decode cX9_best 156 = .ok (.iastore, 1) := by decide +kernel
theorem dX9_best_157 : decode cX9_best 157 = .ok (.dup, 1) := by decide +kernel
theorem dX9_best_158 : decode cX9_best 158 = .ok (.iconst 1, 1) := by decide +kernel
theorem dX9_best_159 : decode cX9_best 159 = .ok (.iload 7, 2) := by decide +kernel
theorem dX9_best_161 : decode cX9_best 161 = .ok (.iastore, 1) := by decide +kernel
theorem dX9_best_162 : decode cX9_best 162 = .ok (.dup, 1) := by decide +kernel
theorem dX9_best_163 : decode cX9_best 163 = .ok (.iconst 2, 1) := by decide +kernel
theorem dX9_best_164 : decode cX9_best 164 = .ok (.aload_n 1, 1) := by decide +kernel
theorem dX9_best_165 : decode cX9_best 165 = .ok (.getfield 25, 3) := by decide +kernel
theorem dX9_best_168 : decode cX9_best 168 = .ok (.iconst 0, 1) := by decide +kernel
theorem dX9_best_169 : decode cX9_best 169 = .ok (.iaload, 1) := by decide +kernel
theorem dX9_best_170 : decode cX9_best 170 = .ok (.iastore, 1) := by decide +kernel
theorem dX9_best_171 : decode cX9_best 171 = .ok (.dup, 1) := by decide +kernel
theorem dX9_best_172 : decode cX9_best 172 = .ok (.iconst 3, 1) := by decide +kernel
theorem dX9_best_173 : decode cX9_best 173 = .ok (.aload_n 1, 1) := by decide +kernel
theorem dX9_best_174 : decode cX9_best 174 = .ok (.getfield 25, 3) := by decide +kernel
theorem dX9_best_177 : decode cX9_best 177 = .ok (.iconst 1, 1) := by decide +kernel
theorem dX9_best_178 : decode cX9_best 178 = .ok (.iaload, 1) := by decide +kernel
theorem dX9_best_179 : decode cX9_best 179 = .ok (.iastore, 1) := by decide +kernel
theorem dX9_best_180 : decode cX9_best 180 = .ok (.dup, 1) := by decide +kernel
theorem dX9_best_181 : decode cX9_best 181 = .ok (.iconst 4, 1) := by decide +kernel
theorem dX9_best_182 : decode cX9_best 182 = .ok (.aload_n 1, 1) := by decide +kernel
theorem dX9_best_183 : decode cX9_best 183 = .ok (.getfield 25, 3) := by decide +kernel
theorem dX9_best_186 : decode cX9_best 186 = .ok (.iconst 2, 1) := by decide +kernel
theorem dX9_best_187 : decode cX9_best 187 = .ok (.iaload, 1) := by decide +kernel
theorem dX9_best_188 : decode cX9_best 188 = .ok (.iastore, 1) := by decide +kernel
theorem dX9_best_189 : decode cX9_best 189 = .ok (.dup, 1) := by decide +kernel
theorem dX9_best_190 : decode cX9_best 190 = .ok (.iconst 5, 1) := by decide +kernel
theorem dX9_best_191 : decode cX9_best 191 = .ok (.aload_n 1, 1) := by decide +kernel
theorem dX9_best_192 : decode cX9_best 192 = .ok (.getfield 25, 3) := by decide +kernel
theorem dX9_best_195 : decode cX9_best 195 = .ok (.iconst 3, 1) := by decide +kernel
theorem dX9_best_196 : decode cX9_best 196 = .ok (.iaload, 1) := by decide +kernel
theorem dX9_best_197 : decode cX9_best 197 = .ok (.iastore, 1) := by decide +kernel
theorem dX9_best_198 : decode cX9_best 198 = .ok (.astore_n 2, 1) := by decide +kernel
theorem dX9_best_199 : decode cX9_best 199 = .ok (.iinc 4 1, 3) := by decide +kernel
theorem dX9_best_202 : decode cX9_best 202 = .ok (.goto (-161), 3) := by decide +kernel
theorem dX9_best_205 : decode cX9_best 205 = .ok (.aload_n 2, 1) := by decide +kernel
theorem dX9_best_206 : decode cX9_best 206 = .ok (.areturn, 1) := by decide +kernel
set_option maxRecDepth 20000 in
theorem ggX9_pass_X9_in : GoodIn wsX9_pass wsX9_in := goodIn_r _ [12, 13, 14, 15, 16, 11, 17, 18, 19, 20, 21, 22, 23, 24, 25, 26, 27] (by decide +kernel) (by decide +kernel)
set_option maxRecDepth 20000 in
theorem gX9_pass_X9_in : GoodIn wsX9_pass (wsV RX9 50 RX9 yX9_in wsX9_in) := goodIn_app (goodIn_of _ (by decide +kernel)) ggX9_pass_X9_in
theorem dX9_pass_0 : decode cX9_pass 0 = .ok (.iconst 0, 1) := by decide +kernel
theorem dX9_pass_1 : decode cX9_pass 1 = .ok (.istore_n 2, 1) := by decide +kernel
theorem dX9_pass_2 : decode cX9_pass 2 = .ok (.iconst 0, 1) := by decide +kernel
theorem dX9_pass_3 : decode cX9_pass 3 = .ok (.istore_n 3, 1) := by decide +kernel
theorem dX9_pass_4 : decode cX9_pass 4 = .ok (.iload_n 3, 1) := by decide +kernel
theorem dX9_pass_5 : decode cX9_pass 5 = .ok (.iload_n 1, 1) := by decide +kernel
theorem dX9_pass_6 : decode cX9_pass 6 = .ok (.if_icmp .ge 136, 3) := by decide +kernel
theorem dX9_pass_9 : decode cX9_pass 9 = .ok (.iconst 0, 1) := by decide +kernel
theorem dX9_pass_10 : decode cX9_pass 10 = .ok (.istore 4, 2) := by decide +kernel
theorem dX9_pass_12 : decode cX9_pass 12 = .ok (.iload 4, 2) := by decide +kernel
theorem dX9_pass_14 : decode cX9_pass 14 = .ok (.aload_n 0, 1) := by decide +kernel
theorem dX9_pass_15 : decode cX9_pass 15 = .ok (.getfield 7, 3) := by decide +kernel
theorem dX9_pass_18 : decode cX9_pass 18 = .ok (.if_icmp .ge 108, 3) := by decide +kernel
theorem dX9_pass_21 : decode cX9_pass 21 = .ok (.aload_n 0, 1) := by decide +kernel
theorem dX9_pass_22 : decode cX9_pass 22 = .ok (.iload 4, 2) := by decide +kernel
theorem dX9_pass_24 : decode cX9_pass 24 = .ok (.aload_n 0, 1) := by decide +kernel
theorem dX9_pass_25 : decode cX9_pass 25 = .ok (.getfield 35, 3) := by decide +kernel
theorem dX9_pass_28 : decode cX9_pass 28 = .ok (.i2l, 1) := by decide +kernel
theorem dX9_pass_29 : decode cX9_pass 29 = .ok (.invokevirtual 50, 3) := by decide +kernel
theorem dX9_pass_32 : decode cX9_pass 32 = .ok (.ifCond .eq 45, 3) := by decide +kernel
theorem dX9_pass_35 : decode cX9_pass 35 = .ok (.aload_n 0, 1) := by decide +kernel
theorem dX9_pass_36 : decode cX9_pass 36 = .ok (.getfield 19, 3) := by decide +kernel
theorem dX9_pass_39 : decode cX9_pass 39 = .ok (.iload 4, 2) := by decide +kernel
theorem dX9_pass_41 : decode cX9_pass 41 = .ok (.aaload, 1) := by decide +kernel
theorem dX9_pass_42 : decode cX9_pass 42 = .ok (.iconst 1, 1) := by decide +kernel
theorem dX9_pass_43 : decode cX9_pass 43 = .ok (.dup2, 1) := by decide +kernel
theorem dX9_pass_44 : decode cX9_pass 44 = .ok (.iaload, 1) := by decide +kernel
theorem dX9_pass_45 : decode cX9_pass 45 = .ok (.iconst 1, 1) := by decide +kernel
theorem dX9_pass_46 : decode cX9_pass 46 = .ok (.iadd, 1) := by decide +kernel
theorem dX9_pass_47 : decode cX9_pass 47 = .ok (.iastore, 1) := by decide +kernel
theorem dX9_pass_48 : decode cX9_pass 48 = .ok (.aload_n 0, 1) := by decide +kernel
theorem dX9_pass_49 : decode cX9_pass 49 = .ok (.getfield 19, 3) := by decide +kernel
theorem dX9_pass_52 : decode cX9_pass 52 = .ok (.iload 4, 2) := by decide +kernel
theorem dX9_pass_54 : decode cX9_pass 54 = .ok (.aaload, 1) := by decide +kernel
theorem dX9_pass_55 : decode cX9_pass 55 = .ok (.iconst 2, 1) := by decide +kernel
theorem dX9_pass_56 : decode cX9_pass 56 = .ok (.aload_n 0, 1) := by decide +kernel
theorem dX9_pass_57 : decode cX9_pass 57 = .ok (.getfield 35, 3) := by decide +kernel
theorem dX9_pass_60 : decode cX9_pass 60 = .ok (.iastore, 1) := by decide +kernel
theorem dX9_pass_61 : decode cX9_pass 61 = .ok (.aload_n 0, 1) := by decide +kernel
theorem dX9_pass_62 : decode cX9_pass 62 = .ok (.getfield 19, 3) := by decide +kernel
theorem dX9_pass_65 : decode cX9_pass 65 = .ok (.iload 4, 2) := by decide +kernel
theorem dX9_pass_67 : decode cX9_pass 67 = .ok (.aaload, 1) := by decide +kernel
theorem dX9_pass_68 : decode cX9_pass 68 = .ok (.iconst 3, 1) := by decide +kernel
theorem dX9_pass_69 : decode cX9_pass 69 = .ok (.iconst 0, 1) := by decide +kernel
theorem dX9_pass_70 : decode cX9_pass 70 = .ok (.iastore, 1) := by decide +kernel
theorem dX9_pass_71 : decode cX9_pass 71 = .ok (.iinc 2 1, 3) := by decide +kernel
theorem dX9_pass_74 : decode cX9_pass 74 = .ok (.goto 46, 3) := by decide +kernel
theorem dX9_pass_77 : decode cX9_pass 77 = .ok (.aload_n 0, 1) := by decide +kernel
theorem dX9_pass_78 : decode cX9_pass 78 = .ok (.getfield 19, 3) := by decide +kernel
theorem dX9_pass_81 : decode cX9_pass 81 = .ok (.iload 4, 2) := by decide +kernel
theorem dX9_pass_83 : decode cX9_pass 83 = .ok (.aaload, 1) := by decide +kernel
theorem dX9_pass_84 : decode cX9_pass 84 = .ok (.iconst 3, 1) := by decide +kernel
theorem dX9_pass_85 : decode cX9_pass 85 = .ok (.dup2, 1) := by decide +kernel
theorem dX9_pass_86 : decode cX9_pass 86 = .ok (.iaload, 1) := by decide +kernel
theorem dX9_pass_87 : decode cX9_pass 87 = .ok (.iconst 1, 1) := by decide +kernel
theorem dX9_pass_88 : decode cX9_pass 88 = .ok (.iadd, 1) := by decide +kernel
theorem dX9_pass_89 : decode cX9_pass 89 = .ok (.iastore, 1) := by decide +kernel
theorem dX9_pass_90 : decode cX9_pass 90 = .ok (.aload_n 0, 1) := by decide +kernel
theorem dX9_pass_91 : decode cX9_pass 91 = .ok (.getfield 19, 3) := by decide +kernel
theorem dX9_pass_94 : decode cX9_pass 94 = .ok (.iload 4, 2) := by decide +kernel
theorem dX9_pass_96 : decode cX9_pass 96 = .ok (.aaload, 1) := by decide +kernel
theorem dX9_pass_97 : decode cX9_pass 97 = .ok (.iconst 4, 1) := by decide +kernel
theorem dX9_pass_98 : decode cX9_pass 98 = .ok (.aload_n 0, 1) := by decide +kernel
theorem dX9_pass_99 : decode cX9_pass 99 = .ok (.getfield 19, 3) := by decide +kernel
theorem dX9_pass_102 : decode cX9_pass 102 = .ok (.iload 4, 2) := by decide +kernel
theorem dX9_pass_104 : decode cX9_pass 104 = .ok (.aaload, 1) := by decide +kernel
theorem dX9_pass_105 : decode cX9_pass 105 = .ok (.iconst 4, 1) := by decide +kernel
theorem dX9_pass_106 : decode cX9_pass 106 = .ok (.iaload, 1) := by decide +kernel
theorem dX9_pass_107 : decode cX9_pass 107 = .ok (.aload_n 0, 1) := by decide +kernel
theorem dX9_pass_108 : decode cX9_pass 108 = .ok (.getfield 19, 3) := by decide +kernel
theorem dX9_pass_111 : decode cX9_pass 111 = .ok (.iload 4, 2) := by decide +kernel
theorem dX9_pass_113 : decode cX9_pass 113 = .ok (.aaload, 1) := by decide +kernel
theorem dX9_pass_114 : decode cX9_pass 114 = .ok (.iconst 3, 1) := by decide +kernel
theorem dX9_pass_115 : decode cX9_pass 115 = .ok (.iaload, 1) := by decide +kernel
theorem dX9_pass_116 : decode cX9_pass 116 = .ok (.invokestatic 61, 3) := by decide +kernel
theorem dX9_pass_119 : decode cX9_pass 119 = .ok (.iastore, 1) := by decide +kernel
theorem dX9_pass_120 : decode cX9_pass 120 = .ok (.iinc 4 1, 3) := by decide +kernel
theorem dX9_pass_123 : decode cX9_pass 123 = .ok (.goto (-111), 3) := by decide +kernel
theorem dX9_pass_126 : decode cX9_pass 126 = .ok (.aload_n 0, 1) := by decide +kernel
theorem dX9_pass_127 : decode cX9_pass 127 = .ok (.dup, 1) := by decide +kernel
theorem dX9_pass_128 : decode cX9_pass 128 = .ok (.getfield 35, 3) := by decide +kernel
theorem dX9_pass_131 : decode cX9_pass 131 = .ok (.iconst 1, 1) := by decide +kernel
theorem dX9_pass_132 : decode cX9_pass 132 = .ok (.iadd, 1) := by decide +kernel
theorem dX9_pass_133 : decode cX9_pass 133 = .ok (.putfield 35, 3) := by decide +kernel
theorem dX9_pass_136 : decode cX9_pass 136 = .ok (.iinc 3 1, 3) := by decide +kernel
theorem dX9_pass_139 : decode cX9_pass 139 = .ok (.goto (-135), 3) := by decide +kernel
theorem dX9_pass_142 : decode cX9_pass 142 = .ok (.iload_n 2, 1) := by decide +kernel
theorem dX9_pass_143 : decode cX9_pass 143 = .ok (.ireturn, 1) := by decide +kernel
theorem dX9_through_0 : decode cX9_through 0 = .ok (.iconst 0, 1) := by decide +kernel
theorem dX9_through_1 : decode cX9_through 1 = .ok (.istore_n 2, 1) := by decide +kernel
theorem dX9_through_2 : decode cX9_through 2 = .ok (.iconst 0, 1) := by decide +kernel
theorem dX9_through_3 : decode cX9_through 3 = .ok (.istore_n 3, 1) := by decide +kernel
theorem dX9_through_4 : decode cX9_through 4 = .ok (.iload_n 3, 1) := by decide +kernel
theorem dX9_through_5 : decode cX9_through 5 = .ok (.aload_n 0, 1) := by decide +kernel
theorem dX9_through_6 : decode cX9_through 6 = .ok (.getfield 32, 3) := by decide +kernel
theorem dX9_through_9 : decode cX9_through 9 = .ok (.if_icmp .ge 140, 3) := by decide +kernel
theorem dX9_through_12 : decode cX9_through 12 = .ok (.iconst 0, 1) := by decide +kernel
theorem dX9_through_13 : decode cX9_through 13 = .ok (.istore 4, 2) := by decide +kernel
theorem dX9_through_15 : decode cX9_through 15 = .ok (.iconst 0, 1) := by decide +kernel
theorem dX9_through_16 : decode cX9_through 16 = .ok (.istore 5, 2) := by decide +kernel
theorem dX9_through_18 : decode cX9_through 18 = .ok (.iload 5, 2) := by decide +kernel
theorem dX9_through_20 : decode cX9_through 20 = .ok (.aload_n 0, 1) := by decide +kernel
theorem dX9_through_21 : decode cX9_through 21 = .ok (.getfield 22, 3) := by decide +kernel
theorem dX9_through_24 : decode cX9_through 24 = .ok (.iload_n 3, 1) := by decide +kernel
theorem dX9_through_25 : decode cX9_through 25 = .ok (.aaload, 1) := by decide +kernel
theorem dX9_through_26 : decode cX9_through 26 = .ok (.arraylength, 1) := by decide +kernel
theorem dX9_through_27 : decode cX9_through 27 = .ok (.if_icmp .ge 103, 3) := by decide +kernel
theorem dX9_through_30 : decode cX9_through 30 = .ok (.aload_n 0, 1) := by decide +kernel
theorem dX9_through_31 : decode cX9_through 31 = .ok (.getfield 22, 3) := by decide +kernel
theorem dX9_through_34 : decode cX9_through 34 = .ok (.iload_n 3, 1) := by decide +kernel
theorem dX9_through_35 : decode cX9_through 35 = .ok (.aaload, 1) := by decide +kernel
theorem dX9_through_36 : decode cX9_through 36 = .ok (.iload 5, 2) := by decide +kernel
theorem dX9_through_38 : decode cX9_through 38 = .ok (.iaload, 1) := by decide +kernel
theorem dX9_through_39 : decode cX9_through 39 = .ok (.istore 6, 2) := by decide +kernel
theorem dX9_through_41 : decode cX9_through 41 = .ok (.aload_n 0, 1) := by decide +kernel
theorem dX9_through_42 : decode cX9_through 42 = .ok (.getfield 22, 3) := by decide +kernel
theorem dX9_through_45 : decode cX9_through 45 = .ok (.iload_n 3, 1) := by decide +kernel
theorem dX9_through_46 : decode cX9_through 46 = .ok (.aaload, 1) := by decide +kernel
theorem dX9_through_47 : decode cX9_through 47 = .ok (.iload 5, 2) := by decide +kernel
theorem dX9_through_49 : decode cX9_through 49 = .ok (.iconst 1, 1) := by decide +kernel
theorem dX9_through_50 : decode cX9_through 50 = .ok (.iadd, 1) := by decide +kernel
theorem dX9_through_51 : decode cX9_through 51 = .ok (.aload_n 0, 1) := by decide +kernel
theorem dX9_through_52 : decode cX9_through 52 = .ok (.getfield 22, 3) := by decide +kernel
theorem dX9_through_55 : decode cX9_through 55 = .ok (.iload_n 3, 1) := by decide +kernel
theorem dX9_through_56 : decode cX9_through 56 = .ok (.aaload, 1) := by decide +kernel
theorem dX9_through_57 : decode cX9_through 57 = .ok (.arraylength, 1) := by decide +kernel
theorem dX9_through_58 : decode cX9_through 58 = .ok (.irem, 1) := by decide +kernel
theorem dX9_through_59 : decode cX9_through 59 = .ok (.iaload, 1) := by decide +kernel
theorem dX9_through_60 : decode cX9_through 60 = .ok (.istore 7, 2) := by decide +kernel
theorem dX9_through_62 : decode cX9_through 62 = .ok (.iload 4, 2) := by decide +kernel
theorem dX9_through_64 : decode cX9_through 64 = .ok (.iload 6, 2) := by decide +kernel
theorem dX9_through_66 : decode cX9_through 66 = .ok (.aload_n 0, 1) := by decide +kernel
theorem dX9_through_67 : decode cX9_through 67 = .ok (.getfield 15, 3) := by decide +kernel
theorem dX9_through_70 : decode cX9_through 70 = .ok (.iload_n 1, 1) := by decide +kernel
theorem dX9_through_71 : decode cX9_through 71 = .ok (.aaload, 1) := by decide +kernel
theorem dX9_through_72 : decode cX9_through 72 = .ok (.iconst 0, 1) := by decide +kernel
theorem dX9_through_73 : decode cX9_through 73 = .ok (.iaload, 1) := by decide +kernel
theorem dX9_through_74 : decode cX9_through 74 = .ok (.if_icmp .ne 16, 3) := by decide +kernel
theorem dX9_through_77 : decode cX9_through 77 = .ok (.iload 7, 2) := by decide +kernel
theorem dX9_through_79 : decode cX9_through 79 = .ok (.aload_n 0, 1) := by decide +kernel
theorem dX9_through_80 : decode cX9_through 80 = .ok (.getfield 15, 3) := by decide +kernel
theorem dX9_through_83 : decode cX9_through 83 = .ok (.iload_n 1, 1) := by decide +kernel
theorem dX9_through_84 : decode cX9_through 84 = .ok (.aaload, 1) := by decide +kernel
theorem dX9_through_85 : decode cX9_through 85 = .ok (.iconst 1, 1) := by decide +kernel
theorem dX9_through_86 : decode cX9_through 86 = .ok (.iaload, 1) := by decide +kernel
theorem dX9_through_87 : decode cX9_through 87 = .ok (.if_icmp .eq 29, 3) := by decide +kernel
theorem dX9_through_90 : decode cX9_through 90 = .ok (.iload 7, 2) := by decide +kernel
theorem dX9_through_92 : decode cX9_through 92 = .ok (.aload_n 0, 1) := by decide +kernel
theorem dX9_through_93 : decode cX9_through 93 = .ok (.getfield 15, 3) := by decide +kernel
theorem dX9_through_96 : decode cX9_through 96 = .ok (.iload_n 1, 1) := by decide +kernel
theorem dX9_through_97 : decode cX9_through 97 = .ok (.aaload, 1) := by decide +kernel
theorem dX9_through_98 : decode cX9_through 98 = .ok (.iconst 0, 1) := by decide +kernel
theorem dX9_through_99 : decode cX9_through 99 = .ok (.iaload, 1) := by decide +kernel
theorem dX9_through_100 : decode cX9_through 100 = .ok (.if_icmp .ne 20, 3) := by decide +kernel
theorem dX9_through_103 : decode cX9_through 103 = .ok (.iload 6, 2) := by decide +kernel
theorem dX9_through_105 : decode cX9_through 105 = .ok (.aload_n 0, 1) := by decide +kernel
theorem dX9_through_106 : decode cX9_through 106 = .ok (.getfield 15, 3) := by decide +kernel
theorem dX9_through_109 : decode cX9_through 109 = .ok (.iload_n 1, 1) := by decide +kernel
theorem dX9_through_110 : decode cX9_through 110 = .ok (.aaload, 1) := by decide +kernel
theorem dX9_through_111 : decode cX9_through 111 = .ok (.iconst 1, 1) := by decide +kernel
theorem dX9_through_112 : decode cX9_through 112 = .ok (.iaload, 1) := by decide +kernel
theorem dX9_through_113 : decode cX9_through 113 = .ok (.if_icmp .ne 7, 3) := by decide +kernel
theorem dX9_through_116 : decode cX9_through 116 = .ok (.iconst 1, 1) := by decide +kernel
theorem dX9_through_117 : decode cX9_through 117 = .ok (.goto 4, 3) := by decide +kernel
theorem dX9_through_120 : decode cX9_through 120 = .ok (.iconst 0, 1) := by decide +kernel
theorem dX9_through_121 : decode cX9_through 121 = .ok (.ior, 1) := by decide +kernel
theorem dX9_through_122 : decode cX9_through 122 = .ok (.istore 4, 2) := by decide +kernel
theorem dX9_through_124 : decode cX9_through 124 = .ok (.iinc 5 1, 3) := by decide +kernel
theorem dX9_through_127 : decode cX9_through 127 = .ok (.goto (-109), 3) := by decide +kernel
theorem dX9_through_130 : decode cX9_through 130 = .ok (.iload_n 2, 1) := by decide +kernel
theorem dX9_through_131 : decode cX9_through 131 = .ok (.iload 4, 2) := by decide +kernel
theorem dX9_through_133 : decode cX9_through 133 = .ok (.ifCond .eq 7, 3) := by decide +kernel
theorem dX9_through_136 : decode cX9_through 136 = .ok (.iconst 1, 1) := by decide +kernel
theorem dX9_through_137 : decode cX9_through 137 = .ok (.goto 4, 3) := by decide +kernel
theorem dX9_through_140 : decode cX9_through 140 = .ok (.iconst 0, 1) := by decide +kernel
theorem dX9_through_141 : decode cX9_through 141 = .ok (.iadd, 1) := by decide +kernel
theorem dX9_through_142 : decode cX9_through 142 = .ok (.istore_n 2, 1) := by decide +kernel
theorem dX9_through_143 : decode cX9_through 143 = .ok (.iinc 3 1, 3) := by decide +kernel
theorem dX9_through_146 : decode cX9_through 146 = .ok (.goto (-142), 3) := by decide +kernel
theorem dX9_through_149 : decode cX9_through 149 = .ok (.iload_n 2, 1) := by decide +kernel
theorem dX9_through_150 : decode cX9_through 150 = .ok (.ireturn, 1) := by decide +kernel
set_option maxRecDepth 20000 in
theorem ggX9_walkBy_L_most : GoodIn wsX9_walkBy wsL_most := goodIn_r _ [5, 6] (by decide +kernel) (by decide +kernel)
set_option maxRecDepth 20000 in
theorem gX9_walkBy_L_most_n94 : GoodIn wsX9_walkBy (wsL_most) := ggX9_walkBy_L_most
set_option maxRecDepth 20000 in
theorem ggX9_walkBy_X9_open : GoodIn wsX9_walkBy wsX9_open := goodIn_r _ [11, 12, 13, 14, 15, 16, 17, 18, 19, 20, 21] (by decide +kernel) (by decide +kernel)
set_option maxRecDepth 20000 in
theorem gX9_walkBy_X9_open : GoodIn wsX9_walkBy (wsV RX9 87 RX9 yX9_open wsX9_open) := goodIn_app (goodIn_of _ (by decide +kernel)) ggX9_walkBy_X9_open
theorem dX9_walkBy_0 : decode cX9_walkBy 0 = .ok (.iconst 1, 1) := by decide +kernel
theorem dX9_walkBy_1 : decode cX9_walkBy 1 = .ok (.iload_n 1, 1) := by decide +kernel
theorem dX9_walkBy_2 : decode cX9_walkBy 2 = .ok (.iconst 4, 1) := by decide +kernel
theorem dX9_walkBy_3 : decode cX9_walkBy 3 = .ok (.invokestatic 94, 3) := by decide +kernel
theorem dX9_walkBy_6 : decode cX9_walkBy 6 = .ok (.iadd, 1) := by decide +kernel
theorem dX9_walkBy_7 : decode cX9_walkBy 7 = .ok (.istore_n 2, 1) := by decide +kernel
theorem dX9_walkBy_8 : decode cX9_walkBy 8 = .ok (.iload_n 2, 1) := by decide +kernel
theorem dX9_walkBy_9 : decode cX9_walkBy 9 = .ok (.newarray .int, 2) := by decide +kernel
theorem dX9_walkBy_11 : decode cX9_walkBy 11 = .ok (.astore_n 3, 1) := by decide +kernel
theorem dX9_walkBy_12 : decode cX9_walkBy 12 = .ok (.aload_n 3, 1) := by decide +kernel
theorem dX9_walkBy_13 : decode cX9_walkBy 13 = .ok (.iconst 0, 1) := by decide +kernel
theorem dX9_walkBy_14 : decode cX9_walkBy 14 = .ok (.iload_n 1, 1) := by decide +kernel
theorem dX9_walkBy_15 : decode cX9_walkBy 15 = .ok (.iconst 3, 1) := by decide +kernel
theorem dX9_walkBy_16 : decode cX9_walkBy 16 = .ok (.ishr, 1) := by decide +kernel
theorem dX9_walkBy_17 : decode cX9_walkBy 17 = .ok (.aload_n 0, 1) := by decide +kernel
theorem dX9_walkBy_18 : decode cX9_walkBy 18 = .ok (.getfield 7, 3) := by decide +kernel
theorem dX9_walkBy_21 : decode cX9_walkBy 21 = .ok (.invokestatic 94, 3) := by decide +kernel
theorem dX9_walkBy_24 : decode cX9_walkBy 24 = .ok (.iastore, 1) := by decide +kernel
theorem dX9_walkBy_25 : decode cX9_walkBy 25 = .ok (.iconst 1, 1) := by decide +kernel
theorem dX9_walkBy_26 : decode cX9_walkBy 26 = .ok (.istore 4, 2) := by decide +kernel
theorem dX9_walkBy_28 : decode cX9_walkBy 28 = .ok (.iload 4, 2) := by decide +kernel
theorem dX9_walkBy_30 : decode cX9_walkBy 30 = .ok (.iload_n 2, 1) := by decide +kernel
theorem dX9_walkBy_31 : decode cX9_walkBy 31 = .ok (.if_icmp .ge 54, 3) := by decide +kernel
theorem dX9_walkBy_34 : decode cX9_walkBy 34 = .ok (.iload_n 1, 1) := by decide +kernel
theorem dX9_walkBy_35 : decode cX9_walkBy 35 = .ok (.iload 4, 2) := by decide +kernel
theorem dX9_walkBy_37 : decode cX9_walkBy 37 = .ok (.iconst 4, 1) := by decide +kernel
theorem dX9_walkBy_38 : decode cX9_walkBy 38 = .ok (.iadd, 1) := by decide +kernel
theorem dX9_walkBy_39 : decode cX9_walkBy 39 = .ok (.ishr, 1) := by decide +kernel
theorem dX9_walkBy_40 : decode cX9_walkBy 40 = .ok (.aload_n 0, 1) := by decide +kernel
theorem dX9_walkBy_41 : decode cX9_walkBy 41 = .ok (.getfield 7, 3) := by decide +kernel
theorem dX9_walkBy_44 : decode cX9_walkBy 44 = .ok (.invokestatic 94, 3) := by decide +kernel
theorem dX9_walkBy_47 : decode cX9_walkBy 47 = .ok (.istore 5, 2) := by decide +kernel
theorem dX9_walkBy_49 : decode cX9_walkBy 49 = .ok (.aload_n 3, 1) := by decide +kernel
theorem dX9_walkBy_50 : decode cX9_walkBy 50 = .ok (.iload 4, 2) := by decide +kernel
theorem dX9_walkBy_52 : decode cX9_walkBy 52 = .ok (.aload_n 0, 1) := by decide +kernel
theorem dX9_walkBy_53 : decode cX9_walkBy 53 = .ok (.aload_n 3, 1) := by decide +kernel
theorem dX9_walkBy_54 : decode cX9_walkBy 54 = .ok (.iload 4, 2) := by decide +kernel
theorem dX9_walkBy_56 : decode cX9_walkBy 56 = .ok (.iconst 1, 1) := by decide +kernel
theorem dX9_walkBy_57 : decode cX9_walkBy 57 = .ok (.isub, 1) := by decide +kernel
theorem dX9_walkBy_58 : decode cX9_walkBy 58 = .ok (.iaload, 1) := by decide +kernel
theorem dX9_walkBy_59 : decode cX9_walkBy 59 = .ok (.iload 5, 2) := by decide +kernel
theorem dX9_walkBy_61 : decode cX9_walkBy 61 = .ok (.invokevirtual 87, 3) := by decide +kernel
theorem dX9_walkBy_64 : decode cX9_walkBy 64 = .ok (.ifCond .le 8, 3) := by decide +kernel
theorem dX9_walkBy_67 : decode cX9_walkBy 67 = .ok (.iload 5, 2) := by decide +kernel
theorem dX9_walkBy_69 : decode cX9_walkBy 69 = .ok (.goto 9, 3) := by decide +kernel
theorem dX9_walkBy_72 : decode cX9_walkBy 72 = .ok (.aload_n 3, 1) := by decide +kernel

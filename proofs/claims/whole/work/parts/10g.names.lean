theorem dX5_readOrder_13 : decode cX5_readOrder 13 = .ok (.bipush 60, 2) := by decide +kernel
theorem dX5_readOrder_15 : decode cX5_readOrder 15 = .ok (.invokevirtual 75, 3) := by decide +kernel
theorem dX5_readOrder_18 : decode cX5_readOrder 18 = .ok (.ifCond .eq 7, 3) := by decide +kernel
theorem dX5_readOrder_21 : decode cX5_readOrder 21 = .ok (.iconst (-1), 1) := by decide +kernel
theorem dX5_readOrder_22 : decode cX5_readOrder 22 = .ok (.goto 20, 3) := by decide +kernel
theorem dX5_readOrder_25 : decode cX5_readOrder 25 = .ok (.aload_n 0, 1) := by decide +kernel
theorem dX5_readOrder_26 : decode cX5_readOrder 26 = .ok (.getfield 25, 3) := by decide +kernel
theorem dX5_readOrder_29 : decode cX5_readOrder 29 = .ok (.bipush 62, 2) := by decide +kernel
theorem dX5_readOrder_31 : decode cX5_readOrder 31 = .ok (.invokevirtual 75, 3) := by decide +kernel
theorem dX5_readOrder_34 : decode cX5_readOrder 34 = .ok (.ifCond .eq 7, 3) := by decide +kernel
theorem dX5_readOrder_37 : decode cX5_readOrder 37 = .ok (.iconst 1, 1) := by decide +kernel
theorem dX5_readOrder_38 : decode cX5_readOrder 38 = .ok (.goto 4, 3) := by decide +kernel
theorem dX5_readOrder_41 : decode cX5_readOrder 41 = .ok (.iconst 0, 1) := by decide +kernel
theorem dX5_readOrder_42 : decode cX5_readOrder 42 = .ok (.istore_n 1, 1) := by decide +kernel
theorem dX5_readOrder_43 : decode cX5_readOrder 43 = .ok (.iload_n 1, 1) := by decide +kernel
theorem dX5_readOrder_44 : decode cX5_readOrder 44 = .ok (.ifCond .ne 22, 3) := by decide +kernel
theorem dX5_readOrder_47 : decode cX5_readOrder 47 = .ok (.aload_n 0, 1) := by decide +kernel
theorem dX5_readOrder_48 : decode cX5_readOrder 48 = .ok (.getfield 25, 3) := by decide +kernel
theorem dX5_readOrder_51 : decode cX5_readOrder 51 = .ok (.bipush 61, 2) := by decide +kernel
theorem dX5_readOrder_53 : decode cX5_readOrder 53 = .ok (.invokevirtual 75, 3) := by decide +kernel
theorem dX5_readOrder_56 : decode cX5_readOrder 56 = .ok (.ifCond .ne 10, 3) := by decide +kernel
theorem dX5_readOrder_59 : decode cX5_readOrder 59 = .ok (.aload_n 0, 1) := by decide +kernel
theorem dX5_readOrder_60 : decode cX5_readOrder 60 = .ok (.iconst 1, 1) := by decide +kernel
theorem dX5_readOrder_61 : decode cX5_readOrder 61 = .ok (.putfield 18, 3) := by decide +kernel
theorem dX5_readOrder_64 : decode cX5_readOrder 64 = .ok (.iconst 0, 1) := by decide +kernel
theorem dX5_readOrder_65 : decode cX5_readOrder 65 = .ok (.ireturn, 1) := by decide +kernel
theorem dX5_readOrder_66 : decode cX5_readOrder 66 = .ok (.aload_n 0, 1) := by decide +kernel
theorem dX5_readOrder_67 : decode cX5_readOrder 67 = .ok (.getfield 25, 3) := by decide +kernel
theorem dX5_readOrder_70 : decode cX5_readOrder 70 = .ok (.invokevirtual 39, 3) := by decide +kernel
theorem dX5_readOrder_73 : decode cX5_readOrder 73 = .ok (.iload_n 1, 1) := by decide +kernel
theorem dX5_readOrder_74 : decode cX5_readOrder 74 = .ok (.ireturn, 1) := by decide +kernel
set_option maxRecDepth 20000 in
theorem ggX5_compareRows_X5_isOrdered : GoodIn wsX5_compareRows wsX5_isOrdered := goodIn_r _ [7] (by decide +kernel) (by decide +kernel)
set_option maxRecDepth 20000 in
theorem gX5_compareRows_X5_isOrdered : GoodIn wsX5_compareRows (va_wsS RX5 102 yX5_isOrdered wsX5_isOrdered) := goodIn_app (goodIn_of _ (by decide +kernel)) ggX5_compareRows_X5_isOrdered
theorem dX5_compareRows_0 : decode cX5_compareRows 0 = .ok (.iconst 0, 1) := by decide +kernel
theorem dX5_compareRows_1 : decode cX5_compareRows 1 = .ok (.istore_n 3, 1) := by decide +kernel
theorem dX5_compareRows_2 : decode cX5_compareRows 2 = .ok (.iconst 0, 1) := by decide +kernel
theorem dX5_compareRows_3 : decode cX5_compareRows 3 = .ok (.istore 4, 2) := by decide +kernel
theorem dX5_compareRows_5 : decode cX5_compareRows 5 = .ok (.iload 4, 2) := by decide +kernel
theorem dX5_compareRows_7 : decode cX5_compareRows 7 = .ok (.aload_n 1, 1) := by decide +kernel
theorem dX5_compareRows_8 : decode cX5_compareRows 8 = .ok (.getfield 99, 3) := by decide +kernel
theorem dX5_compareRows_11 : decode cX5_compareRows 11 = .ok (.if_icmp .ge 44, 3) := by decide +kernel
theorem dX5_compareRows_14 : decode cX5_compareRows 14 = .ok (.iload 4, 2) := by decide +kernel
theorem dX5_compareRows_16 : decode cX5_compareRows 16 = .ok (.bipush 12, 2) := by decide +kernel
theorem dX5_compareRows_18 : decode cX5_compareRows 18 = .ok (.if_icmp .ge 37, 3) := by decide +kernel
theorem dX5_compareRows_21 : decode cX5_compareRows 21 = .ok (.aload_n 0, 1) := by decide +kernel
theorem dX5_compareRows_22 : decode cX5_compareRows 22 = .ok (.getfield 9, 3) := by decide +kernel
theorem dX5_compareRows_25 : decode cX5_compareRows 25 = .ok (.iload 4, 2) := by decide +kernel
theorem dX5_compareRows_27 : decode cX5_compareRows 27 = .ok (.iaload, 1) := by decide +kernel
theorem dX5_compareRows_28 : decode cX5_compareRows 28 = .ok (.aload_n 0, 1) := by decide +kernel
theorem dX5_compareRows_29 : decode cX5_compareRows 29 = .ok (.getfield 15, 3) := by decide +kernel
theorem dX5_compareRows_32 : decode cX5_compareRows 32 = .ok (.iload 4, 2) := by decide +kernel
theorem dX5_compareRows_34 : decode cX5_compareRows 34 = .ok (.iaload, 1) := by decide +kernel
theorem dX5_compareRows_35 : decode cX5_compareRows 35 = .ok (.iload_n 2, 1) := by decide +kernel
theorem dX5_compareRows_36 : decode cX5_compareRows 36 = .ok (.invokestatic 102, 3) := by decide +kernel
theorem dX5_compareRows_39 : decode cX5_compareRows 39 = .ok (.ifCond .eq 10, 3) := by decide +kernel
theorem dX5_compareRows_42 : decode cX5_compareRows 42 = .ok (.iload_n 3, 1) := by decide +kernel
theorem dX5_compareRows_43 : decode cX5_compareRows 43 = .ok (.iconst 1, 1) := by decide +kernel
theorem dX5_compareRows_44 : decode cX5_compareRows 44 = .ok (.iload 4, 2) := by decide +kernel
theorem dX5_compareRows_46 : decode cX5_compareRows 46 = .ok (.ishl, 1) := by decide +kernel
theorem dX5_compareRows_47 : decode cX5_compareRows 47 = .ok (.ior, 1) := by decide +kernel
theorem dX5_compareRows_48 : decode cX5_compareRows 48 = .ok (.istore_n 3, 1) := by decide +kernel
theorem dX5_compareRows_49 : decode cX5_compareRows 49 = .ok (.iinc 4 1, 3) := by decide +kernel
theorem dX5_compareRows_52 : decode cX5_compareRows 52 = .ok (.goto (-47), 3) := by decide +kernel
theorem dX5_compareRows_55 : decode cX5_compareRows 55 = .ok (.iload_n 3, 1) := by decide +kernel
theorem dX5_compareRows_56 : decode cX5_compareRows 56 = .ok (.ireturn, 1) := by decide +kernel
theorem dX5_isOrdered_0 : decode cX5_isOrdered 0 = .ok (.iload_n 2, 1) := by decide +kernel
theorem dX5_isOrdered_1 : decode cX5_isOrdered 1 = .ok (.ifCond .ge 16, 3) := by decide +kernel
theorem dX5_isOrdered_4 : decode cX5_isOrdered 4 = .ok (.iload_n 0, 1) := by decide +kernel
theorem dX5_isOrdered_5 : decode cX5_isOrdered 5 = .ok (.iload_n 1, 1) := by decide +kernel
theorem dX5_isOrdered_6 : decode cX5_isOrdered 6 = .ok (.if_icmp .ge 7, 3) := by decide +kernel
theorem dX5_isOrdered_9 : decode cX5_isOrdered 9 = .ok (.iconst 1, 1) := by decide +kernel
theorem dX5_isOrdered_10 : decode cX5_isOrdered 10 = .ok (.goto 34, 3) := by decide +kernel
theorem dX5_isOrdered_13 : decode cX5_isOrdered 13 = .ok (.iconst 0, 1) := by decide +kernel
theorem dX5_isOrdered_14 : decode cX5_isOrdered 14 = .ok (.goto 30, 3) := by decide +kernel
theorem dX5_isOrdered_17 : decode cX5_isOrdered 17 = .ok (.iload_n 2, 1) := by decide +kernel
theorem dX5_isOrdered_18 : decode cX5_isOrdered 18 = .ok (.ifCond .le 16, 3) := by decide +kernel
theorem dX5_isOrdered_21 : decode cX5_isOrdered 21 = .ok (.iload_n 0, 1) := by decide +kernel
theorem dX5_isOrdered_22 : decode cX5_isOrdered 22 = .ok (.iload_n 1, 1) := by decide +kernel
theorem dX5_isOrdered_23 : decode cX5_isOrdered 23 = .ok (.if_icmp .le 7, 3) := by decide +kernel
theorem dX5_isOrdered_26 : decode cX5_isOrdered 26 = .ok (.iconst 1, 1) := by decide +kernel
theorem dX5_isOrdered_27 : decode cX5_isOrdered 27 = .ok (.goto 17, 3) := by decide +kernel
theorem dX5_isOrdered_30 : decode cX5_isOrdered 30 = .ok (.iconst 0, 1) := by decide +kernel
theorem dX5_isOrdered_31 : decode cX5_isOrdered 31 = .ok (.goto 13, 3) := by decide +kernel
theorem dX5_isOrdered_34 : decode cX5_isOrdered 34 = .ok (.iload_n 0, 1) := by decide +kernel
theorem dX5_isOrdered_35 : decode cX5_isOrdered 35 = .ok (.iload_n 1, 1) := by decide +kernel
theorem dX5_isOrdered_36 : decode cX5_isOrdered 36 = .ok (.if_icmp .ne 7, 3) := by decide +kernel
theorem dX5_isOrdered_39 : decode cX5_isOrdered 39 = .ok (.iconst 1, 1) := by decide +kernel
theorem dX5_isOrdered_40 : decode cX5_isOrdered 40 = .ok (.goto 4, 3) := by decide +kernel
theorem dX5_isOrdered_43 : decode cX5_isOrdered 43 = .ok (.iconst 0, 1) := by decide +kernel
theorem dX5_isOrdered_44 : decode cX5_isOrdered 44 = .ok (.ireturn, 1) := by decide +kernel
set_option maxRecDepth 20000 in
theorem ggX5_readValues_X7_isNumber : GoodIn wsX5_readValues wsX7_isNumber := goodIn_r _ [9, 10, 142, 143, 144, 145, 146, 147, 148] (by decide +kernel) (by decide +kernel)
set_option maxRecDepth 20000 in
theorem gX5_readValues_X7_isNumber : GoodIn wsX5_readValues (wsV RX5 106 RX7 yX7_isNumber wsX7_isNumber) := goodIn_app (goodIn_of _ (by decide +kernel)) ggX5_readValues_X7_isNumber
set_option maxRecDepth 20000 in
theorem ggX5_readValues_X5_propertyOf : GoodIn wsX5_readValues wsX5_propertyOf := goodIn_r _ [15, 3, 16, 17, 18, 19, 20, 21, 22, 23, 24, 25, 26, 27, 28, 29, 30, 31, 32, 33, 34, 8, 35, 10, 36, 37, 38, 39, 40, 41, 42, 43, 44, 45, 46, 47, 48, 49, 50, 51, 52, 53, 54, 55, 56, 57, 58, 59, 60, 61, 62, 63, 64, 65, 66, 67, 68, 69, 70, 71, 72, 73, 74, 75, 76, 77, 78, 79, 80, 81, 82, 83, 84, 85, 86, 87, 88, 89, 90, 91, 92, 93, 94, 95, 96, 97, 98, 99, 100, 101, 102, 103, 104, 105, 106, 107, 108, 137, 138, 139, 140, 141, 118, 119, 120, 121, 122, 123, 124, 125, 126, 127, 128, 129, 130, 131, 132, 133, 134, 135, 136, 149, 150, 151, 152, 153, 154, 155, 156, 142, 143, 144, 145, 146, 147, 148] (by decide +kernel) (by decide +kernel)
set_option maxRecDepth 20000 in
theorem gX5_readValues_X5_propertyOf : GoodIn wsX5_readValues (wsV RX5 112 RX5 yX5_propertyOf wsX5_propertyOf) := goodIn_app (goodIn_of _ (by decide +kernel)) ggX5_readValues_X5_propertyOf
set_option maxRecDepth 20000 in
theorem ggX5_readValues_X7_advance : GoodIn wsX5_readValues wsX7_advance := goodIn_r _ [112, 36, 113, 38, 37, 114, 10, 115, 116, 8, 117, 142, 143, 144, 145, 146, 147, 148] (by decide +kernel) (by decide +kernel)
set_option maxRecDepth 20000 in
theorem gX5_readValues_X7_advance : GoodIn wsX5_readValues (wsV RX5 39 RX7 yX7_advance wsX7_advance) := goodIn_app (goodIn_of _ (by decide +kernel)) ggX5_readValues_X7_advance
theorem dX5_readValues_0 : decode cX5_readValues 0 = .ok (.iconst 0, 1) := by decide +kernel
theorem dX5_readValues_1 : decode cX5_readValues 1 = .ok (.istore 4, 2) := by decide +kernel
theorem dX5_readValues_3 : decode cX5_readValues 3 = .ok (.iload 4, 2) := by decide +kernel
theorem dX5_readValues_5 : decode cX5_readValues 5 = .ok (.aload_n 1, 1) := by decide +kernel
theorem dX5_readValues_6 : decode cX5_readValues 6 = .ok (.getfield 99, 3) := by decide +kernel
theorem dX5_readValues_9 : decode cX5_readValues 9 = .ok (.if_icmp .ge 68, 3) := by decide +kernel
theorem dX5_readValues_12 : decode cX5_readValues 12 = .ok (.iload 4, 2) := by decide +kernel
theorem dX5_readValues_14 : decode cX5_readValues 14 = .ok (.aload_n 3, 1) := by decide +kernel
theorem dX5_readValues_15 : decode cX5_readValues 15 = .ok (.arraylength, 1) := by decide +kernel
theorem dX5_readValues_16 : decode cX5_readValues 16 = .ok (.if_icmp .ge 61, 3) := by decide +kernel
theorem dX5_readValues_19 : decode cX5_readValues 19 = .ok (.aload_n 0, 1) := by decide +kernel
theorem dX5_readValues_20 : decode cX5_readValues 20 = .ok (.getfield 18, 3) := by decide +kernel
theorem dX5_readValues_23 : decode cX5_readValues 23 = .ok (.ifCond .ne 54, 3) := by decide +kernel
theorem dX5_readValues_26 : decode cX5_readValues 26 = .ok (.aload_n 3, 1) := by decide +kernel
theorem dX5_readValues_27 : decode cX5_readValues 27 = .ok (.iload 4, 2) := by decide +kernel
theorem dX5_readValues_29 : decode cX5_readValues 29 = .ok (.aload_n 0, 1) := by decide +kernel
theorem dX5_readValues_30 : decode cX5_readValues 30 = .ok (.getfield 25, 3) := by decide +kernel
theorem dX5_readValues_33 : decode cX5_readValues 33 = .ok (.invokevirtual 106, 3) := by decide +kernel
theorem dX5_readValues_36 : decode cX5_readValues 36 = .ok (.ifCond .eq 13, 3) := by decide +kernel
theorem dX5_readValues_39 : decode cX5_readValues 39 = .ok (.aload_n 0, 1) := by decide +kernel
theorem dX5_readValues_40 : decode cX5_readValues 40 = .ok (.getfield 25, 3) := by decide +kernel
theorem dX5_readValues_43 : decode cX5_readValues 43 = .ok (.getfield 109, 3) := by decide +kernel
theorem dX5_readValues_46 : decode cX5_readValues 46 = .ok (.goto 11, 3) := by decide +kernel
theorem dX5_readValues_49 : decode cX5_readValues 49 = .ok (.aload_n 0, 1) := by decide +kernel
theorem dX5_readValues_50 : decode cX5_readValues 50 = .ok (.aload_n 1, 1) := by decide +kernel
theorem dX5_readValues_51 : decode cX5_readValues 51 = .ok (.aload_n 2, 1) := by decide +kernel
theorem dX5_readValues_52 : decode cX5_readValues 52 = .ok (.iload 4, 2) := by decide +kernel
theorem dX5_readValues_54 : decode cX5_readValues 54 = .ok (.invokevirtual 112, 3) := by decide +kernel
theorem dX5_readValues_57 : decode cX5_readValues 57 = .ok (.iastore, 1) := by decide +kernel
theorem dX5_readValues_58 : decode cX5_readValues 58 = .ok (.aload_n 3, 1) := by decide +kernel
theorem dX5_readValues_59 : decode cX5_readValues 59 = .ok (.iload 4, 2) := by decide +kernel
theorem dX5_readValues_61 : decode cX5_readValues 61 = .ok (.iaload, 1) := by decide +kernel
theorem dX5_readValues_62 : decode cX5_readValues 62 = .ok (.iconst (-1), 1) := by decide +kernel
theorem dX5_readValues_63 : decode cX5_readValues 63 = .ok (.if_icmp .ne 8, 3) := by decide +kernel
theorem dX5_readValues_66 : decode cX5_readValues 66 = .ok (.aload_n 0, 1) := by decide +kernel
theorem dX5_readValues_67 : decode cX5_readValues 67 = .ok (.iconst 1, 1) := by decide +kernel
theorem dX5_readValues_68 : decode cX5_readValues 68 = .ok (.putfield 18, 3) := by decide +kernel
theorem dX5_readValues_71 : decode cX5_readValues 71 = .ok (.iinc 4 1, 3) := by decide +kernel
theorem dX5_readValues_74 : decode cX5_readValues 74 = .ok (.goto (-71), 3) := by decide +kernel
theorem dX5_readValues_77 : decode cX5_readValues 77 = .ok (.aload_n 0, 1) := by decide +kernel
theorem dX5_readValues_78 : decode cX5_readValues 78 = .ok (.getfield 18, 3) := by decide +kernel
theorem dX5_readValues_81 : decode cX5_readValues 81 = .ok (.ifCond .ne 31, 3) := by decide +kernel
theorem dX5_readValues_84 : decode cX5_readValues 84 = .ok (.aload_n 0, 1) := by decide +kernel
theorem dX5_readValues_85 : decode cX5_readValues 85 = .ok (.getfield 25, 3) := by decide +kernel
theorem dX5_readValues_88 : decode cX5_readValues 88 = .ok (.invokevirtual 106, 3) := by decide +kernel
theorem dX5_readValues_91 : decode cX5_readValues 91 = .ok (.ifCond .eq 21, 3) := by decide +kernel
theorem dX5_readValues_94 : decode cX5_readValues 94 = .ok (.aload_n 0, 1) := by decide +kernel
theorem dX5_readValues_95 : decode cX5_readValues 95 = .ok (.getfield 25, 3) := by decide +kernel
theorem dX5_readValues_98 : decode cX5_readValues 98 = .ok (.getfield 109, 3) := by decide +kernel
theorem dX5_readValues_101 : decode cX5_readValues 101 = .ok (.sipush 9999, 3) := by decide +kernel
theorem dX5_readValues_104 : decode cX5_readValues 104 = .ok (.if_icmp .le 8, 3) := by decide +kernel
theorem dX5_readValues_107 : decode cX5_readValues 107 = .ok (.aload_n 0, 1) := by decide +kernel
theorem dX5_readValues_108 : decode cX5_readValues 108 = .ok (.iconst 2, 1) := by decide +kernel
theorem dX5_readValues_109 : decode cX5_readValues 109 = .ok (.putfield 18, 3) := by decide +kernel
theorem dX5_readValues_112 : decode cX5_readValues 112 = .ok (.aload_n 0, 1) := by decide +kernel
theorem dX5_readValues_113 : decode cX5_readValues 113 = .ok (.getfield 18, 3) := by decide +kernel
theorem dX5_readValues_116 : decode cX5_readValues 116 = .ok (.ifCond .ne 10, 3) := by decide +kernel
theorem dX5_readValues_119 : decode cX5_readValues 119 = .ok (.aload_n 0, 1) := by decide +kernel
theorem dX5_readValues_120 : decode cX5_readValues 120 = .ok (.getfield 25, 3) := by decide +kernel
theorem dX5_readValues_123 : decode cX5_readValues 123 = .ok (.invokevirtual 39, 3) := by decide +kernel
theorem dX5_readValues_126 : decode cX5_readValues 126 = .ok (.return_, 1) := by decide +kernel
set_option maxRecDepth 20000 in
theorem ggX5_propertyOf_X2_hasRoom : GoodIn wsX5_propertyOf wsX2_hasRoom := goodIn_r _ [16, 17, 102, 103, 104, 105, 106, 107, 108, 109, 110, 111, 112, 113, 114, 115, 116, 117, 118, 119, 120] (by decide +kernel) (by decide +kernel)
set_option maxRecDepth 20000 in
theorem gX5_propertyOf_X2_hasRoom : GoodIn wsX5_propertyOf (wsV RX5 115 RX2 yX2_hasRoom wsX2_hasRoom) := goodIn_app (goodIn_of _ (by decide +kernel)) ggX5_propertyOf_X2_hasRoom
set_option maxRecDepth 20000 in
theorem ggX5_propertyOf_X7_isWord : GoodIn wsX5_propertyOf wsX7_isWord := goodIn_r _ [22, 23, 24, 25, 26, 27, 28, 29, 30, 31, 32, 33, 34, 35, 36, 37, 38, 39, 40, 41, 42, 43, 44, 45, 46, 47, 48, 49, 50, 51, 52, 53, 54, 55, 56, 57, 58, 59, 60, 61, 62, 63, 64, 65, 66, 67, 68, 69, 70, 71, 72, 73, 74, 75, 129, 130, 131, 132, 133, 134, 135] (by decide +kernel) (by decide +kernel)
set_option maxRecDepth 20000 in
theorem gX5_propertyOf_X7_isWord : GoodIn wsX5_propertyOf (wsV RX5 31 RX7 yX7_isWord wsX7_isWord) := goodIn_app (goodIn_of _ (by decide +kernel)) ggX5_propertyOf_X7_isWord
set_option maxRecDepth 20000 in
theorem ggX5_propertyOf_X2_countOpenDoorsOf : GoodIn wsX5_propertyOf wsX2_countOpenDoorsOf := goodIn_r _ [79, 80, 81, 82, 83, 102, 103, 104, 105, 106, 107, 108, 109, 110, 111, 112, 113, 114, 115, 116, 117, 118, 119, 120] (by decide +kernel) (by decide +kernel)
set_option maxRecDepth 20000 in
theorem gX5_propertyOf_X2_countOpenDoorsOf : GoodIn wsX5_propertyOf (wsV RX5 123 RX2 yX2_countOpenDoorsOf wsX2_countOpenDoorsOf) := goodIn_app (goodIn_of _ (by decide +kernel)) ggX5_propertyOf_X2_countOpenDoorsOf
set_option maxRecDepth 20000 in
theorem ggX5_propertyOf_X6_isLate : GoodIn wsX5_propertyOf wsX6_isLate := goodIn_r _ [88, 89, 90, 121, 122, 123, 124, 125, 126, 127, 128, 102, 103, 104, 105, 106, 107, 108, 109, 110, 111, 112, 113, 114, 115, 116, 117, 118, 119, 120] (by decide +kernel) (by decide +kernel)
set_option maxRecDepth 20000 in
theorem gX5_propertyOf_X6_isLate : GoodIn wsX5_propertyOf (wsV RX5 148 RX6 yX6_isLate wsX6_isLate) := goodIn_app (goodIn_of _ (by decide +kernel)) ggX5_propertyOf_X6_isLate
set_option maxRecDepth 20000 in
theorem ggX5_propertyOf_X2_countGuardsWalking : GoodIn wsX5_propertyOf wsX2_countGuardsWalking := goodIn_r _ [94, 95, 96, 102, 103, 104, 105, 106, 107, 108, 109, 110, 111, 112, 113, 114, 115, 116, 117, 118, 119, 120] (by decide +kernel) (by decide +kernel)
set_option maxRecDepth 20000 in
theorem gX5_propertyOf_X2_countGuardsWalking : GoodIn wsX5_propertyOf (wsV RX5 158 RX2 yX2_countGuardsWalking wsX2_countGuardsWalking) := goodIn_app (goodIn_of _ (by decide +kernel)) ggX5_propertyOf_X2_countGuardsWalking
theorem dX5_propertyOf_0 : decode cX5_propertyOf 0 = .ok (.aload_n 1, 1) := by decide +kernel
theorem dX5_propertyOf_1 : decode cX5_propertyOf 1 = .ok (.iload_n 3, 1) := by decide +kernel
theorem dX5_propertyOf_2 : decode cX5_propertyOf 2 = .ok (.invokevirtual 115, 3) := by decide +kernel
theorem dX5_propertyOf_5 : decode cX5_propertyOf 5 = .ok (.ifCond .ne 5, 3) := by decide +kernel
theorem dX5_propertyOf_8 : decode cX5_propertyOf 8 = .ok (.iconst (-1), 1) := by decide +kernel
theorem dX5_propertyOf_9 : decode cX5_propertyOf 9 = .ok (.ireturn, 1) := by decide +kernel
theorem dX5_propertyOf_10 : decode cX5_propertyOf 10 = .ok (.aload_n 0, 1) := by decide +kernel
theorem dX5_propertyOf_11 : decode cX5_propertyOf 11 = .ok (.getfield 25, 3) := by decide +kernel
theorem dX5_propertyOf_14 : decode cX5_propertyOf 14 = .ok (.ldc 119, 2) := by decide +kernel
theorem dX5_propertyOf_16 : decode cX5_propertyOf 16 = .ok (.invokevirtual 31, 3) := by decide +kernel
theorem dX5_propertyOf_19 : decode cX5_propertyOf 19 = .ok (.ifCond .eq 5, 3) := by decide +kernel
theorem dX5_propertyOf_22 : decode cX5_propertyOf 22 = .ok (.iload_n 3, 1) := by decide +kernel
theorem dX5_propertyOf_23 : decode cX5_propertyOf 23 = .ok (.ireturn, 1) := by decide +kernel
theorem dX5_propertyOf_24 : decode cX5_propertyOf 24 = .ok (.aload_n 0, 1) := by decide +kernel
theorem dX5_propertyOf_25 : decode cX5_propertyOf 25 = .ok (.getfield 25, 3) := by decide +kernel
theorem dX5_propertyOf_28 : decode cX5_propertyOf 28 = .ok (.ldc 121, 2) := by decide +kernel
theorem dX5_propertyOf_30 : decode cX5_propertyOf 30 = .ok (.invokevirtual 31, 3) := by decide +kernel
theorem dX5_propertyOf_33 : decode cX5_propertyOf 33 = .ok (.ifCond .eq 9, 3) := by decide +kernel
theorem dX5_propertyOf_36 : decode cX5_propertyOf 36 = .ok (.aload_n 1, 1) := by decide +kernel
theorem dX5_propertyOf_37 : decode cX5_propertyOf 37 = .ok (.iload_n 3, 1) := by decide +kernel
theorem dX5_propertyOf_38 : decode cX5_propertyOf 38 = .ok (.invokevirtual 123, 3) := by decide +kernel
theorem dX5_propertyOf_41 : decode cX5_propertyOf 41 = .ok (.ireturn, 1) := by decide +kernel
theorem dX5_propertyOf_42 : decode cX5_propertyOf 42 = .ok (.aload_n 0, 1) := by decide +kernel
theorem dX5_propertyOf_43 : decode cX5_propertyOf 43 = .ok (.getfield 25, 3) := by decide +kernel
theorem dX5_propertyOf_46 : decode cX5_propertyOf 46 = .ok (.ldc 126, 2) := by decide +kernel
theorem dX5_propertyOf_48 : decode cX5_propertyOf 48 = .ok (.invokevirtual 31, 3) := by decide +kernel
theorem dX5_propertyOf_51 : decode cX5_propertyOf 51 = .ok (.ifCond .eq 10, 3) := by decide +kernel
theorem dX5_propertyOf_54 : decode cX5_propertyOf 54 = .ok (.aload_n 1, 1) := by decide +kernel
theorem dX5_propertyOf_55 : decode cX5_propertyOf 55 = .ok (.getfield 128, 3) := by decide +kernel
theorem dX5_propertyOf_58 : decode cX5_propertyOf 58 = .ok (.iload_n 3, 1) := by decide +kernel
theorem dX5_propertyOf_59 : decode cX5_propertyOf 59 = .ok (.iaload, 1) := by decide +kernel
theorem dX5_propertyOf_60 : decode cX5_propertyOf 60 = .ok (.ireturn, 1) := by decide +kernel
theorem dX5_propertyOf_61 : decode cX5_propertyOf 61 = .ok (.aload_n 0, 1) := by decide +kernel
theorem dX5_propertyOf_62 : decode cX5_propertyOf 62 = .ok (.getfield 25, 3) := by decide +kernel
theorem dX5_propertyOf_65 : decode cX5_propertyOf 65 = .ok (.ldc 131, 2) := by decide +kernel
theorem dX5_propertyOf_67 : decode cX5_propertyOf 67 = .ok (.invokevirtual 31, 3) := by decide +kernel
theorem dX5_propertyOf_70 : decode cX5_propertyOf 70 = .ok (.ifCond .eq 14, 3) := by decide +kernel
theorem dX5_propertyOf_73 : decode cX5_propertyOf 73 = .ok (.iconst 0, 1) := by decide +kernel
theorem dX5_propertyOf_74 : decode cX5_propertyOf 74 = .ok (.aload_n 2, 1) := by decide +kernel
theorem dX5_propertyOf_75 : decode cX5_propertyOf 75 = .ok (.getfield 133, 3) := by decide +kernel
theorem dX5_propertyOf_78 : decode cX5_propertyOf 78 = .ok (.iload_n 3, 1) := by decide +kernel
theorem dX5_propertyOf_79 : decode cX5_propertyOf 79 = .ok (.iaload, 1) := by decide +kernel
theorem dX5_propertyOf_80 : decode cX5_propertyOf 80 = .ok (.invokestatic 138, 3) := by decide +kernel
theorem dX5_propertyOf_83 : decode cX5_propertyOf 83 = .ok (.ireturn, 1) := by decide +kernel
theorem dX5_propertyOf_84 : decode cX5_propertyOf 84 = .ok (.aload_n 0, 1) := by decide +kernel
theorem dX5_propertyOf_85 : decode cX5_propertyOf 85 = .ok (.getfield 25, 3) := by decide +kernel
theorem dX5_propertyOf_88 : decode cX5_propertyOf 88 = .ok (.ldc 144, 2) := by decide +kernel
theorem dX5_propertyOf_90 : decode cX5_propertyOf 90 = .ok (.invokevirtual 31, 3) := by decide +kernel
theorem dX5_propertyOf_93 : decode cX5_propertyOf 93 = .ok (.ifCond .eq 19, 3) := by decide +kernel
theorem dX5_propertyOf_96 : decode cX5_propertyOf 96 = .ok (.aload_n 2, 1) := by decide +kernel
theorem dX5_propertyOf_97 : decode cX5_propertyOf 97 = .ok (.getfield 133, 3) := by decide +kernel
theorem dX5_propertyOf_100 : decode cX5_propertyOf 100 = .ok (.iload_n 3, 1) := by decide +kernel
theorem dX5_propertyOf_101 : decode cX5_propertyOf 101 = .ok (.iaload, 1) := by decide +kernel
theorem dX5_propertyOf_102 : decode cX5_propertyOf 102 = .ok (.iconst (-1), 1) := by decide +kernel
theorem dX5_propertyOf_103 : decode cX5_propertyOf 103 = .ok (.if_icmp .ne 7, 3) := by decide +kernel
theorem dX5_propertyOf_106 : decode cX5_propertyOf 106 = .ok (.iconst 1, 1) := by decide +kernel
theorem dX5_propertyOf_107 : decode cX5_propertyOf 107 = .ok (.goto 4, 3) := by decide +kernel
theorem dX5_propertyOf_110 : decode cX5_propertyOf 110 = .ok (.iconst 0, 1) := by decide +kernel
theorem dX5_propertyOf_111 : decode cX5_propertyOf 111 = .ok (.ireturn, 1) := by decide +kernel
theorem dX5_propertyOf_112 : decode cX5_propertyOf 112 = .ok (.aload_n 0, 1) := by decide +kernel
theorem dX5_propertyOf_113 : decode cX5_propertyOf 113 = .ok (.getfield 25, 3) := by decide +kernel
theorem dX5_propertyOf_116 : decode cX5_propertyOf 116 = .ok (.ldc 146, 2) := by decide +kernel
theorem dX5_propertyOf_118 : decode cX5_propertyOf 118 = .ok (.invokevirtual 31, 3) := by decide +kernel
theorem dX5_propertyOf_121 : decode cX5_propertyOf 121 = .ok (.ifCond .eq 18, 3) := by decide +kernel
theorem dX5_propertyOf_124 : decode cX5_propertyOf 124 = .ok (.aload_n 2, 1) := by decide +kernel
theorem dX5_propertyOf_125 : decode cX5_propertyOf 125 = .ok (.aload_n 1, 1) := by decide +kernel
theorem dX5_propertyOf_126 : decode cX5_propertyOf 126 = .ok (.iload_n 3, 1) := by decide +kernel
theorem dX5_propertyOf_127 : decode cX5_propertyOf 127 = .ok (.invokevirtual 148, 3) := by decide +kernel
theorem dX5_propertyOf_130 : decode cX5_propertyOf 130 = .ok (.ifCond .eq 7, 3) := by decide +kernel
theorem dX5_propertyOf_133 : decode cX5_propertyOf 133 = .ok (.iconst 1, 1) := by decide +kernel
theorem dX5_propertyOf_134 : decode cX5_propertyOf 134 = .ok (.goto 4, 3) := by decide +kernel
theorem dX5_propertyOf_137 : decode cX5_propertyOf 137 = .ok (.iconst 0, 1) := by decide +kernel
theorem dX5_propertyOf_138 : decode cX5_propertyOf 138 = .ok (.ireturn, 1) := by decide +kernel
theorem dX5_propertyOf_139 : decode cX5_propertyOf 139 = .ok (.aload_n 0, 1) := by decide +kernel
theorem dX5_propertyOf_140 : decode cX5_propertyOf 140 = .ok (.getfield 25, 3) := by decide +kernel
theorem dX5_propertyOf_143 : decode cX5_propertyOf 143 = .ok (.ldc 152, 2) := by decide +kernel
theorem dX5_propertyOf_145 : decode cX5_propertyOf 145 = .ok (.invokevirtual 31, 3) := by decide +kernel
theorem dX5_propertyOf_148 : decode cX5_propertyOf 148 = .ok (.ifCond .eq 10, 3) := by decide +kernel
theorem dX5_propertyOf_151 : decode cX5_propertyOf 151 = .ok (.aload_n 2, 1) := by decide +kernel
theorem dX5_propertyOf_152 : decode cX5_propertyOf 152 = .ok (.getfield 154, 3) := by decide +kernel
theorem dX5_propertyOf_155 : decode cX5_propertyOf 155 = .ok (.iload_n 3, 1) := by decide +kernel
theorem dX5_propertyOf_156 : decode cX5_propertyOf 156 = .ok (.iaload, 1) := by decide +kernel
theorem dX5_propertyOf_157 : decode cX5_propertyOf 157 = .ok (.ireturn, 1) := by decide +kernel
theorem dX5_propertyOf_158 : decode cX5_propertyOf 158 = .ok (.aload_n 0, 1) := by decide +kernel
theorem dX5_propertyOf_159 : decode cX5_propertyOf 159 = .ok (.getfield 25, 3) := by decide +kernel
theorem dX5_propertyOf_162 : decode cX5_propertyOf 162 = .ok (.ldc 156, 2) := by decide +kernel
theorem dX5_propertyOf_164 : decode cX5_propertyOf 164 = .ok (.invokevirtual 31, 3) := by decide +kernel
theorem dX5_propertyOf_167 : decode cX5_propertyOf 167 = .ok (.ifCond .eq 9, 3) := by decide +kernel
theorem dX5_propertyOf_170 : decode cX5_propertyOf 170 = .ok (.aload_n 1, 1) := by decide +kernel
theorem dX5_propertyOf_171 : decode cX5_propertyOf 171 = .ok (.iload_n 3, 1) := by decide +kernel
theorem dX5_propertyOf_172 : decode cX5_propertyOf 172 = .ok (.invokevirtual 158, 3) := by decide +kernel
theorem dX5_propertyOf_175 : decode cX5_propertyOf 175 = .ok (.ireturn, 1) := by decide +kernel
theorem dX5_propertyOf_176 : decode cX5_propertyOf 176 = .ok (.aload_n 0, 1) := by decide +kernel
theorem dX5_propertyOf_177 : decode cX5_propertyOf 177 = .ok (.getfield 25, 3) := by decide +kernel
theorem dX5_propertyOf_180 : decode cX5_propertyOf 180 = .ok (.ldc 161, 2) := by decide +kernel
theorem dX5_propertyOf_182 : decode cX5_propertyOf 182 = .ok (.invokevirtual 31, 3) := by decide +kernel
theorem dX5_propertyOf_185 : decode cX5_propertyOf 185 = .ok (.ifCond .eq 10, 3) := by decide +kernel
theorem dX5_propertyOf_188 : decode cX5_propertyOf 188 = .ok (.aload_n 1, 1) := by decide +kernel
theorem dX5_propertyOf_189 : decode cX5_propertyOf 189 = .ok (.getfield 163, 3) := by decide +kernel
theorem dX5_propertyOf_192 : decode cX5_propertyOf 192 = .ok (.iload_n 3, 1) := by decide +kernel
theorem dX5_propertyOf_193 : decode cX5_propertyOf 193 = .ok (.iaload, 1) := by decide +kernel
theorem dX5_propertyOf_194 : decode cX5_propertyOf 194 = .ok (.ireturn, 1) := by decide +kernel
theorem dX5_propertyOf_195 : decode cX5_propertyOf 195 = .ok (.aload_n 0, 1) := by decide +kernel
theorem dX5_propertyOf_196 : decode cX5_propertyOf 196 = .ok (.getfield 25, 3) := by decide +kernel
theorem dX5_propertyOf_199 : decode cX5_propertyOf 199 = .ok (.ldc 165, 2) := by decide +kernel
theorem dX5_propertyOf_201 : decode cX5_propertyOf 201 = .ok (.invokevirtual 31, 3) := by decide +kernel
theorem dX5_propertyOf_204 : decode cX5_propertyOf 204 = .ok (.ifCond .eq 10, 3) := by decide +kernel
theorem dX5_propertyOf_207 : decode cX5_propertyOf 207 = .ok (.aload_n 1, 1) := by decide +kernel
theorem dX5_propertyOf_208 : decode cX5_propertyOf 208 = .ok (.getfield 167, 3) := by decide +kernel
theorem dX5_propertyOf_211 : decode cX5_propertyOf 211 = .ok (.iload_n 3, 1) := by decide +kernel
theorem dX5_propertyOf_212 : decode cX5_propertyOf 212 = .ok (.iaload, 1) := by decide +kernel
theorem dX5_propertyOf_213 : decode cX5_propertyOf 213 = .ok (.ireturn, 1) := by decide +kernel
theorem dX5_propertyOf_214 : decode cX5_propertyOf 214 = .ok (.aload_n 0, 1) := by decide +kernel
theorem dX5_propertyOf_215 : decode cX5_propertyOf 215 = .ok (.getfield 25, 3) := by decide +kernel
theorem dX5_propertyOf_218 : decode cX5_propertyOf 218 = .ok (.ldc 170, 2) := by decide +kernel
theorem dX5_propertyOf_220 : decode cX5_propertyOf 220 = .ok (.invokevirtual 31, 3) := by decide +kernel
theorem dX5_propertyOf_223 : decode cX5_propertyOf 223 = .ok (.ifCond .eq 12, 3) := by decide +kernel
theorem dX5_propertyOf_226 : decode cX5_propertyOf 226 = .ok (.aload_n 1, 1) := by decide +kernel
theorem dX5_propertyOf_227 : decode cX5_propertyOf 227 = .ok (.getfield 172, 3) := by decide +kernel
theorem dX5_propertyOf_230 : decode cX5_propertyOf 230 = .ok (.iload_n 3, 1) := by decide +kernel
theorem dX5_propertyOf_231 : decode cX5_propertyOf 231 = .ok (.iaload, 1) := by decide +kernel
theorem dX5_propertyOf_232 : decode cX5_propertyOf 232 = .ok (.goto 4, 3) := by decide +kernel
theorem dX5_propertyOf_235 : decode cX5_propertyOf 235 = .ok (.iconst (-1), 1) := by decide +kernel
theorem dX5_propertyOf_236 : decode cX5_propertyOf 236 = .ok (.ireturn, 1) := by decide +kernel
theorem dX6_init_0 : decode cX6_init 0 = .ok (.aload_n 0, 1) := by decide +kernel
theorem dX6_init_1 : decode cX6_init 1 = .ok (.invokespecial 3, 3) := by decide +kernel
theorem dX6_init_4 : decode cX6_init 4 = .ok (.aload_n 0, 1) := by decide +kernel
theorem dX6_init_5 : decode cX6_init 5 = .ok (.bipush 12, 2) := by decide +kernel
theorem dX6_init_7 : decode cX6_init 7 = .ok (.newarray .int, 2) := by decide +kernel
theorem dX6_init_9 : decode cX6_init 9 = .ok (.putfield 9, 3) := by decide +kernel
theorem dX6_init_12 : decode cX6_init 12 = .ok (.aload_n 0, 1) := by decide +kernel
theorem dX6_init_13 : decode cX6_init 13 = .ok (.bipush 12, 2) := by decide +kernel
theorem dX6_init_15 : decode cX6_init 15 = .ok (.newarray .int, 2) := by decide +kernel
theorem dX6_init_17 : decode cX6_init 17 = .ok (.putfield 15, 3) := by decide +kernel
theorem dX6_init_20 : decode cX6_init 20 = .ok (.aload_n 0, 1) := by decide +kernel
theorem dX6_init_21 : decode cX6_init 21 = .ok (.bipush 12, 2) := by decide +kernel
theorem dX6_init_23 : decode cX6_init 23 = .ok (.newarray .int, 2) := by decide +kernel
theorem dX6_init_25 : decode cX6_init 25 = .ok (.putfield 18, 3) := by decide +kernel
theorem dX6_init_28 : decode cX6_init 28 = .ok (.aload_n 0, 1) := by decide +kernel
theorem dX6_init_29 : decode cX6_init 29 = .ok (.bipush 12, 2) := by decide +kernel
theorem dX6_init_31 : decode cX6_init 31 = .ok (.newarray .int, 2) := by decide +kernel
theorem dX6_init_33 : decode cX6_init 33 = .ok (.putfield 21, 3) := by decide +kernel
theorem dX6_init_36 : decode cX6_init 36 = .ok (.aload_n 0, 1) := by decide +kernel
theorem dX6_init_37 : decode cX6_init 37 = .ok (.bipush 12, 2) := by decide +kernel
theorem dX6_init_39 : decode cX6_init 39 = .ok (.newarray .int, 2) := by decide +kernel
theorem dX6_init_41 : decode cX6_init 41 = .ok (.putfield 24, 3) := by decide +kernel
theorem dX6_init_44 : decode cX6_init 44 = .ok (.aload_n 0, 1) := by decide +kernel
theorem dX6_init_45 : decode cX6_init 45 = .ok (.iconst 4, 1) := by decide +kernel
theorem dX6_init_46 : decode cX6_init 46 = .ok (.newarray .int, 2) := by decide +kernel
theorem dX6_init_48 : decode cX6_init 48 = .ok (.putfield 27, 3) := by decide +kernel
theorem dX6_init_51 : decode cX6_init 51 = .ok (.aload_n 0, 1) := by decide +kernel
theorem dX6_init_52 : decode cX6_init 52 = .ok (.iconst 0, 1) := by decide +kernel
theorem dX6_init_53 : decode cX6_init 53 = .ok (.putfield 30, 3) := by decide +kernel
theorem dX6_init_56 : decode cX6_init 56 = .ok (.aload_n 0, 1) := by decide +kernel
theorem dX6_init_57 : decode cX6_init 57 = .ok (.iconst (-1), 1) := by decide +kernel
theorem dX6_init_58 : decode cX6_init 58 = .ok (.putfield 34, 3) := by decide +kernel
theorem dX6_init_61 : decode cX6_init 61 = .ok (.return_, 1) := by decide +kernel
set_option maxRecDepth 20000 in
theorem ggX6_measure_J7_fill_53178 : GoodIn wsX6_measure wsJ7_fill_53178 := goodIn_r _ [23] (by decide +kernel) (by decide +kernel)
set_option maxRecDepth 20000 in
theorem gX6_measure_J7_fill_53178 : GoodIn wsX6_measure (va_wsS RX6 37 yJ7_fill_53178 wsJ7_fill_53178) := goodIn_app (goodIn_of _ (by decide +kernel)) ggX6_measure_J7_fill_53178
set_option maxRecDepth 20000 in
theorem ggX6_measure_X2_cycleLength : GoodIn wsX6_measure wsX2_cycleLength := goodIn_r _ [28, 29, 30, 31, 32, 33, 66, 67, 68, 69, 70, 71, 72, 73, 74, 75, 76, 77, 78, 79, 80, 81, 82, 83, 84] (by decide +kernel) (by decide +kernel)
set_option maxRecDepth 20000 in
theorem gX6_measure_X2_cycleLength : GoodIn wsX6_measure (wsV RX6 54 RX2 yX2_cycleLength wsX2_cycleLength) := goodIn_app (goodIn_of _ (by decide +kernel)) ggX6_measure_X2_cycleLength
set_option maxRecDepth 20000 in
theorem ggX6_measure_X6_seeMinute : GoodIn wsX6_measure wsX6_seeMinute := goodIn_r _ [38, 39, 7, 40, 41, 42, 43, 27, 44, 30, 45, 46, 47, 48, 49, 29, 50, 51, 52, 37, 53, 5, 4, 2, 3, 1, 66, 67, 68, 69, 70, 71, 72, 73, 74, 75, 76, 77, 78, 79, 80, 81, 82, 83, 84, 58, 59, 60, 61, 62, 63, 64, 65] (by decide +kernel) (by decide +kernel)
set_option maxRecDepth 20000 in
theorem gX6_measure_X6_seeMinute : GoodIn wsX6_measure (wsV RX6 58 RX6 yX6_seeMinute wsX6_seeMinute) := goodIn_app (goodIn_of _ (by decide +kernel)) ggX6_measure_X6_seeMinute
set_option maxRecDepth 20000 in
theorem ggX6_measure_X6_closeRound : GoodIn wsX6_measure wsX6_closeRound := goodIn_r _ [57, 5, 2, 4, 3, 58, 59, 60, 61, 62, 63, 64, 65] (by decide +kernel) (by decide +kernel)
set_option maxRecDepth 20000 in
theorem gX6_measure_X6_closeRound : GoodIn wsX6_measure (wsV RX6 65 RX6 yX6_closeRound wsX6_closeRound) := goodIn_app (goodIn_of _ (by decide +kernel)) ggX6_measure_X6_closeRound
theorem dX6_measure_0 : decode cX6_measure 0 = .ok (.aload_n 0, 1) := by decide +kernel
theorem dX6_measure_1 : decode cX6_measure 1 = .ok (.getfield 9, 3) := by decide +kernel
theorem dX6_measure_4 : decode cX6_measure 4 = .ok (.iconst 0, 1) := by decide +kernel
theorem dX6_measure_5 : decode cX6_measure 5 = .ok (.invokestatic 37, 3) := by decide +kernel
theorem dX6_measure_8 : decode cX6_measure 8 = .ok (.aload_n 0, 1) := by decide +kernel
theorem dX6_measure_9 : decode cX6_measure 9 = .ok (.getfield 15, 3) := by decide +kernel
theorem dX6_measure_12 : decode cX6_measure 12 = .ok (.iconst 0, 1) := by decide +kernel
theorem dX6_measure_13 : decode cX6_measure 13 = .ok (.invokestatic 37, 3) := by decide +kernel
theorem dX6_measure_16 : decode cX6_measure 16 = .ok (.aload_n 0, 1) := by decide +kernel
theorem dX6_measure_17 : decode cX6_measure 17 = .ok (.getfield 18, 3) := by decide +kernel
theorem dX6_measure_20 : decode cX6_measure 20 = .ok (.iconst (-1), 1) := by decide +kernel
theorem dX6_measure_21 : decode cX6_measure 21 = .ok (.invokestatic 37, 3) := by decide +kernel
theorem dX6_measure_24 : decode cX6_measure 24 = .ok (.aload_n 0, 1) := by decide +kernel
theorem dX6_measure_25 : decode cX6_measure 25 = .ok (.getfield 21, 3) := by decide +kernel
theorem dX6_measure_28 : decode cX6_measure 28 = .ok (.iconst (-1), 1) := by decide +kernel
theorem dX6_measure_29 : decode cX6_measure 29 = .ok (.invokestatic 37, 3) := by decide +kernel
theorem dX6_measure_32 : decode cX6_measure 32 = .ok (.aload_n 0, 1) := by decide +kernel
theorem dX6_measure_33 : decode cX6_measure 33 = .ok (.getfield 24, 3) := by decide +kernel
theorem dX6_measure_36 : decode cX6_measure 36 = .ok (.iconst (-1), 1) := by decide +kernel
theorem dX6_measure_37 : decode cX6_measure 37 = .ok (.invokestatic 37, 3) := by decide +kernel
theorem dX6_measure_40 : decode cX6_measure 40 = .ok (.aload_n 1, 1) := by decide +kernel
theorem dX6_measure_41 : decode cX6_measure 41 = .ok (.getfield 43, 3) := by decide +kernel
theorem dX6_measure_44 : decode cX6_measure 44 = .ok (.iconst 0, 1) := by decide +kernel
theorem dX6_measure_45 : decode cX6_measure 45 = .ok (.aload_n 0, 1) := by decide +kernel
theorem dX6_measure_46 : decode cX6_measure 46 = .ok (.getfield 27, 3) := by decide +kernel
theorem dX6_measure_49 : decode cX6_measure 49 = .ok (.iconst 0, 1) := by decide +kernel
theorem dX6_measure_50 : decode cX6_measure 50 = .ok (.iconst 4, 1) := by decide +kernel
theorem dX6_measure_51 : decode cX6_measure 51 = .ok (.invokestatic 48, 3) := by decide +kernel
theorem dX6_measure_54 : decode cX6_measure 54 = .ok (.aload_n 1, 1) := by decide +kernel
theorem dX6_measure_55 : decode cX6_measure 55 = .ok (.invokevirtual 54, 3) := by decide +kernel
theorem dX6_measure_58 : decode cX6_measure 58 = .ok (.istore_n 2, 1) := by decide +kernel
theorem dX6_measure_59 : decode cX6_measure 59 = .ok (.iconst 0, 1) := by decide +kernel
theorem dX6_measure_60 : decode cX6_measure 60 = .ok (.istore_n 3, 1) := by decide +kernel
theorem dX6_measure_61 : decode cX6_measure 61 = .ok (.iload_n 3, 1) := by decide +kernel
theorem dX6_measure_62 : decode cX6_measure 62 = .ok (.iload_n 2, 1) := by decide +kernel
theorem dX6_measure_63 : decode cX6_measure 63 = .ok (.if_icmp .ge 15, 3) := by decide +kernel
theorem dX6_measure_66 : decode cX6_measure 66 = .ok (.aload_n 0, 1) := by decide +kernel
theorem dX6_measure_67 : decode cX6_measure 67 = .ok (.aload_n 1, 1) := by decide +kernel
theorem dX6_measure_68 : decode cX6_measure 68 = .ok (.iload_n 3, 1) := by decide +kernel
theorem dX6_measure_69 : decode cX6_measure 69 = .ok (.invokevirtual 58, 3) := by decide +kernel
theorem dX6_measure_72 : decode cX6_measure 72 = .ok (.iinc 3 1, 3) := by decide +kernel
theorem dX6_measure_75 : decode cX6_measure 75 = .ok (.goto (-14), 3) := by decide +kernel
theorem dX6_measure_78 : decode cX6_measure 78 = .ok (.aload_n 0, 1) := by decide +kernel
theorem dX6_measure_79 : decode cX6_measure 79 = .ok (.iconst 0, 1) := by decide +kernel
theorem dX6_measure_80 : decode cX6_measure 80 = .ok (.putfield 30, 3) := by decide +kernel
theorem dX6_measure_83 : decode cX6_measure 83 = .ok (.iconst 0, 1) := by decide +kernel
theorem dX6_measure_84 : decode cX6_measure 84 = .ok (.istore_n 3, 1) := by decide +kernel
theorem dX6_measure_85 : decode cX6_measure 85 = .ok (.iload_n 3, 1) := by decide +kernel
theorem dX6_measure_86 : decode cX6_measure 86 = .ok (.aload_n 1, 1) := by decide +kernel
theorem dX6_measure_87 : decode cX6_measure 87 = .ok (.getfield 62, 3) := by decide +kernel
theorem dX6_measure_90 : decode cX6_measure 90 = .ok (.if_icmp .ge 38, 3) := by decide +kernel
theorem dX6_measure_93 : decode cX6_measure 93 = .ok (.iload_n 3, 1) := by decide +kernel
theorem dX6_measure_94 : decode cX6_measure 94 = .ok (.bipush 12, 2) := by decide +kernel
theorem dX6_measure_96 : decode cX6_measure 96 = .ok (.if_icmp .ge 32, 3) := by decide +kernel
theorem dX6_measure_99 : decode cX6_measure 99 = .ok (.aload_n 0, 1) := by decide +kernel
theorem dX6_measure_100 : decode cX6_measure 100 = .ok (.iload_n 3, 1) := by decide +kernel
theorem dX6_measure_101 : decode cX6_measure 101 = .ok (.iload_n 2, 1) := by decide +kernel
theorem dX6_measure_102 : decode cX6_measure 102 = .ok (.invokevirtual 65, 3) := by decide +kernel
theorem dX6_measure_105 : decode cX6_measure 105 = .ok (.aload_n 0, 1) := by decide +kernel
theorem dX6_measure_106 : decode cX6_measure 106 = .ok (.aload_n 0, 1) := by decide +kernel
theorem dX6_measure_107 : decode cX6_measure 107 = .ok (.getfield 30, 3) := by decide +kernel
theorem dX6_measure_110 : decode cX6_measure 110 = .ok (.aload_n 0, 1) := by decide +kernel
theorem dX6_measure_111 : decode cX6_measure 111 = .ok (.getfield 15, 3) := by decide +kernel
theorem dX6_measure_114 : decode cX6_measure 114 = .ok (.iload_n 3, 1) := by decide +kernel
theorem dX6_measure_115 : decode cX6_measure 115 = .ok (.iaload, 1) := by decide +kernel
theorem dX6_measure_116 : decode cX6_measure 116 = .ok (.invokestatic 69, 3) := by decide +kernel
theorem dX6_measure_119 : decode cX6_measure 119 = .ok (.putfield 30, 3) := by decide +kernel
theorem dX6_measure_122 : decode cX6_measure 122 = .ok (.iinc 3 1, 3) := by decide +kernel
theorem dX6_measure_125 : decode cX6_measure 125 = .ok (.goto (-40), 3) := by decide +kernel
theorem dX6_measure_128 : decode cX6_measure 128 = .ok (.aload_n 0, 1) := by decide +kernel
theorem dX6_measure_129 : decode cX6_measure 129 = .ok (.aload_n 1, 1) := by decide +kernel
theorem dX6_measure_130 : decode cX6_measure 130 = .ok (.getfield 75, 3) := by decide +kernel
theorem dX6_measure_133 : decode cX6_measure 133 = .ok (.putfield 34, 3) := by decide +kernel
theorem dX6_measure_136 : decode cX6_measure 136 = .ok (.return_, 1) := by decide +kernel
set_option maxRecDepth 20000 in
theorem ggX6_seeMinute_X2_walkRoom : GoodIn wsX6_seeMinute wsX2_walkRoom := goodIn_r _ [8, 9, 10, 11, 12, 13, 7, 14, 15, 26, 27, 28, 29, 30, 31, 32, 33, 34, 35, 36, 37, 38, 39, 40, 41, 42, 43, 44] (by decide +kernel) (by decide +kernel)
set_option maxRecDepth 20000 in
theorem gX6_seeMinute_X2_walkRoom : GoodIn wsX6_seeMinute (wsV RX6 81 RX2 yX2_walkRoom wsX2_walkRoom) := goodIn_app (goodIn_of _ (by decide +kernel)) ggX6_seeMinute_X2_walkRoom
set_option maxRecDepth 20000 in
theorem ggX6_seeMinute_X6_seeRoom : GoodIn wsX6_seeMinute wsX6_seeRoom := goodIn_r _ [20, 21, 22, 23, 24, 25, 45, 46, 47, 48, 49, 50, 51, 52] (by decide +kernel) (by decide +kernel)
set_option maxRecDepth 20000 in
theorem gX6_seeMinute_X6_seeRoom : GoodIn wsX6_seeMinute (wsV RX6 84 RX6 yX6_seeRoom wsX6_seeRoom) := goodIn_app (goodIn_of _ (by decide +kernel)) ggX6_seeMinute_X6_seeRoom
theorem dX6_seeMinute_0 : decode cX6_seeMinute 0 = .ok (.iconst 0, 1) := by decide +kernel
theorem dX6_seeMinute_1 : decode cX6_seeMinute 1 = .ok (.istore_n 3, 1) := by decide +kernel
theorem dX6_seeMinute_2 : decode cX6_seeMinute 2 = .ok (.iload_n 3, 1) := by decide +kernel
theorem dX6_seeMinute_3 : decode cX6_seeMinute 3 = .ok (.aload_n 1, 1) := by decide +kernel
theorem dX6_seeMinute_4 : decode cX6_seeMinute 4 = .ok (.getfield 78, 3) := by decide +kernel
theorem dX6_seeMinute_7 : decode cX6_seeMinute 7 = .ok (.if_icmp .ge 62, 3) := by decide +kernel
theorem dX6_seeMinute_10 : decode cX6_seeMinute 10 = .ok (.iload_n 3, 1) := by decide +kernel
theorem dX6_seeMinute_11 : decode cX6_seeMinute 11 = .ok (.iconst 4, 1) := by decide +kernel
theorem dX6_seeMinute_12 : decode cX6_seeMinute 12 = .ok (.if_icmp .ge 57, 3) := by decide +kernel
theorem dX6_seeMinute_15 : decode cX6_seeMinute 15 = .ok (.aload_n 0, 1) := by decide +kernel
theorem dX6_seeMinute_16 : decode cX6_seeMinute 16 = .ok (.aload_n 1, 1) := by decide +kernel
theorem dX6_seeMinute_17 : decode cX6_seeMinute 17 = .ok (.iload_n 3, 1) := by decide +kernel
theorem dX6_seeMinute_18 : decode cX6_seeMinute 18 = .ok (.aload_n 0, 1) := by decide +kernel
theorem dX6_seeMinute_19 : decode cX6_seeMinute 19 = .ok (.getfield 27, 3) := by decide +kernel
theorem dX6_seeMinute_22 : decode cX6_seeMinute 22 = .ok (.iload_n 3, 1) := by decide +kernel
theorem dX6_seeMinute_23 : decode cX6_seeMinute 23 = .ok (.iaload, 1) := by decide +kernel
theorem dX6_seeMinute_24 : decode cX6_seeMinute 24 = .ok (.invokevirtual 81, 3) := by decide +kernel
theorem dX6_seeMinute_27 : decode cX6_seeMinute 27 = .ok (.iload_n 2, 1) := by decide +kernel
theorem dX6_seeMinute_28 : decode cX6_seeMinute 28 = .ok (.invokevirtual 84, 3) := by decide +kernel
theorem dX6_seeMinute_31 : decode cX6_seeMinute 31 = .ok (.aload_n 0, 1) := by decide +kernel
theorem dX6_seeMinute_32 : decode cX6_seeMinute 32 = .ok (.getfield 27, 3) := by decide +kernel
theorem dX6_seeMinute_35 : decode cX6_seeMinute 35 = .ok (.iload_n 3, 1) := by decide +kernel
theorem dX6_seeMinute_36 : decode cX6_seeMinute 36 = .ok (.dup2, 1) := by decide +kernel
theorem dX6_seeMinute_37 : decode cX6_seeMinute 37 = .ok (.iaload, 1) := by decide +kernel
theorem dX6_seeMinute_38 : decode cX6_seeMinute 38 = .ok (.iconst 1, 1) := by decide +kernel
theorem dX6_seeMinute_39 : decode cX6_seeMinute 39 = .ok (.iadd, 1) := by decide +kernel
theorem dX6_seeMinute_40 : decode cX6_seeMinute 40 = .ok (.iastore, 1) := by decide +kernel
theorem dX6_seeMinute_41 : decode cX6_seeMinute 41 = .ok (.aload_n 0, 1) := by decide +kernel
theorem dX6_seeMinute_42 : decode cX6_seeMinute 42 = .ok (.getfield 27, 3) := by decide +kernel
theorem dX6_seeMinute_45 : decode cX6_seeMinute 45 = .ok (.iload_n 3, 1) := by decide +kernel
theorem dX6_seeMinute_46 : decode cX6_seeMinute 46 = .ok (.iaload, 1) := by decide +kernel
theorem dX6_seeMinute_47 : decode cX6_seeMinute 47 = .ok (.aload_n 1, 1) := by decide +kernel
theorem dX6_seeMinute_48 : decode cX6_seeMinute 48 = .ok (.getfield 87, 3) := by decide +kernel
theorem dX6_seeMinute_51 : decode cX6_seeMinute 51 = .ok (.iload_n 3, 1) := by decide +kernel
theorem dX6_seeMinute_52 : decode cX6_seeMinute 52 = .ok (.iaload, 1) := by decide +kernel
theorem dX6_seeMinute_53 : decode cX6_seeMinute 53 = .ok (.if_icmp .lt 10, 3) := by decide +kernel
theorem dX6_seeMinute_56 : decode cX6_seeMinute 56 = .ok (.aload_n 0, 1) := by decide +kernel
theorem dX6_seeMinute_57 : decode cX6_seeMinute 57 = .ok (.getfield 27, 3) := by decide +kernel
theorem dX6_seeMinute_60 : decode cX6_seeMinute 60 = .ok (.iload_n 3, 1) := by decide +kernel
theorem dX6_seeMinute_61 : decode cX6_seeMinute 61 = .ok (.iconst 0, 1) := by decide +kernel
theorem dX6_seeMinute_62 : decode cX6_seeMinute 62 = .ok (.iastore, 1) := by decide +kernel
theorem dX6_seeMinute_63 : decode cX6_seeMinute 63 = .ok (.iinc 3 1, 3) := by decide +kernel
theorem dX6_seeMinute_66 : decode cX6_seeMinute 66 = .ok (.goto (-64), 3) := by decide +kernel
theorem dX6_seeMinute_69 : decode cX6_seeMinute 69 = .ok (.return_, 1) := by decide +kernel
theorem dX6_seeRoom_0 : decode cX6_seeRoom 0 = .ok (.iload_n 1, 1) := by decide +kernel
theorem dX6_seeRoom_1 : decode cX6_seeRoom 1 = .ok (.ifCond .lt 19, 3) := by decide +kernel
theorem dX6_seeRoom_4 : decode cX6_seeRoom 4 = .ok (.iload_n 1, 1) := by decide +kernel
theorem dX6_seeRoom_5 : decode cX6_seeRoom 5 = .ok (.bipush 12, 2) := by decide +kernel
theorem dX6_seeRoom_7 : decode cX6_seeRoom 7 = .ok (.if_icmp .ge 13, 3) := by decide +kernel
theorem dX6_seeRoom_10 : decode cX6_seeRoom 10 = .ok (.aload_n 0, 1) := by decide +kernel
theorem dX6_seeRoom_11 : decode cX6_seeRoom 11 = .ok (.getfield 24, 3) := by decide +kernel
theorem dX6_seeRoom_14 : decode cX6_seeRoom 14 = .ok (.iload_n 1, 1) := by decide +kernel
theorem dX6_seeRoom_15 : decode cX6_seeRoom 15 = .ok (.iaload, 1) := by decide +kernel
theorem dX6_seeRoom_16 : decode cX6_seeRoom 16 = .ok (.iload_n 2, 1) := by decide +kernel
theorem dX6_seeRoom_17 : decode cX6_seeRoom 17 = .ok (.if_icmp .ne 4, 3) := by decide +kernel
theorem dX6_seeRoom_20 : decode cX6_seeRoom 20 = .ok (.return_, 1) := by decide +kernel
theorem dX6_seeRoom_21 : decode cX6_seeRoom 21 = .ok (.aload_n 0, 1) := by decide +kernel
theorem dX6_seeRoom_22 : decode cX6_seeRoom 22 = .ok (.getfield 24, 3) := by decide +kernel
theorem dX6_seeRoom_25 : decode cX6_seeRoom 25 = .ok (.iload_n 1, 1) := by decide +kernel
theorem dX6_seeRoom_26 : decode cX6_seeRoom 26 = .ok (.iaload, 1) := by decide +kernel
theorem dX6_seeRoom_27 : decode cX6_seeRoom 27 = .ok (.iconst (-1), 1) := by decide +kernel
theorem dX6_seeRoom_28 : decode cX6_seeRoom 28 = .ok (.if_icmp .ne 13, 3) := by decide +kernel
theorem dX6_seeRoom_31 : decode cX6_seeRoom 31 = .ok (.aload_n 0, 1) := by decide +kernel
theorem dX6_seeRoom_32 : decode cX6_seeRoom 32 = .ok (.getfield 21, 3) := by decide +kernel
theorem dX6_seeRoom_35 : decode cX6_seeRoom 35 = .ok (.iload_n 1, 1) := by decide +kernel
theorem dX6_seeRoom_36 : decode cX6_seeRoom 36 = .ok (.iload_n 2, 1) := by decide +kernel
theorem dX6_seeRoom_37 : decode cX6_seeRoom 37 = .ok (.iastore, 1) := by decide +kernel
theorem dX6_seeRoom_38 : decode cX6_seeRoom 38 = .ok (.goto 52, 3) := by decide +kernel
theorem dX6_seeRoom_41 : decode cX6_seeRoom 41 = .ok (.iload_n 2, 1) := by decide +kernel
theorem dX6_seeRoom_42 : decode cX6_seeRoom 42 = .ok (.aload_n 0, 1) := by decide +kernel
theorem dX6_seeRoom_43 : decode cX6_seeRoom 43 = .ok (.getfield 24, 3) := by decide +kernel
theorem dX6_seeRoom_46 : decode cX6_seeRoom 46 = .ok (.iload_n 1, 1) := by decide +kernel
theorem dX6_seeRoom_47 : decode cX6_seeRoom 47 = .ok (.iaload, 1) := by decide +kernel
theorem dX6_seeRoom_48 : decode cX6_seeRoom 48 = .ok (.isub, 1) := by decide +kernel
theorem dX6_seeRoom_49 : decode cX6_seeRoom 49 = .ok (.iconst 1, 1) := by decide +kernel
theorem dX6_seeRoom_50 : decode cX6_seeRoom 50 = .ok (.isub, 1) := by decide +kernel
theorem dX6_seeRoom_51 : decode cX6_seeRoom 51 = .ok (.aload_n 0, 1) := by decide +kernel
theorem dX6_seeRoom_52 : decode cX6_seeRoom 52 = .ok (.getfield 15, 3) := by decide +kernel
theorem dX6_seeRoom_55 : decode cX6_seeRoom 55 = .ok (.iload_n 1, 1) := by decide +kernel
theorem dX6_seeRoom_56 : decode cX6_seeRoom 56 = .ok (.iaload, 1) := by decide +kernel
theorem dX6_seeRoom_57 : decode cX6_seeRoom 57 = .ok (.if_icmp .le 33, 3) := by decide +kernel
theorem dX6_seeRoom_60 : decode cX6_seeRoom 60 = .ok (.aload_n 0, 1) := by decide +kernel
theorem dX6_seeRoom_61 : decode cX6_seeRoom 61 = .ok (.getfield 15, 3) := by decide +kernel
theorem dX6_seeRoom_64 : decode cX6_seeRoom 64 = .ok (.iload_n 1, 1) := by decide +kernel
theorem dX6_seeRoom_65 : decode cX6_seeRoom 65 = .ok (.iload_n 2, 1) := by decide +kernel
theorem dX6_seeRoom_66 : decode cX6_seeRoom 66 = .ok (.aload_n 0, 1) := by decide +kernel
theorem dX6_seeRoom_67 : decode cX6_seeRoom 67 = .ok (.getfield 24, 3) := by decide +kernel
theorem dX6_seeRoom_70 : decode cX6_seeRoom 70 = .ok (.iload_n 1, 1) := by decide +kernel
theorem dX6_seeRoom_71 : decode cX6_seeRoom 71 = .ok (.iaload, 1) := by decide +kernel
theorem dX6_seeRoom_72 : decode cX6_seeRoom 72 = .ok (.isub, 1) := by decide +kernel
theorem dX6_seeRoom_73 : decode cX6_seeRoom 73 = .ok (.iconst 1, 1) := by decide +kernel
theorem dX6_seeRoom_74 : decode cX6_seeRoom 74 = .ok (.isub, 1) := by decide +kernel
theorem dX6_seeRoom_75 : decode cX6_seeRoom 75 = .ok (.iastore, 1) := by decide +kernel
theorem dX6_seeRoom_76 : decode cX6_seeRoom 76 = .ok (.aload_n 0, 1) := by decide +kernel
theorem dX6_seeRoom_77 : decode cX6_seeRoom 77 = .ok (.getfield 18, 3) := by decide +kernel
theorem dX6_seeRoom_80 : decode cX6_seeRoom 80 = .ok (.iload_n 1, 1) := by decide +kernel
theorem dX6_seeRoom_81 : decode cX6_seeRoom 81 = .ok (.aload_n 0, 1) := by decide +kernel
theorem dX6_seeRoom_82 : decode cX6_seeRoom 82 = .ok (.getfield 24, 3) := by decide +kernel
theorem dX6_seeRoom_85 : decode cX6_seeRoom 85 = .ok (.iload_n 1, 1) := by decide +kernel
theorem dX6_seeRoom_86 : decode cX6_seeRoom 86 = .ok (.iaload, 1) := by decide +kernel
theorem dX6_seeRoom_87 : decode cX6_seeRoom 87 = .ok (.iconst 1, 1) := by decide +kernel
theorem dX6_seeRoom_88 : decode cX6_seeRoom 88 = .ok (.iadd, 1) := by decide +kernel
theorem dX6_seeRoom_89 : decode cX6_seeRoom 89 = .ok (.iastore, 1) := by decide +kernel
theorem dX6_seeRoom_90 : decode cX6_seeRoom 90 = .ok (.aload_n 0, 1) := by decide +kernel
theorem dX6_seeRoom_91 : decode cX6_seeRoom 91 = .ok (.getfield 24, 3) := by decide +kernel
theorem dX6_seeRoom_94 : decode cX6_seeRoom 94 = .ok (.iload_n 1, 1) := by decide +kernel
theorem dX6_seeRoom_95 : decode cX6_seeRoom 95 = .ok (.iload_n 2, 1) := by decide +kernel
theorem dX6_seeRoom_96 : decode cX6_seeRoom 96 = .ok (.iastore, 1) := by decide +kernel
theorem dX6_seeRoom_97 : decode cX6_seeRoom 97 = .ok (.aload_n 0, 1) := by decide +kernel
theorem dX6_seeRoom_98 : decode cX6_seeRoom 98 = .ok (.getfield 9, 3) := by decide +kernel
theorem dX6_seeRoom_101 : decode cX6_seeRoom 101 = .ok (.iload_n 1, 1) := by decide +kernel
theorem dX6_seeRoom_102 : decode cX6_seeRoom 102 = .ok (.dup2, 1) := by decide +kernel
theorem dX6_seeRoom_103 : decode cX6_seeRoom 103 = .ok (.iaload, 1) := by decide +kernel
theorem dX6_seeRoom_104 : decode cX6_seeRoom 104 = .ok (.iconst 1, 1) := by decide +kernel
theorem dX6_seeRoom_105 : decode cX6_seeRoom 105 = .ok (.iadd, 1) := by decide +kernel
theorem dX6_seeRoom_106 : decode cX6_seeRoom 106 = .ok (.iastore, 1) := by decide +kernel
theorem dX6_seeRoom_107 : decode cX6_seeRoom 107 = .ok (.return_, 1) := by decide +kernel
theorem dX6_closeRound_0 : decode cX6_closeRound 0 = .ok (.iload_n 1, 1) := by decide +kernel
theorem dX6_closeRound_1 : decode cX6_closeRound 1 = .ok (.ifCond .lt 9, 3) := by decide +kernel
theorem dX6_closeRound_4 : decode cX6_closeRound 4 = .ok (.iload_n 1, 1) := by decide +kernel
theorem dX6_closeRound_5 : decode cX6_closeRound 5 = .ok (.bipush 12, 2) := by decide +kernel
theorem dX6_closeRound_7 : decode cX6_closeRound 7 = .ok (.if_icmp .lt 4, 3) := by decide +kernel
theorem dX6_closeRound_10 : decode cX6_closeRound 10 = .ok (.return_, 1) := by decide +kernel
theorem dX6_closeRound_11 : decode cX6_closeRound 11 = .ok (.aload_n 0, 1) := by decide +kernel
theorem dX6_closeRound_12 : decode cX6_closeRound 12 = .ok (.getfield 24, 3) := by decide +kernel
theorem dX6_closeRound_15 : decode cX6_closeRound 15 = .ok (.iload_n 1, 1) := by decide +kernel
theorem dX6_closeRound_16 : decode cX6_closeRound 16 = .ok (.iaload, 1) := by decide +kernel
theorem dX6_closeRound_17 : decode cX6_closeRound 17 = .ok (.iconst (-1), 1) := by decide +kernel
theorem dX6_closeRound_18 : decode cX6_closeRound 18 = .ok (.if_icmp .ne 11, 3) := by decide +kernel
theorem dX6_closeRound_21 : decode cX6_closeRound 21 = .ok (.aload_n 0, 1) := by decide +kernel
theorem dX6_closeRound_22 : decode cX6_closeRound 22 = .ok (.getfield 15, 3) := by decide +kernel
theorem dX6_closeRound_25 : decode cX6_closeRound 25 = .ok (.iload_n 1, 1) := by decide +kernel
theorem dX6_closeRound_26 : decode cX6_closeRound 26 = .ok (.iconst (-1), 1) := by decide +kernel
theorem dX6_closeRound_27 : decode cX6_closeRound 27 = .ok (.iastore, 1) := by decide +kernel
theorem dX6_closeRound_28 : decode cX6_closeRound 28 = .ok (.return_, 1) := by decide +kernel
theorem dX6_closeRound_29 : decode cX6_closeRound 29 = .ok (.aload_n 0, 1) := by decide +kernel
theorem dX6_closeRound_30 : decode cX6_closeRound 30 = .ok (.getfield 21, 3) := by decide +kernel
theorem dX6_closeRound_33 : decode cX6_closeRound 33 = .ok (.iload_n 1, 1) := by decide +kernel
theorem dX6_closeRound_34 : decode cX6_closeRound 34 = .ok (.iaload, 1) := by decide +kernel
theorem dX6_closeRound_35 : decode cX6_closeRound 35 = .ok (.iload_n 2, 1) := by decide +kernel
theorem dX6_closeRound_36 : decode cX6_closeRound 36 = .ok (.iadd, 1) := by decide +kernel
theorem dX6_closeRound_37 : decode cX6_closeRound 37 = .ok (.aload_n 0, 1) := by decide +kernel
theorem dX6_closeRound_38 : decode cX6_closeRound 38 = .ok (.getfield 24, 3) := by decide +kernel
theorem dX6_closeRound_41 : decode cX6_closeRound 41 = .ok (.iload_n 1, 1) := by decide +kernel
theorem dX6_closeRound_42 : decode cX6_closeRound 42 = .ok (.iaload, 1) := by decide +kernel
theorem dX6_closeRound_43 : decode cX6_closeRound 43 = .ok (.isub, 1) := by decide +kernel
theorem dX6_closeRound_44 : decode cX6_closeRound 44 = .ok (.iconst 1, 1) := by decide +kernel
theorem dX6_closeRound_45 : decode cX6_closeRound 45 = .ok (.isub, 1) := by decide +kernel
theorem dX6_closeRound_46 : decode cX6_closeRound 46 = .ok (.istore_n 3, 1) := by decide +kernel
theorem dX6_closeRound_47 : decode cX6_closeRound 47 = .ok (.aload_n 0, 1) := by decide +kernel
theorem dX6_closeRound_48 : decode cX6_closeRound 48 = .ok (.getfield 24, 3) := by decide +kernel
theorem dX6_closeRound_51 : decode cX6_closeRound 51 = .ok (.iload_n 1, 1) := by decide +kernel
theorem dX6_closeRound_52 : decode cX6_closeRound 52 = .ok (.iaload, 1) := by decide +kernel
theorem dX6_closeRound_53 : decode cX6_closeRound 53 = .ok (.iconst 1, 1) := by decide +kernel
theorem dX6_closeRound_54 : decode cX6_closeRound 54 = .ok (.iadd, 1) := by decide +kernel
theorem dX6_closeRound_55 : decode cX6_closeRound 55 = .ok (.iload_n 2, 1) := by decide +kernel
theorem dX6_closeRound_56 : decode cX6_closeRound 56 = .ok (.if_icmp .ge 14, 3) := by decide +kernel
theorem dX6_closeRound_59 : decode cX6_closeRound 59 = .ok (.aload_n 0, 1) := by decide +kernel
theorem dX6_closeRound_60 : decode cX6_closeRound 60 = .ok (.getfield 24, 3) := by decide +kernel
theorem dX6_closeRound_63 : decode cX6_closeRound 63 = .ok (.iload_n 1, 1) := by decide +kernel
theorem dX6_closeRound_64 : decode cX6_closeRound 64 = .ok (.iaload, 1) := by decide +kernel
theorem dX6_closeRound_65 : decode cX6_closeRound 65 = .ok (.iconst 1, 1) := by decide +kernel
theorem dX6_closeRound_66 : decode cX6_closeRound 66 = .ok (.iadd, 1) := by decide +kernel
theorem dX6_closeRound_67 : decode cX6_closeRound 67 = .ok (.goto 4, 3) := by decide +kernel
theorem dX6_closeRound_70 : decode cX6_closeRound 70 = .ok (.iconst 0, 1) := by decide +kernel
theorem dX6_closeRound_71 : decode cX6_closeRound 71 = .ok (.istore 4, 2) := by decide +kernel
theorem dX6_closeRound_73 : decode cX6_closeRound 73 = .ok (.iload_n 3, 1) := by decide +kernel
theorem dX6_closeRound_74 : decode cX6_closeRound 74 = .ok (.aload_n 0, 1) := by decide +kernel
theorem dX6_closeRound_75 : decode cX6_closeRound 75 = .ok (.getfield 15, 3) := by decide +kernel
theorem dX6_closeRound_78 : decode cX6_closeRound 78 = .ok (.iload_n 1, 1) := by decide +kernel
theorem dX6_closeRound_79 : decode cX6_closeRound 79 = .ok (.iaload, 1) := by decide +kernel
theorem dX6_closeRound_80 : decode cX6_closeRound 80 = .ok (.if_icmp .gt 28, 3) := by decide +kernel
theorem dX6_closeRound_83 : decode cX6_closeRound 83 = .ok (.iload_n 3, 1) := by decide +kernel
theorem dX6_closeRound_84 : decode cX6_closeRound 84 = .ok (.ifCond .le 39, 3) := by decide +kernel
theorem dX6_closeRound_87 : decode cX6_closeRound 87 = .ok (.iload_n 3, 1) := by decide +kernel
theorem dX6_closeRound_88 : decode cX6_closeRound 88 = .ok (.aload_n 0, 1) := by decide +kernel
theorem dX6_closeRound_89 : decode cX6_closeRound 89 = .ok (.getfield 15, 3) := by decide +kernel
theorem dX6_closeRound_92 : decode cX6_closeRound 92 = .ok (.iload_n 1, 1) := by decide +kernel
theorem dX6_closeRound_93 : decode cX6_closeRound 93 = .ok (.iaload, 1) := by decide +kernel
theorem dX6_closeRound_94 : decode cX6_closeRound 94 = .ok (.if_icmp .ne 29, 3) := by decide +kernel
theorem dX6_closeRound_97 : decode cX6_closeRound 97 = .ok (.iload 4, 2) := by decide +kernel
theorem dX6_closeRound_99 : decode cX6_closeRound 99 = .ok (.aload_n 0, 1) := by decide +kernel
theorem dX6_closeRound_100 : decode cX6_closeRound 100 = .ok (.getfield 18, 3) := by decide +kernel
theorem dX6_closeRound_103 : decode cX6_closeRound 103 = .ok (.iload_n 1, 1) := by decide +kernel
theorem dX6_closeRound_104 : decode cX6_closeRound 104 = .ok (.iaload, 1) := by decide +kernel
theorem dX6_closeRound_105 : decode cX6_closeRound 105 = .ok (.if_icmp .ge 18, 3) := by decide +kernel
theorem dX6_closeRound_108 : decode cX6_closeRound 108 = .ok (.aload_n 0, 1) := by decide +kernel
theorem dX6_closeRound_109 : decode cX6_closeRound 109 = .ok (.getfield 15, 3) := by decide +kernel
theorem dX6_closeRound_112 : decode cX6_closeRound 112 = .ok (.iload_n 1, 1) := by decide +kernel
theorem dX6_closeRound_113 : decode cX6_closeRound 113 = .ok (.iload_n 3, 1) := by decide +kernel
theorem dX6_closeRound_114 : decode cX6_closeRound 114 = .ok (.iastore, 1) := by decide +kernel
theorem dX6_closeRound_115 : decode cX6_closeRound 115 = .ok (.aload_n 0, 1) := by decide +kernel
theorem dX6_closeRound_116 : decode cX6_closeRound 116 = .ok (.getfield 18, 3) := by decide +kernel
theorem dX6_closeRound_119 : decode cX6_closeRound 119 = .ok (.iload_n 1, 1) := by decide +kernel
theorem dX6_closeRound_120 : decode cX6_closeRound 120 = .ok (.iload 4, 2) := by decide +kernel
theorem dX6_closeRound_122 : decode cX6_closeRound 122 = .ok (.iastore, 1) := by decide +kernel
theorem dX6_closeRound_123 : decode cX6_closeRound 123 = .ok (.return_, 1) := by decide +kernel
theorem dX6_isLate_0 : decode cX6_isLate 0 = .ok (.iload_n 2, 1) := by decide +kernel
theorem dX6_isLate_1 : decode cX6_isLate 1 = .ok (.ifCond .lt 38, 3) := by decide +kernel
theorem dX6_isLate_4 : decode cX6_isLate 4 = .ok (.iload_n 2, 1) := by decide +kernel
theorem dX6_isLate_5 : decode cX6_isLate 5 = .ok (.bipush 12, 2) := by decide +kernel
theorem dX6_isLate_7 : decode cX6_isLate 7 = .ok (.if_icmp .ge 32, 3) := by decide +kernel
theorem dX6_isLate_10 : decode cX6_isLate 10 = .ok (.aload_n 0, 1) := by decide +kernel
theorem dX6_isLate_11 : decode cX6_isLate 11 = .ok (.getfield 15, 3) := by decide +kernel
theorem dX6_isLate_14 : decode cX6_isLate 14 = .ok (.iload_n 2, 1) := by decide +kernel
theorem dX6_isLate_15 : decode cX6_isLate 15 = .ok (.iaload, 1) := by decide +kernel
theorem dX6_isLate_16 : decode cX6_isLate 16 = .ok (.iconst (-1), 1) := by decide +kernel
theorem dX6_isLate_17 : decode cX6_isLate 17 = .ok (.if_icmp .eq 18, 3) := by decide +kernel
theorem dX6_isLate_20 : decode cX6_isLate 20 = .ok (.aload_n 0, 1) := by decide +kernel
theorem dX6_isLate_21 : decode cX6_isLate 21 = .ok (.getfield 15, 3) := by decide +kernel
theorem dX6_isLate_24 : decode cX6_isLate 24 = .ok (.iload_n 2, 1) := by decide +kernel
theorem dX6_isLate_25 : decode cX6_isLate 25 = .ok (.iaload, 1) := by decide +kernel
theorem dX6_isLate_26 : decode cX6_isLate 26 = .ok (.aload_n 1, 1) := by decide +kernel
theorem dX6_isLate_27 : decode cX6_isLate 27 = .ok (.getfield 90, 3) := by decide +kernel
theorem dX6_isLate_30 : decode cX6_isLate 30 = .ok (.iload_n 2, 1) := by decide +kernel
theorem dX6_isLate_31 : decode cX6_isLate 31 = .ok (.iaload, 1) := by decide +kernel
theorem dX6_isLate_32 : decode cX6_isLate 32 = .ok (.if_icmp .le 7, 3) := by decide +kernel
theorem dX6_isLate_35 : decode cX6_isLate 35 = .ok (.iconst 1, 1) := by decide +kernel
theorem dX6_isLate_36 : decode cX6_isLate 36 = .ok (.goto 4, 3) := by decide +kernel
theorem dX6_isLate_39 : decode cX6_isLate 39 = .ok (.iconst 0, 1) := by decide +kernel
theorem dX6_isLate_40 : decode cX6_isLate 40 = .ok (.ireturn, 1) := by decide +kernel
set_option maxRecDepth 20000 in
theorem ggX6_countLate_X6_isLate : GoodIn wsX6_countLate wsX6_isLate := goodIn_r _ [6, 7, 8, 28, 29, 30, 31, 32, 33, 34, 35, 9, 10, 11, 12, 13, 14, 15, 16, 17, 18, 19, 20, 21, 22, 23, 24, 25, 26, 27] (by decide +kernel) (by decide +kernel)
set_option maxRecDepth 20000 in
theorem gX6_countLate_X6_isLate : GoodIn wsX6_countLate (wsV RX6 93 RX6 yX6_isLate wsX6_isLate) := goodIn_app (goodIn_of _ (by decide +kernel)) ggX6_countLate_X6_isLate
theorem dX6_countLate_0 : decode cX6_countLate 0 = .ok (.iconst 0, 1) := by decide +kernel
theorem dX6_countLate_1 : decode cX6_countLate 1 = .ok (.istore_n 2, 1) := by decide +kernel
theorem dX6_countLate_2 : decode cX6_countLate 2 = .ok (.iconst 0, 1) := by decide +kernel
theorem dX6_countLate_3 : decode cX6_countLate 3 = .ok (.istore_n 3, 1) := by decide +kernel
theorem dX6_countLate_4 : decode cX6_countLate 4 = .ok (.iload_n 3, 1) := by decide +kernel
theorem dX6_countLate_5 : decode cX6_countLate 5 = .ok (.aload_n 1, 1) := by decide +kernel
theorem dX6_countLate_6 : decode cX6_countLate 6 = .ok (.getfield 62, 3) := by decide +kernel
theorem dX6_countLate_9 : decode cX6_countLate 9 = .ok (.if_icmp .ge 21, 3) := by decide +kernel
theorem dX6_countLate_12 : decode cX6_countLate 12 = .ok (.aload_n 0, 1) := by decide +kernel
theorem dX6_countLate_13 : decode cX6_countLate 13 = .ok (.aload_n 1, 1) := by decide +kernel
theorem dX6_countLate_14 : decode cX6_countLate 14 = .ok (.iload_n 3, 1) := by decide +kernel
theorem dX6_countLate_15 : decode cX6_countLate 15 = .ok (.invokevirtual 93, 3) := by decide +kernel
theorem dX6_countLate_18 : decode cX6_countLate 18 = .ok (.ifCond .eq 6, 3) := by decide +kernel
theorem dX6_countLate_21 : decode cX6_countLate 21 = .ok (.iinc 2 1, 3) := by decide +kernel
theorem dX6_countLate_24 : decode cX6_countLate 24 = .ok (.iinc 3 1, 3) := by decide +kernel
theorem dX6_countLate_27 : decode cX6_countLate 27 = .ok (.goto (-23), 3) := by decide +kernel
theorem dX6_countLate_30 : decode cX6_countLate 30 = .ok (.iload_n 2, 1) := by decide +kernel
theorem dX6_countLate_31 : decode cX6_countLate 31 = .ok (.ireturn, 1) := by decide +kernel
theorem dX6_countSeen_0 : decode cX6_countSeen 0 = .ok (.iconst 0, 1) := by decide +kernel
theorem dX6_countSeen_1 : decode cX6_countSeen 1 = .ok (.istore_n 2, 1) := by decide +kernel
theorem dX6_countSeen_2 : decode cX6_countSeen 2 = .ok (.iconst 0, 1) := by decide +kernel
theorem dX6_countSeen_3 : decode cX6_countSeen 3 = .ok (.istore_n 3, 1) := by decide +kernel
theorem dX6_countSeen_4 : decode cX6_countSeen 4 = .ok (.iload_n 3, 1) := by decide +kernel
theorem dX6_countSeen_5 : decode cX6_countSeen 5 = .ok (.aload_n 1, 1) := by decide +kernel
theorem dX6_countSeen_6 : decode cX6_countSeen 6 = .ok (.getfield 62, 3) := by decide +kernel
theorem dX6_countSeen_9 : decode cX6_countSeen 9 = .ok (.if_icmp .ge 24, 3) := by decide +kernel
theorem dX6_countSeen_12 : decode cX6_countSeen 12 = .ok (.iload_n 3, 1) := by decide +kernel
theorem dX6_countSeen_13 : decode cX6_countSeen 13 = .ok (.bipush 12, 2) := by decide +kernel
theorem dX6_countSeen_15 : decode cX6_countSeen 15 = .ok (.if_icmp .ge 18, 3) := by decide +kernel
theorem dX6_countSeen_18 : decode cX6_countSeen 18 = .ok (.iload_n 2, 1) := by decide +kernel
theorem dX6_countSeen_19 : decode cX6_countSeen 19 = .ok (.aload_n 0, 1) := by decide +kernel
theorem dX6_countSeen_20 : decode cX6_countSeen 20 = .ok (.getfield 9, 3) := by decide +kernel
theorem dX6_countSeen_23 : decode cX6_countSeen 23 = .ok (.iload_n 3, 1) := by decide +kernel
theorem dX6_countSeen_24 : decode cX6_countSeen 24 = .ok (.iaload, 1) := by decide +kernel
theorem dX6_countSeen_25 : decode cX6_countSeen 25 = .ok (.iadd, 1) := by decide +kernel
theorem dX6_countSeen_26 : decode cX6_countSeen 26 = .ok (.istore_n 2, 1) := by decide +kernel
theorem dX6_countSeen_27 : decode cX6_countSeen 27 = .ok (.iinc 3 1, 3) := by decide +kernel
theorem dX6_countSeen_30 : decode cX6_countSeen 30 = .ok (.goto (-26), 3) := by decide +kernel
theorem dX6_countSeen_33 : decode cX6_countSeen 33 = .ok (.iload_n 2, 1) := by decide +kernel
theorem dX6_countSeen_34 : decode cX6_countSeen 34 = .ok (.ireturn, 1) := by decide +kernel
theorem dX7_init_0 : decode cX7_init 0 = .ok (.aload_n 0, 1) := by decide +kernel
theorem dX7_init_1 : decode cX7_init 1 = .ok (.invokespecial 3, 3) := by decide +kernel
theorem dX7_init_4 : decode cX7_init 4 = .ok (.aload_n 0, 1) := by decide +kernel
theorem dX7_init_5 : decode cX7_init 5 = .ok (.sipush 600, 3) := by decide +kernel
theorem dX7_init_8 : decode cX7_init 8 = .ok (.newarray .int, 2) := by decide +kernel
theorem dX7_init_10 : decode cX7_init 10 = .ok (.putfield 9, 3) := by decide +kernel
theorem dX7_init_13 : decode cX7_init 13 = .ok (.aload_n 0, 1) := by decide +kernel
theorem dX7_init_14 : decode cX7_init 14 = .ok (.iconst 0, 1) := by decide +kernel
theorem dX7_init_15 : decode cX7_init 15 = .ok (.putfield 15, 3) := by decide +kernel
theorem dX7_init_18 : decode cX7_init 18 = .ok (.aload_n 0, 1) := by decide +kernel
theorem dX7_init_19 : decode cX7_init 19 = .ok (.iconst 0, 1) := by decide +kernel
theorem dX7_init_20 : decode cX7_init 20 = .ok (.putfield 19, 3) := by decide +kernel
theorem dX7_init_23 : decode cX7_init 23 = .ok (.aload_n 0, 1) := by decide +kernel
theorem dX7_init_24 : decode cX7_init 24 = .ok (.iconst 0, 1) := by decide +kernel
theorem dX7_init_25 : decode cX7_init 25 = .ok (.putfield 22, 3) := by decide +kernel
theorem dX7_init_28 : decode cX7_init 28 = .ok (.aload_n 0, 1) := by decide +kernel
theorem dX7_init_29 : decode cX7_init 29 = .ok (.iconst 0, 1) := by decide +kernel
theorem dX7_init_30 : decode cX7_init 30 = .ok (.putfield 25, 3) := by decide +kernel
theorem dX7_init_33 : decode cX7_init 33 = .ok (.aload_n 0, 1) := by decide +kernel
theorem dX7_init_34 : decode cX7_init 34 = .ok (.iconst 0, 1) := by decide +kernel
theorem dX7_init_35 : decode cX7_init 35 = .ok (.putfield 28, 3) := by decide +kernel
theorem dX7_init_38 : decode cX7_init 38 = .ok (.aload_n 0, 1) := by decide +kernel
theorem dX7_init_39 : decode cX7_init 39 = .ok (.iconst 0, 1) := by decide +kernel
theorem dX7_init_40 : decode cX7_init 40 = .ok (.putfield 31, 3) := by decide +kernel
theorem dX7_init_43 : decode cX7_init 43 = .ok (.return_, 1) := by decide +kernel
theorem dX7_addBytes_0 : decode cX7_addBytes 0 = .ok (.bipush 24, 2) := by decide +kernel
theorem dX7_addBytes_2 : decode cX7_addBytes 2 = .ok (.istore_n 2, 1) := by decide +kernel
theorem dX7_addBytes_3 : decode cX7_addBytes 3 = .ok (.iload_n 2, 1) := by decide +kernel
theorem dX7_addBytes_4 : decode cX7_addBytes 4 = .ok (.ifCond .lt 52, 3) := by decide +kernel
theorem dX7_addBytes_7 : decode cX7_addBytes 7 = .ok (.aload_n 0, 1) := by decide +kernel
theorem dX7_addBytes_8 : decode cX7_addBytes 8 = .ok (.getfield 15, 3) := by decide +kernel
theorem dX7_addBytes_11 : decode cX7_addBytes 11 = .ok (.ifCond .lt 39, 3) := by decide +kernel
theorem dX7_addBytes_14 : decode cX7_addBytes 14 = .ok (.aload_n 0, 1) := by decide +kernel
theorem dX7_addBytes_15 : decode cX7_addBytes 15 = .ok (.getfield 15, 3) := by decide +kernel
theorem dX7_addBytes_18 : decode cX7_addBytes 18 = .ok (.sipush 600, 3) := by decide +kernel
theorem dX7_addBytes_21 : decode cX7_addBytes 21 = .ok (.if_icmp .ge 29, 3) := by decide +kernel
theorem dX7_addBytes_24 : decode cX7_addBytes 24 = .ok (.aload_n 0, 1) := by decide +kernel
theorem dX7_addBytes_25 : decode cX7_addBytes 25 = .ok (.getfield 9, 3) := by decide +kernel
theorem dX7_addBytes_28 : decode cX7_addBytes 28 = .ok (.aload_n 0, 1) := by decide +kernel
theorem dX7_addBytes_29 : decode cX7_addBytes 29 = .ok (.getfield 15, 3) := by decide +kernel
theorem dX7_addBytes_32 : decode cX7_addBytes 32 = .ok (.iload_n 1, 1) := by decide +kernel
theorem dX7_addBytes_33 : decode cX7_addBytes 33 = .ok (.iload_n 2, 1) := by decide +kernel
theorem dX7_addBytes_34 : decode cX7_addBytes 34 = .ok (.ishr, 1) := by decide +kernel
theorem dX7_addBytes_35 : decode cX7_addBytes 35 = .ok (.sipush 255, 3) := by decide +kernel
theorem dX7_addBytes_38 : decode cX7_addBytes 38 = .ok (.iand, 1) := by decide +kernel
theorem dX7_addBytes_39 : decode cX7_addBytes 39 = .ok (.iastore, 1) := by decide +kernel
theorem dX7_addBytes_40 : decode cX7_addBytes 40 = .ok (.aload_n 0, 1) := by decide +kernel
theorem dX7_addBytes_41 : decode cX7_addBytes 41 = .ok (.dup, 1) := by decide +kernel
theorem dX7_addBytes_42 : decode cX7_addBytes 42 = .ok (.getfield 15, 3) := by decide +kernel
theorem dX7_addBytes_45 : decode cX7_addBytes 45 = .ok (.iconst 1, 1) := by decide +kernel
theorem dX7_addBytes_46 : decode cX7_addBytes 46 = .ok (.iadd, 1) := by decide +kernel
theorem dX7_addBytes_47 : decode cX7_addBytes 47 = .ok (.putfield 15, 3) := by decide +kernel
theorem dX7_addBytes_50 : decode cX7_addBytes 50 = .ok (.iinc 2 (-8), 3) := by decide +kernel
theorem dX7_addBytes_53 : decode cX7_addBytes 53 = .ok (.goto (-50), 3) := by decide +kernel
theorem dX7_addBytes_56 : decode cX7_addBytes 56 = .ok (.return_, 1) := by decide +kernel
set_option maxRecDepth 20000 in
theorem ggX7_begin_X7_advance : GoodIn wsX7_begin wsX7_advance := goodIn_r _ [11, 6, 5, 12, 13, 14, 15, 16, 17, 10, 18, 19, 20, 21, 22, 23, 24, 25] (by decide +kernel) (by decide +kernel)
set_option maxRecDepth 20000 in
theorem gX7_begin_X7_advance : GoodIn wsX7_begin (wsV RX7 40 RX7 yX7_advance wsX7_advance) := goodIn_app (goodIn_of _ (by decide +kernel)) ggX7_begin_X7_advance
theorem dX7_begin_0 : decode cX7_begin 0 = .ok (.aload_n 0, 1) := by decide +kernel
theorem dX7_begin_1 : decode cX7_begin 1 = .ok (.iload_n 1, 1) := by decide +kernel
theorem dX7_begin_2 : decode cX7_begin 2 = .ok (.sipush 600, 3) := by decide +kernel
theorem dX7_begin_5 : decode cX7_begin 5 = .ok (.invokestatic 34, 3) := by decide +kernel
theorem dX7_begin_8 : decode cX7_begin 8 = .ok (.putfield 28, 3) := by decide +kernel
theorem dX7_begin_11 : decode cX7_begin 11 = .ok (.aload_n 0, 1) := by decide +kernel
theorem dX7_begin_12 : decode cX7_begin 12 = .ok (.iconst 0, 1) := by decide +kernel
theorem dX7_begin_13 : decode cX7_begin 13 = .ok (.putfield 25, 3) := by decide +kernel
theorem dX7_begin_16 : decode cX7_begin 16 = .ok (.aload_n 0, 1) := by decide +kernel
theorem dX7_begin_17 : decode cX7_begin 17 = .ok (.invokevirtual 40, 3) := by decide +kernel
theorem dX7_begin_20 : decode cX7_begin 20 = .ok (.return_, 1) := by decide +kernel
set_option maxRecDepth 20000 in
theorem ggX7_advance_X7_kindOf : GoodIn wsX7_advance wsX7_kindOf := goodIn_r _ [10] (by decide +kernel) (by decide +kernel)
set_option maxRecDepth 20000 in
theorem gX7_advance_X7_kindOf : GoodIn wsX7_advance (va_wsS RX7 43 yX7_kindOf wsX7_kindOf) := goodIn_app (goodIn_of _ (by decide +kernel)) ggX7_advance_X7_kindOf
theorem dX7_advance_0 : decode cX7_advance 0 = .ok (.aload_n 0, 1) := by decide +kernel
theorem dX7_advance_1 : decode cX7_advance 1 = .ok (.getfield 25, 3) := by decide +kernel
theorem dX7_advance_4 : decode cX7_advance 4 = .ok (.ifCond .lt 55, 3) := by decide +kernel
theorem dX7_advance_7 : decode cX7_advance 7 = .ok (.aload_n 0, 1) := by decide +kernel
theorem dX7_advance_8 : decode cX7_advance 8 = .ok (.getfield 25, 3) := by decide +kernel
theorem dX7_advance_11 : decode cX7_advance 11 = .ok (.aload_n 0, 1) := by decide +kernel
theorem dX7_advance_12 : decode cX7_advance 12 = .ok (.getfield 28, 3) := by decide +kernel
theorem dX7_advance_15 : decode cX7_advance 15 = .ok (.if_icmp .ge 44, 3) := by decide +kernel
theorem dX7_advance_18 : decode cX7_advance 18 = .ok (.aload_n 0, 1) := by decide +kernel
theorem dX7_advance_19 : decode cX7_advance 19 = .ok (.getfield 9, 3) := by decide +kernel
theorem dX7_advance_22 : decode cX7_advance 22 = .ok (.aload_n 0, 1) := by decide +kernel
theorem dX7_advance_23 : decode cX7_advance 23 = .ok (.getfield 25, 3) := by decide +kernel
theorem dX7_advance_26 : decode cX7_advance 26 = .ok (.iaload, 1) := by decide +kernel
theorem dX7_advance_27 : decode cX7_advance 27 = .ok (.bipush 32, 2) := by decide +kernel
theorem dX7_advance_29 : decode cX7_advance 29 = .ok (.if_icmp .eq 17, 3) := by decide +kernel
theorem dX7_advance_32 : decode cX7_advance 32 = .ok (.aload_n 0, 1) := by decide +kernel
theorem dX7_advance_33 : decode cX7_advance 33 = .ok (.getfield 9, 3) := by decide +kernel
theorem dX7_advance_36 : decode cX7_advance 36 = .ok (.aload_n 0, 1) := by decide +kernel
theorem dX7_advance_37 : decode cX7_advance 37 = .ok (.getfield 25, 3) := by decide +kernel
theorem dX7_advance_40 : decode cX7_advance 40 = .ok (.iaload, 1) := by decide +kernel
theorem dX7_advance_41 : decode cX7_advance 41 = .ok (.bipush 10, 2) := by decide +kernel
theorem dX7_advance_43 : decode cX7_advance 43 = .ok (.if_icmp .ne 16, 3) := by decide +kernel
theorem dX7_advance_46 : decode cX7_advance 46 = .ok (.aload_n 0, 1) := by decide +kernel
theorem dX7_advance_47 : decode cX7_advance 47 = .ok (.dup, 1) := by decide +kernel
theorem dX7_advance_48 : decode cX7_advance 48 = .ok (.getfield 25, 3) := by decide +kernel
theorem dX7_advance_51 : decode cX7_advance 51 = .ok (.iconst 1, 1) := by decide +kernel
theorem dX7_advance_52 : decode cX7_advance 52 = .ok (.iadd, 1) := by decide +kernel
theorem dX7_advance_53 : decode cX7_advance 53 = .ok (.putfield 25, 3) := by decide +kernel
theorem dX7_advance_56 : decode cX7_advance 56 = .ok (.goto (-56), 3) := by decide +kernel
theorem dX7_advance_59 : decode cX7_advance 59 = .ok (.aload_n 0, 1) := by decide +kernel
theorem dX7_advance_60 : decode cX7_advance 60 = .ok (.aload_n 0, 1) := by decide +kernel
theorem dX7_advance_61 : decode cX7_advance 61 = .ok (.getfield 25, 3) := by decide +kernel
theorem dX7_advance_64 : decode cX7_advance 64 = .ok (.putfield 19, 3) := by decide +kernel
theorem dX7_advance_67 : decode cX7_advance 67 = .ok (.aload_n 0, 1) := by decide +kernel
theorem dX7_advance_68 : decode cX7_advance 68 = .ok (.iconst 0, 1) := by decide +kernel
theorem dX7_advance_69 : decode cX7_advance 69 = .ok (.putfield 22, 3) := by decide +kernel
theorem dX7_advance_72 : decode cX7_advance 72 = .ok (.aload_n 0, 1) := by decide +kernel
theorem dX7_advance_73 : decode cX7_advance 73 = .ok (.aload_n 0, 1) := by decide +kernel
theorem dX7_advance_74 : decode cX7_advance 74 = .ok (.getfield 19, 3) := by decide +kernel
theorem dX7_advance_77 : decode cX7_advance 77 = .ok (.ifCond .lt 29, 3) := by decide +kernel
theorem dX7_advance_80 : decode cX7_advance 80 = .ok (.aload_n 0, 1) := by decide +kernel
theorem dX7_advance_81 : decode cX7_advance 81 = .ok (.getfield 19, 3) := by decide +kernel
theorem dX7_advance_84 : decode cX7_advance 84 = .ok (.aload_n 0, 1) := by decide +kernel
theorem dX7_advance_85 : decode cX7_advance 85 = .ok (.getfield 28, 3) := by decide +kernel
theorem dX7_advance_88 : decode cX7_advance 88 = .ok (.if_icmp .ge 18, 3) := by decide +kernel
theorem dX7_advance_91 : decode cX7_advance 91 = .ok (.aload_n 0, 1) := by decide +kernel
theorem dX7_advance_92 : decode cX7_advance 92 = .ok (.getfield 9, 3) := by decide +kernel
theorem dX7_advance_95 : decode cX7_advance 95 = .ok (.aload_n 0, 1) := by decide +kernel
theorem dX7_advance_96 : decode cX7_advance 96 = .ok (.getfield 19, 3) := by decide +kernel
theorem dX7_advance_99 : decode cX7_advance 99 = .ok (.iaload, 1) := by decide +kernel
theorem dX7_advance_100 : decode cX7_advance 100 = .ok (.invokestatic 43, 3) := by decide +kernel
theorem dX7_advance_103 : decode cX7_advance 103 = .ok (.goto 4, 3) := by decide +kernel
theorem dX7_advance_106 : decode cX7_advance 106 = .ok (.iconst 0, 1) := by decide +kernel
theorem dX7_advance_107 : decode cX7_advance 107 = .ok (.putfield 31, 3) := by decide +kernel
theorem dX7_advance_110 : decode cX7_advance 110 = .ok (.aload_n 0, 1) := by decide +kernel
theorem dX7_advance_111 : decode cX7_advance 111 = .ok (.getfield 31, 3) := by decide +kernel
theorem dX7_advance_114 : decode cX7_advance 114 = .ok (.iconst 3, 1) := by decide +kernel
theorem dX7_advance_115 : decode cX7_advance 115 = .ok (.if_icmp .ne 14, 3) := by decide +kernel
theorem dX7_advance_118 : decode cX7_advance 118 = .ok (.aload_n 0, 1) := by decide +kernel
theorem dX7_advance_119 : decode cX7_advance 119 = .ok (.dup, 1) := by decide +kernel
theorem dX7_advance_120 : decode cX7_advance 120 = .ok (.getfield 25, 3) := by decide +kernel
theorem dX7_advance_123 : decode cX7_advance 123 = .ok (.iconst 1, 1) := by decide +kernel
theorem dX7_advance_124 : decode cX7_advance 124 = .ok (.iadd, 1) := by decide +kernel
theorem dX7_advance_125 : decode cX7_advance 125 = .ok (.putfield 25, 3) := by decide +kernel
theorem dX7_advance_128 : decode cX7_advance 128 = .ok (.return_, 1) := by decide +kernel
theorem dX7_advance_129 : decode cX7_advance 129 = .ok (.aload_n 0, 1) := by decide +kernel
theorem dX7_advance_130 : decode cX7_advance 130 = .ok (.getfield 25, 3) := by decide +kernel
theorem dX7_advance_133 : decode cX7_advance 133 = .ok (.ifCond .lt 88, 3) := by decide +kernel
theorem dX7_advance_136 : decode cX7_advance 136 = .ok (.aload_n 0, 1) := by decide +kernel
theorem dX7_advance_137 : decode cX7_advance 137 = .ok (.getfield 25, 3) := by decide +kernel
theorem dX7_advance_140 : decode cX7_advance 140 = .ok (.aload_n 0, 1) := by decide +kernel
theorem dX7_advance_141 : decode cX7_advance 141 = .ok (.getfield 28, 3) := by decide +kernel
theorem dX7_advance_144 : decode cX7_advance 144 = .ok (.if_icmp .ge 77, 3) := by decide +kernel
theorem dX7_advance_147 : decode cX7_advance 147 = .ok (.aload_n 0, 1) := by decide +kernel
theorem dX7_advance_148 : decode cX7_advance 148 = .ok (.getfield 9, 3) := by decide +kernel
theorem dX7_advance_151 : decode cX7_advance 151 = .ok (.aload_n 0, 1) := by decide +kernel
theorem dX7_advance_152 : decode cX7_advance 152 = .ok (.getfield 25, 3) := by decide +kernel
theorem dX7_advance_155 : decode cX7_advance 155 = .ok (.iaload, 1) := by decide +kernel
theorem dX7_advance_156 : decode cX7_advance 156 = .ok (.invokestatic 43, 3) := by decide +kernel
theorem dX7_advance_159 : decode cX7_advance 159 = .ok (.aload_n 0, 1) := by decide +kernel
theorem dX7_advance_160 : decode cX7_advance 160 = .ok (.getfield 31, 3) := by decide +kernel
theorem dX7_advance_163 : decode cX7_advance 163 = .ok (.if_icmp .ne 58, 3) := by decide +kernel
theorem dX7_advance_166 : decode cX7_advance 166 = .ok (.aload_n 0, 1) := by decide +kernel
theorem dX7_advance_167 : decode cX7_advance 167 = .ok (.getfield 31, 3) := by decide +kernel
theorem dX7_advance_170 : decode cX7_advance 170 = .ok (.iconst 2, 1) := by decide +kernel
theorem dX7_advance_171 : decode cX7_advance 171 = .ok (.if_icmp .ne 37, 3) := by decide +kernel
theorem dX7_advance_174 : decode cX7_advance 174 = .ok (.aload_n 0, 1) := by decide +kernel
theorem dX7_advance_175 : decode cX7_advance 175 = .ok (.getfield 22, 3) := by decide +kernel
theorem dX7_advance_178 : decode cX7_advance 178 = .ok (.sipush 9999, 3) := by decide +kernel
theorem dX7_advance_181 : decode cX7_advance 181 = .ok (.if_icmp .gt 27, 3) := by decide +kernel
theorem dX7_advance_184 : decode cX7_advance 184 = .ok (.aload_n 0, 1) := by decide +kernel
theorem dX7_advance_185 : decode cX7_advance 185 = .ok (.aload_n 0, 1) := by decide +kernel
theorem dX7_advance_186 : decode cX7_advance 186 = .ok (.getfield 22, 3) := by decide +kernel
theorem dX7_advance_189 : decode cX7_advance 189 = .ok (.bipush 10, 2) := by decide +kernel
theorem dX7_advance_191 : decode cX7_advance 191 = .ok (.imul, 1) := by decide +kernel
theorem dX7_advance_192 : decode cX7_advance 192 = .ok (.aload_n 0, 1) := by decide +kernel
theorem dX7_advance_193 : decode cX7_advance 193 = .ok (.getfield 9, 3) := by decide +kernel
theorem dX7_advance_196 : decode cX7_advance 196 = .ok (.aload_n 0, 1) := by decide +kernel
theorem dX7_advance_197 : decode cX7_advance 197 = .ok (.getfield 25, 3) := by decide +kernel
theorem dX7_advance_200 : decode cX7_advance 200 = .ok (.iaload, 1) := by decide +kernel
theorem dX7_advance_201 : decode cX7_advance 201 = .ok (.iadd, 1) := by decide +kernel
theorem dX7_advance_202 : decode cX7_advance 202 = .ok (.bipush 48, 2) := by decide +kernel
theorem dX7_advance_204 : decode cX7_advance 204 = .ok (.isub, 1) := by decide +kernel
theorem dX7_advance_205 : decode cX7_advance 205 = .ok (.putfield 22, 3) := by decide +kernel
theorem dX7_advance_208 : decode cX7_advance 208 = .ok (.aload_n 0, 1) := by decide +kernel
theorem dX7_advance_209 : decode cX7_advance 209 = .ok (.dup, 1) := by decide +kernel
theorem dX7_advance_210 : decode cX7_advance 210 = .ok (.getfield 25, 3) := by decide +kernel
theorem dX7_advance_213 : decode cX7_advance 213 = .ok (.iconst 1, 1) := by decide +kernel
theorem dX7_advance_214 : decode cX7_advance 214 = .ok (.iadd, 1) := by decide +kernel
theorem dX7_advance_215 : decode cX7_advance 215 = .ok (.putfield 25, 3) := by decide +kernel
theorem dX7_advance_218 : decode cX7_advance 218 = .ok (.goto (-89), 3) := by decide +kernel
theorem dX7_advance_221 : decode cX7_advance 221 = .ok (.return_, 1) := by decide +kernel
theorem dX7_kindOf_0 : decode cX7_kindOf 0 = .ok (.iload_n 0, 1) := by decide +kernel
theorem dX7_kindOf_1 : decode cX7_kindOf 1 = .ok (.bipush 97, 2) := by decide +kernel
theorem dX7_kindOf_3 : decode cX7_kindOf 3 = .ok (.if_icmp .lt 11, 3) := by decide +kernel
theorem dX7_kindOf_6 : decode cX7_kindOf 6 = .ok (.iload_n 0, 1) := by decide +kernel
theorem dX7_kindOf_7 : decode cX7_kindOf 7 = .ok (.bipush 122, 2) := by decide +kernel
theorem dX7_kindOf_9 : decode cX7_kindOf 9 = .ok (.if_icmp .gt 5, 3) := by decide +kernel
theorem dX7_kindOf_12 : decode cX7_kindOf 12 = .ok (.iconst 1, 1) := by decide +kernel
theorem dX7_kindOf_13 : decode cX7_kindOf 13 = .ok (.ireturn, 1) := by decide +kernel
theorem dX7_kindOf_14 : decode cX7_kindOf 14 = .ok (.iload_n 0, 1) := by decide +kernel
theorem dX7_kindOf_15 : decode cX7_kindOf 15 = .ok (.bipush 48, 2) := by decide +kernel
theorem dX7_kindOf_17 : decode cX7_kindOf 17 = .ok (.if_icmp .lt 13, 3) := by decide +kernel
theorem dX7_kindOf_20 : decode cX7_kindOf 20 = .ok (.iload_n 0, 1) := by decide +kernel
theorem dX7_kindOf_21 : decode cX7_kindOf 21 = .ok (.bipush 57, 2) := by decide +kernel
theorem dX7_kindOf_23 : decode cX7_kindOf 23 = .ok (.if_icmp .gt 7, 3) := by decide +kernel
theorem dX7_kindOf_26 : decode cX7_kindOf 26 = .ok (.iconst 2, 1) := by decide +kernel
theorem dX7_kindOf_27 : decode cX7_kindOf 27 = .ok (.goto 4, 3) := by decide +kernel
theorem dX7_kindOf_30 : decode cX7_kindOf 30 = .ok (.iconst 3, 1) := by decide +kernel
theorem dX7_kindOf_31 : decode cX7_kindOf 31 = .ok (.ireturn, 1) := by decide +kernel
theorem dX7_isEnd_0 : decode cX7_isEnd 0 = .ok (.aload_n 0, 1) := by decide +kernel
theorem dX7_isEnd_1 : decode cX7_isEnd 1 = .ok (.getfield 31, 3) := by decide +kernel
theorem dX7_isEnd_4 : decode cX7_isEnd 4 = .ok (.ifCond .ne 7, 3) := by decide +kernel
theorem dX7_isEnd_7 : decode cX7_isEnd 7 = .ok (.iconst 1, 1) := by decide +kernel
theorem dX7_isEnd_8 : decode cX7_isEnd 8 = .ok (.goto 4, 3) := by decide +kernel
theorem dX7_isEnd_11 : decode cX7_isEnd 11 = .ok (.iconst 0, 1) := by decide +kernel
theorem dX7_isEnd_12 : decode cX7_isEnd 12 = .ok (.ireturn, 1) := by decide +kernel
theorem dX7_isNumber_0 : decode cX7_isNumber 0 = .ok (.aload_n 0, 1) := by decide +kernel
theorem dX7_isNumber_1 : decode cX7_isNumber 1 = .ok (.getfield 31, 3) := by decide +kernel
theorem dX7_isNumber_4 : decode cX7_isNumber 4 = .ok (.iconst 2, 1) := by decide +kernel
theorem dX7_isNumber_5 : decode cX7_isNumber 5 = .ok (.if_icmp .ne 7, 3) := by decide +kernel
theorem dX7_isNumber_8 : decode cX7_isNumber 8 = .ok (.iconst 1, 1) := by decide +kernel
theorem dX7_isNumber_9 : decode cX7_isNumber 9 = .ok (.goto 4, 3) := by decide +kernel
theorem dX7_isNumber_12 : decode cX7_isNumber 12 = .ok (.iconst 0, 1) := by decide +kernel
theorem dX7_isNumber_13 : decode cX7_isNumber 13 = .ok (.ireturn, 1) := by decide +kernel
theorem dX7_isSign_0 : decode cX7_isSign 0 = .ok (.aload_n 0, 1) := by decide +kernel
theorem dX7_isSign_1 : decode cX7_isSign 1 = .ok (.getfield 31, 3) := by decide +kernel
theorem dX7_isSign_4 : decode cX7_isSign 4 = .ok (.iconst 3, 1) := by decide +kernel
theorem dX7_isSign_5 : decode cX7_isSign 5 = .ok (.if_icmp .ne 37, 3) := by decide +kernel
theorem dX7_isSign_8 : decode cX7_isSign 8 = .ok (.aload_n 0, 1) := by decide +kernel
theorem dX7_isSign_9 : decode cX7_isSign 9 = .ok (.getfield 19, 3) := by decide +kernel
theorem dX7_isSign_12 : decode cX7_isSign 12 = .ok (.ifCond .lt 30, 3) := by decide +kernel
theorem dX7_isSign_15 : decode cX7_isSign 15 = .ok (.aload_n 0, 1) := by decide +kernel
theorem dX7_isSign_16 : decode cX7_isSign 16 = .ok (.getfield 19, 3) := by decide +kernel
theorem dX7_isSign_19 : decode cX7_isSign 19 = .ok (.sipush 600, 3) := by decide +kernel
theorem dX7_isSign_22 : decode cX7_isSign 22 = .ok (.if_icmp .ge 20, 3) := by decide +kernel
theorem dX7_isSign_25 : decode cX7_isSign 25 = .ok (.aload_n 0, 1) := by decide +kernel
theorem dX7_isSign_26 : decode cX7_isSign 26 = .ok (.getfield 9, 3) := by decide +kernel
theorem dX7_isSign_29 : decode cX7_isSign 29 = .ok (.aload_n 0, 1) := by decide +kernel
theorem dX7_isSign_30 : decode cX7_isSign 30 = .ok (.getfield 19, 3) := by decide +kernel
theorem dX7_isSign_33 : decode cX7_isSign 33 = .ok (.iaload, 1) := by decide +kernel
theorem dX7_isSign_34 : decode cX7_isSign 34 = .ok (.iload_n 1, 1) := by decide +kernel
theorem dX7_isSign_35 : decode cX7_isSign 35 = .ok (.if_icmp .ne 7, 3) := by decide +kernel
theorem dX7_isSign_38 : decode cX7_isSign 38 = .ok (.iconst 1, 1) := by decide +kernel
theorem dX7_isSign_39 : decode cX7_isSign 39 = .ok (.goto 4, 3) := by decide +kernel
theorem dX7_isSign_42 : decode cX7_isSign 42 = .ok (.iconst 0, 1) := by decide +kernel
theorem dX7_isSign_43 : decode cX7_isSign 43 = .ok (.ireturn, 1) := by decide +kernel
set_option maxRecDepth 20000 in
theorem ggX7_isWord_J0_length_8abf5 : GoodIn wsX7_isWord wsJ0_length_8abf5 := goodIn_r _ [9, 10, 11, 12, 13, 8, 14, 15, 16] (by decide +kernel) (by decide +kernel)
set_option maxRecDepth 20000 in
theorem gX7_isWord_J0_length_8abf5 : GoodIn wsX7_isWord (wsV RX7 47 RJ0 yJ0_length_8abf5 wsJ0_length_8abf5) := goodIn_app (goodIn_of _ (by decide +kernel)) ggX7_isWord_J0_length_8abf5
set_option maxRecDepth 20000 in
theorem ggX7_isWord_J0_charAt_5068e : GoodIn wsX7_isWord wsJ0_charAt_5068e := goodIn_r _ [20, 10, 21, 22, 23, 8, 24, 15, 16, 25, 26, 27, 28, 29, 30, 31, 32, 33, 34, 35, 36, 37, 38, 39, 40, 41, 42, 43, 44, 45, 46, 47, 48, 49, 50, 51, 52, 53] (by decide +kernel) (by decide +kernel)
set_option maxRecDepth 20000 in
theorem gX7_isWord_J0_charAt_5068e : GoodIn wsX7_isWord (wsV RX7 53 RJ0 yJ0_charAt_5068e wsJ0_charAt_5068e) := goodIn_app (goodIn_of _ (by decide +kernel)) ggX7_isWord_J0_charAt_5068e
theorem dX7_isWord_0 : decode cX7_isWord 0 = .ok (.aload_n 0, 1) := by decide +kernel
theorem dX7_isWord_1 : decode cX7_isWord 1 = .ok (.getfield 31, 3) := by decide +kernel
theorem dX7_isWord_4 : decode cX7_isWord 4 = .ok (.iconst 1, 1) := by decide +kernel
theorem dX7_isWord_5 : decode cX7_isWord 5 = .ok (.if_icmp .ne 19, 3) := by decide +kernel
theorem dX7_isWord_8 : decode cX7_isWord 8 = .ok (.aload_n 0, 1) := by decide +kernel
theorem dX7_isWord_9 : decode cX7_isWord 9 = .ok (.getfield 25, 3) := by decide +kernel
theorem dX7_isWord_12 : decode cX7_isWord 12 = .ok (.aload_n 0, 1) := by decide +kernel
theorem dX7_isWord_13 : decode cX7_isWord 13 = .ok (.getfield 19, 3) := by decide +kernel
theorem dX7_isWord_16 : decode cX7_isWord 16 = .ok (.isub, 1) := by decide +kernel
theorem dX7_isWord_17 : decode cX7_isWord 17 = .ok (.aload_n 1, 1) := by decide +kernel
theorem dX7_isWord_18 : decode cX7_isWord 18 = .ok (.invokevirtual 47, 3) := by decide +kernel
theorem dX7_isWord_21 : decode cX7_isWord 21 = .ok (.if_icmp .eq 5, 3) := by decide +kernel
theorem dX7_isWord_24 : decode cX7_isWord 24 = .ok (.iconst 0, 1) := by decide +kernel
theorem dX7_isWord_25 : decode cX7_isWord 25 = .ok (.ireturn, 1) := by decide +kernel
theorem dX7_isWord_26 : decode cX7_isWord 26 = .ok (.iconst 0, 1) := by decide +kernel
theorem dX7_isWord_27 : decode cX7_isWord 27 = .ok (.istore_n 2, 1) := by decide +kernel
theorem dX7_isWord_28 : decode cX7_isWord 28 = .ok (.iload_n 2, 1) := by decide +kernel
theorem dX7_isWord_29 : decode cX7_isWord 29 = .ok (.aload_n 1, 1) := by decide +kernel
theorem dX7_isWord_30 : decode cX7_isWord 30 = .ok (.invokevirtual 47, 3) := by decide +kernel
theorem dX7_isWord_33 : decode cX7_isWord 33 = .ok (.if_icmp .ge 51, 3) := by decide +kernel
theorem dX7_isWord_36 : decode cX7_isWord 36 = .ok (.aload_n 0, 1) := by decide +kernel
theorem dX7_isWord_37 : decode cX7_isWord 37 = .ok (.getfield 19, 3) := by decide +kernel
theorem dX7_isWord_40 : decode cX7_isWord 40 = .ok (.iload_n 2, 1) := by decide +kernel
theorem dX7_isWord_41 : decode cX7_isWord 41 = .ok (.iadd, 1) := by decide +kernel
theorem dX7_isWord_42 : decode cX7_isWord 42 = .ok (.ifCond .lt 34, 3) := by decide +kernel
theorem dX7_isWord_45 : decode cX7_isWord 45 = .ok (.aload_n 0, 1) := by decide +kernel
theorem dX7_isWord_46 : decode cX7_isWord 46 = .ok (.getfield 19, 3) := by decide +kernel
theorem dX7_isWord_49 : decode cX7_isWord 49 = .ok (.iload_n 2, 1) := by decide +kernel
theorem dX7_isWord_50 : decode cX7_isWord 50 = .ok (.iadd, 1) := by decide +kernel
theorem dX7_isWord_51 : decode cX7_isWord 51 = .ok (.sipush 600, 3) := by decide +kernel
theorem dX7_isWord_54 : decode cX7_isWord 54 = .ok (.if_icmp .ge 22, 3) := by decide +kernel
theorem dX7_isWord_57 : decode cX7_isWord 57 = .ok (.aload_n 0, 1) := by decide +kernel
theorem dX7_isWord_58 : decode cX7_isWord 58 = .ok (.getfield 9, 3) := by decide +kernel
theorem dX7_isWord_61 : decode cX7_isWord 61 = .ok (.aload_n 0, 1) := by decide +kernel
theorem dX7_isWord_62 : decode cX7_isWord 62 = .ok (.getfield 19, 3) := by decide +kernel
theorem dX7_isWord_65 : decode cX7_isWord 65 = .ok (.iload_n 2, 1) := by decide +kernel
theorem dX7_isWord_66 : decode cX7_isWord 66 = .ok (.iadd, 1) := by decide +kernel
theorem dX7_isWord_67 : decode cX7_isWord 67 = .ok (.iaload, 1) := by decide +kernel
theorem dX7_isWord_68 : decode cX7_isWord 68 = .ok (.aload_n 1, 1) := by decide +kernel
theorem dX7_isWord_69 : decode cX7_isWord 69 = .ok (.iload_n 2, 1) := by decide +kernel
theorem dX7_isWord_70 : decode cX7_isWord 70 = .ok (.invokevirtual 53, 3) := by decide +kernel
theorem dX7_isWord_73 : decode cX7_isWord 73 = .ok (.if_icmp .eq 5, 3) := by decide +kernel
theorem dX7_isWord_76 : decode cX7_isWord 76 = .ok (.iconst 0, 1) := by decide +kernel
theorem dX7_isWord_77 : decode cX7_isWord 77 = .ok (.ireturn, 1) := by decide +kernel
theorem dX7_isWord_78 : decode cX7_isWord 78 = .ok (.iinc 2 1, 3) := by decide +kernel
theorem dX7_isWord_81 : decode cX7_isWord 81 = .ok (.goto (-53), 3) := by decide +kernel
theorem dX7_isWord_84 : decode cX7_isWord 84 = .ok (.iconst 1, 1) := by decide +kernel
theorem dX7_isWord_85 : decode cX7_isWord 85 = .ok (.ireturn, 1) := by decide +kernel
theorem dX7_numberCode_0 : decode cX7_numberCode 0 = .ok (.aload_n 0, 1) := by decide +kernel
theorem dX7_numberCode_1 : decode cX7_numberCode 1 = .ok (.getfield 31, 3) := by decide +kernel
theorem dX7_numberCode_4 : decode cX7_numberCode 4 = .ok (.iconst 2, 1) := by decide +kernel
theorem dX7_numberCode_5 : decode cX7_numberCode 5 = .ok (.if_icmp .eq 5, 3) := by decide +kernel
theorem dX7_numberCode_8 : decode cX7_numberCode 8 = .ok (.iconst 1, 1) := by decide +kernel
theorem dX7_numberCode_9 : decode cX7_numberCode 9 = .ok (.ireturn, 1) := by decide +kernel
theorem dX7_numberCode_10 : decode cX7_numberCode 10 = .ok (.aload_n 0, 1) := by decide +kernel
theorem dX7_numberCode_11 : decode cX7_numberCode 11 = .ok (.getfield 22, 3) := by decide +kernel
theorem dX7_numberCode_14 : decode cX7_numberCode 14 = .ok (.iload_n 1, 1) := by decide +kernel
theorem dX7_numberCode_15 : decode cX7_numberCode 15 = .ok (.if_icmp .lt 11, 3) := by decide +kernel
theorem dX7_numberCode_18 : decode cX7_numberCode 18 = .ok (.aload_n 0, 1) := by decide +kernel
theorem dX7_numberCode_19 : decode cX7_numberCode 19 = .ok (.getfield 22, 3) := by decide +kernel
theorem dX7_numberCode_22 : decode cX7_numberCode 22 = .ok (.iload_n 2, 1) := by decide +kernel
theorem dX7_numberCode_23 : decode cX7_numberCode 23 = .ok (.if_icmp .le 7, 3) := by decide +kernel
theorem dX7_numberCode_26 : decode cX7_numberCode 26 = .ok (.iconst 2, 1) := by decide +kernel
theorem dX7_numberCode_27 : decode cX7_numberCode 27 = .ok (.goto 4, 3) := by decide +kernel
theorem dX7_numberCode_30 : decode cX7_numberCode 30 = .ok (.iconst 0, 1) := by decide +kernel
theorem dX7_numberCode_31 : decode cX7_numberCode 31 = .ok (.ireturn, 1) := by decide +kernel
set_option maxRecDepth 20000 in
theorem ggX8_init_X2_init : GoodIn wsX8_init wsX2_init := goodIn_r _ [44, 45, 2, 3, 46, 47, 48, 49, 50, 51, 52, 38, 53, 54, 55, 56, 57, 58, 59, 60, 61, 62, 63, 64, 135, 136, 137, 138, 139, 140, 141, 142, 143, 144, 145, 146, 147, 148, 149, 150, 151, 152, 153] (by decide +kernel) (by decide +kernel)
set_option maxRecDepth 20000 in
theorem gX8_init_X2_init_n9 : GoodIn wsX8_init (wsX2_init) := ggX8_init_X2_init
set_option maxRecDepth 20000 in
theorem ggX8_init_X1_init : GoodIn wsX8_init wsX1_init := goodIn_r _ [67, 68, 2, 3, 69, 70, 5, 6, 71, 72, 73, 74, 43, 44, 45, 46, 47, 48, 49, 50, 51, 52, 38, 53, 54, 55, 56, 57, 58, 59, 60, 61, 62, 63, 64, 168, 169, 170, 171, 172, 135, 136, 137, 138, 139, 140, 141, 142, 143, 144, 145, 146, 147, 148, 149, 150, 151, 152, 153] (by decide +kernel) (by decide +kernel)
set_option maxRecDepth 20000 in
theorem gX8_init_X1_init : GoodIn wsX8_init (wsX1_init) := ggX8_init_X1_init
set_option maxRecDepth 20000 in
theorem ggX8_init_X6_init : GoodIn wsX8_init wsX6_init := goodIn_r _ [76, 77, 2, 3, 38, 78, 79, 80, 81, 82, 83, 84, 85, 173, 174, 175, 176, 177, 178, 179, 180] (by decide +kernel) (by decide +kernel)
set_option maxRecDepth 20000 in
theorem gX8_init_X6_init_n28 : GoodIn wsX8_init (wsX6_init) := ggX8_init_X6_init
set_option maxRecDepth 20000 in
theorem ggX8_init_X0_init : GoodIn wsX8_init wsX0_init := goodIn_r _ [87, 88, 2, 3, 38, 89, 90, 91, 92, 93, 94, 5, 6, 95, 96, 14, 15, 97, 43, 44, 45, 46, 47, 48, 49, 50, 51, 52, 53, 54, 55, 56, 57, 58, 59, 60, 61, 62, 63, 64, 75, 76, 77, 78, 79, 80, 81, 82, 83, 84, 85, 181, 182, 183, 184, 185, 186, 187, 135, 136, 137, 138, 139, 140, 141, 142, 143, 144, 145, 146, 147, 148, 149, 150, 151, 152, 153, 173, 174, 175, 176, 177, 178, 179, 180] (by decide +kernel) (by decide +kernel)
set_option maxRecDepth 20000 in
theorem gX8_init_X0_init_n38 : GoodIn wsX8_init (wsX0_init) := ggX8_init_X0_init
set_option maxRecDepth 20000 in
theorem ggX8_init_X4_init : GoodIn wsX8_init wsX4_init := goodIn_r _ [99, 100, 2, 3, 38, 101, 102, 188, 189] (by decide +kernel) (by decide +kernel)
set_option maxRecDepth 20000 in
theorem gX8_init_X4_init_n45 : GoodIn wsX8_init (wsX4_init) := ggX8_init_X4_init
set_option maxRecDepth 20000 in
theorem ggX8_init_X7_init : GoodIn wsX8_init wsX7_init := goodIn_r _ [104, 105, 2, 3, 38, 106, 107, 108, 109, 110, 111, 112, 190, 191, 192, 193, 194, 195, 196] (by decide +kernel) (by decide +kernel)
set_option maxRecDepth 20000 in
theorem gX8_init_X7_init_n52 : GoodIn wsX8_init (wsX7_init) := ggX8_init_X7_init
set_option maxRecDepth 20000 in
theorem ggX8_init_X3_init : GoodIn wsX8_init wsX3_init := goodIn_r _ [115, 116, 2, 3, 117, 197] (by decide +kernel) (by decide +kernel)
set_option maxRecDepth 20000 in
theorem gX8_init_X3_init : GoodIn wsX8_init (wsX3_init) := ggX8_init_X3_init
set_option maxRecDepth 20000 in
theorem ggX8_init_X5_init : GoodIn wsX8_init wsX5_init := goodIn_r _ [120, 121, 2, 3, 38, 122, 123, 124, 125, 126, 198, 199, 200, 201, 202] (by decide +kernel) (by decide +kernel)
set_option maxRecDepth 20000 in
theorem gX8_init_X5_init : GoodIn wsX8_init (wsX5_init) := ggX8_init_X5_init
set_option maxRecDepth 20000 in
theorem ggX8_init_X2_begin : GoodIn wsX8_init wsX2_begin := goodIn_r _ [130, 46, 47, 48, 49, 50, 55, 56, 61, 62, 63, 64, 131, 132, 133, 134, 135, 136, 137, 138, 139, 140, 141, 142, 143, 144, 145, 146, 147, 148, 149, 150, 151, 152, 153] (by decide +kernel) (by decide +kernel)
set_option maxRecDepth 20000 in
theorem gX8_init_X2_begin : GoodIn wsX8_init (wsV RX8 87 RX2 yX2_begin wsX2_begin) := goodIn_app (goodIn_of _ (by decide +kernel)) ggX8_init_X2_begin
theorem dX8_init_0 : decode cX8_init 0 = .ok (.aload_n 0, 1) := by decide +kernel
theorem dX8_init_1 : decode cX8_init 1 = .ok (.invokespecial 1, 3) := by decide +kernel
theorem dX8_init_4 : decode cX8_init 4 = .ok (.aload_n 0, 1) := by decide +kernel
theorem dX8_init_5 : decode cX8_init 5 = .ok (.new 7, 3) := by decide +kernel
theorem dX8_init_8 : decode cX8_init 8 = .ok (.dup, 1) := by decide +kernel
theorem dX8_init_9 : decode cX8_init 9 = .ok (.invokespecial 9, 3) := by decide +kernel
theorem dX8_init_12 : decode cX8_init 12 = .ok (.putfield 10, 3) := by decide +kernel
theorem dX8_init_15 : decode cX8_init 15 = .ok (.aload_n 0, 1) := by decide +kernel
theorem dX8_init_16 : decode cX8_init 16 = .ok (.new 7, 3) := by decide +kernel
theorem dX8_init_19 : decode cX8_init 19 = .ok (.dup, 1) := by decide +kernel
theorem dX8_init_20 : decode cX8_init 20 = .ok (.invokespecial 9, 3) := by decide +kernel
theorem dX8_init_23 : decode cX8_init 23 = .ok (.putfield 16, 3) := by decide +kernel
theorem dX8_init_26 : decode cX8_init 26 = .ok (.aload_n 0, 1) := by decide +kernel
theorem dX8_init_27 : decode cX8_init 27 = .ok (.new 19, 3) := by decide +kernel
theorem dX8_init_30 : decode cX8_init 30 = .ok (.dup, 1) := by decide +kernel
theorem dX8_init_31 : decode cX8_init 31 = .ok (.invokespecial 21, 3) := by decide +kernel
theorem dX8_init_34 : decode cX8_init 34 = .ok (.putfield 22, 3) := by decide +kernel
theorem dX8_init_37 : decode cX8_init 37 = .ok (.aload_n 0, 1) := by decide +kernel
theorem dX8_init_38 : decode cX8_init 38 = .ok (.new 26, 3) := by decide +kernel
theorem dX8_init_41 : decode cX8_init 41 = .ok (.dup, 1) := by decide +kernel
theorem dX8_init_42 : decode cX8_init 42 = .ok (.invokespecial 28, 3) := by decide +kernel
theorem dX8_init_45 : decode cX8_init 45 = .ok (.putfield 29, 3) := by decide +kernel
theorem dX8_init_48 : decode cX8_init 48 = .ok (.aload_n 0, 1) := by decide +kernel
theorem dX8_init_49 : decode cX8_init 49 = .ok (.new 26, 3) := by decide +kernel
theorem dX8_init_52 : decode cX8_init 52 = .ok (.dup, 1) := by decide +kernel
theorem dX8_init_53 : decode cX8_init 53 = .ok (.invokespecial 28, 3) := by decide +kernel
theorem dX8_init_56 : decode cX8_init 56 = .ok (.putfield 33, 3) := by decide +kernel
theorem dX8_init_59 : decode cX8_init 59 = .ok (.aload_n 0, 1) := by decide +kernel
theorem dX8_init_60 : decode cX8_init 60 = .ok (.new 36, 3) := by decide +kernel
theorem dX8_init_63 : decode cX8_init 63 = .ok (.dup, 1) := by decide +kernel
theorem dX8_init_64 : decode cX8_init 64 = .ok (.invokespecial 38, 3) := by decide +kernel
theorem dX8_init_67 : decode cX8_init 67 = .ok (.putfield 39, 3) := by decide +kernel
theorem dX8_init_70 : decode cX8_init 70 = .ok (.aload_n 0, 1) := by decide +kernel
theorem dX8_init_71 : decode cX8_init 71 = .ok (.new 43, 3) := by decide +kernel
theorem dX8_init_74 : decode cX8_init 74 = .ok (.dup, 1) := by decide +kernel
theorem dX8_init_75 : decode cX8_init 75 = .ok (.invokespecial 45, 3) := by decide +kernel
theorem dX8_init_78 : decode cX8_init 78 = .ok (.putfield 46, 3) := by decide +kernel
theorem dX8_init_81 : decode cX8_init 81 = .ok (.aload_n 0, 1) := by decide +kernel
theorem dX8_init_82 : decode cX8_init 82 = .ok (.new 50, 3) := by decide +kernel
theorem dX8_init_85 : decode cX8_init 85 = .ok (.dup, 1) := by decide +kernel
theorem dX8_init_86 : decode cX8_init 86 = .ok (.invokespecial 52, 3) := by decide +kernel
theorem dX8_init_89 : decode cX8_init 89 = .ok (.putfield 53, 3) := by decide +kernel
theorem dX8_init_92 : decode cX8_init 92 = .ok (.aload_n 0, 1) := by decide +kernel
theorem dX8_init_93 : decode cX8_init 93 = .ok (.new 57, 3) := by decide +kernel
theorem dX8_init_96 : decode cX8_init 96 = .ok (.dup, 1) := by decide +kernel
theorem dX8_init_97 : decode cX8_init 97 = .ok (.aload_n 0, 1) := by decide +kernel
theorem dX8_init_98 : decode cX8_init 98 = .ok (.getfield 53, 3) := by decide +kernel
theorem dX8_init_101 : decode cX8_init 101 = .ok (.invokespecial 59, 3) := by decide +kernel
theorem dX8_init_104 : decode cX8_init 104 = .ok (.putfield 62, 3) := by decide +kernel
theorem dX8_init_107 : decode cX8_init 107 = .ok (.aload_n 0, 1) := by decide +kernel
theorem dX8_init_108 : decode cX8_init 108 = .ok (.new 66, 3) := by decide +kernel
theorem dX8_init_111 : decode cX8_init 111 = .ok (.dup, 1) := by decide +kernel
theorem dX8_init_112 : decode cX8_init 112 = .ok (.aload_n 0, 1) := by decide +kernel
theorem dX8_init_113 : decode cX8_init 113 = .ok (.getfield 53, 3) := by decide +kernel
theorem dX8_init_116 : decode cX8_init 116 = .ok (.invokespecial 68, 3) := by decide +kernel
theorem dX8_init_119 : decode cX8_init 119 = .ok (.putfield 69, 3) := by decide +kernel
theorem dX8_init_122 : decode cX8_init 122 = .ok (.aload_n 0, 1) := by decide +kernel
theorem dX8_init_123 : decode cX8_init 123 = .ok (.bipush 64, 2) := by decide +kernel
theorem dX8_init_125 : decode cX8_init 125 = .ok (.newarray .int, 2) := by decide +kernel
theorem dX8_init_127 : decode cX8_init 127 = .ok (.putfield 73, 3) := by decide +kernel
theorem dX8_init_130 : decode cX8_init 130 = .ok (.aload_n 0, 1) := by decide +kernel
theorem dX8_init_131 : decode cX8_init 131 = .ok (.iconst 0, 1) := by decide +kernel
theorem dX8_init_132 : decode cX8_init 132 = .ok (.putfield 77, 3) := by decide +kernel
theorem dX8_init_135 : decode cX8_init 135 = .ok (.aload_n 0, 1) := by decide +kernel
theorem dX8_init_136 : decode cX8_init 136 = .ok (.iconst (-1), 1) := by decide +kernel
theorem dX8_init_137 : decode cX8_init 137 = .ok (.putfield 81, 3) := by decide +kernel
theorem dX8_init_140 : decode cX8_init 140 = .ok (.aload_n 0, 1) := by decide +kernel
theorem dX8_init_141 : decode cX8_init 141 = .ok (.iconst 0, 1) := by decide +kernel
theorem dX8_init_142 : decode cX8_init 142 = .ok (.putfield 84, 3) := by decide +kernel
theorem dX8_init_145 : decode cX8_init 145 = .ok (.aload_n 0, 1) := by decide +kernel
theorem dX8_init_146 : decode cX8_init 146 = .ok (.getfield 10, 3) := by decide +kernel
theorem dX8_init_149 : decode cX8_init 149 = .ok (.iconst 1, 1) := by decide +kernel
theorem dX8_init_150 : decode cX8_init 150 = .ok (.invokevirtual 87, 3) := by decide +kernel
theorem dX8_init_153 : decode cX8_init 153 = .ok (.return_, 1) := by decide +kernel
set_option maxRecDepth 20000 in
theorem ggX8_feed_X7_addBytes : GoodIn wsX8_feed wsX7_addBytes := goodIn_r _ [7, 8, 9, 24, 25, 26, 27, 28, 29, 30] (by decide +kernel) (by decide +kernel)
set_option maxRecDepth 20000 in
theorem gX8_feed_X7_addBytes : GoodIn wsX8_feed (wsV RX8 94 RX7 yX7_addBytes wsX7_addBytes) := goodIn_app (goodIn_of _ (by decide +kernel)) ggX8_feed_X7_addBytes
theorem dX8_feed_0 : decode cX8_feed 0 = .ok (.aload_n 0, 1) := by decide +kernel
theorem dX8_feed_1 : decode cX8_feed 1 = .ok (.getfield 53, 3) := by decide +kernel
theorem dX8_feed_4 : decode cX8_feed 4 = .ok (.getfield 91, 3) := by decide +kernel
theorem dX8_feed_7 : decode cX8_feed 7 = .ok (.sipush 580, 3) := by decide +kernel
theorem dX8_feed_10 : decode cX8_feed 10 = .ok (.if_icmp .le 5, 3) := by decide +kernel
theorem dX8_feed_13 : decode cX8_feed 13 = .ok (.iconst (-1), 1) := by decide +kernel
theorem dX8_feed_14 : decode cX8_feed 14 = .ok (.ireturn, 1) := by decide +kernel
theorem dX8_feed_15 : decode cX8_feed 15 = .ok (.aload_n 0, 1) := by decide +kernel
theorem dX8_feed_16 : decode cX8_feed 16 = .ok (.getfield 53, 3) := by decide +kernel
theorem dX8_feed_19 : decode cX8_feed 19 = .ok (.iload_n 1, 1) := by decide +kernel
theorem dX8_feed_20 : decode cX8_feed 20 = .ok (.invokevirtual 94, 3) := by decide +kernel
theorem dX8_feed_23 : decode cX8_feed 23 = .ok (.aload_n 0, 1) := by decide +kernel
theorem dX8_feed_24 : decode cX8_feed 24 = .ok (.getfield 53, 3) := by decide +kernel
theorem dX8_feed_27 : decode cX8_feed 27 = .ok (.iload_n 2, 1) := by decide +kernel
theorem dX8_feed_28 : decode cX8_feed 28 = .ok (.invokevirtual 94, 3) := by decide +kernel
theorem dX8_feed_31 : decode cX8_feed 31 = .ok (.aload_n 0, 1) := by decide +kernel
theorem dX8_feed_32 : decode cX8_feed 32 = .ok (.getfield 53, 3) := by decide +kernel
theorem dX8_feed_35 : decode cX8_feed 35 = .ok (.iload_n 3, 1) := by decide +kernel
theorem dX8_feed_36 : decode cX8_feed 36 = .ok (.invokevirtual 94, 3) := by decide +kernel
theorem dX8_feed_39 : decode cX8_feed 39 = .ok (.aload_n 0, 1) := by decide +kernel
theorem dX8_feed_40 : decode cX8_feed 40 = .ok (.getfield 53, 3) := by decide +kernel
theorem dX8_feed_43 : decode cX8_feed 43 = .ok (.iload 4, 2) := by decide +kernel
theorem dX8_feed_45 : decode cX8_feed 45 = .ok (.invokevirtual 94, 3) := by decide +kernel
theorem dX8_feed_48 : decode cX8_feed 48 = .ok (.aload_n 0, 1) := by decide +kernel
theorem dX8_feed_49 : decode cX8_feed 49 = .ok (.getfield 53, 3) := by decide +kernel
theorem dX8_feed_52 : decode cX8_feed 52 = .ok (.iload 5, 2) := by decide +kernel
theorem dX8_feed_54 : decode cX8_feed 54 = .ok (.invokevirtual 94, 3) := by decide +kernel
theorem dX8_feed_57 : decode cX8_feed 57 = .ok (.aload_n 0, 1) := by decide +kernel
theorem dX8_feed_58 : decode cX8_feed 58 = .ok (.getfield 53, 3) := by decide +kernel
theorem dX8_feed_61 : decode cX8_feed 61 = .ok (.getfield 91, 3) := by decide +kernel
theorem dX8_feed_64 : decode cX8_feed 64 = .ok (.ireturn, 1) := by decide +kernel
set_option maxRecDepth 20000 in
theorem ggX8_load_X8_needRange : GoodIn wsX8_load wsX8_needRange := goodIn_ca (goodIn_r _ [11, 12, 13] (by decide +kernel) (by decide +kernel)) (goodIn_sub (fun _ h => List.mem_cons_of_mem _ (List.mem_append_right _ h)) (by decide +kernel))
set_option maxRecDepth 20000 in
theorem gX8_load_X8_needRange : GoodIn wsX8_load (va_wsS RX8 97 yX8_needRange wsX8_needRange) := goodIn_app (goodIn_of _ (by decide +kernel)) ggX8_load_X8_needRange
set_option maxRecDepth 20000 in
theorem ggX8_load_X7_begin : GoodIn wsX8_load wsX7_begin := goodIn_r _ [18, 19, 20, 21, 22, 23, 24, 25, 26, 27, 17, 28, 29, 30, 31, 32, 33, 34, 35, 273, 274, 275, 276, 277, 278, 279] (by decide +kernel) (by decide +kernel)
set_option maxRecDepth 20000 in
theorem gX8_load_X7_begin : GoodIn wsX8_load (wsV RX8 101 RX7 yX7_begin wsX7_begin) := goodIn_app (goodIn_of _ (by decide +kernel)) ggX8_load_X7_begin
set_option maxRecDepth 20000 in
theorem ggX8_load_X3_readHouse : GoodIn wsX8_load wsX3_readHouse := goodIn_r _ [40, 41, 42, 43, 44, 45, 17, 46, 32, 24, 30, 29, 47, 48, 49, 50, 51, 52, 53, 54, 55, 56, 57, 58, 59, 60, 61, 62, 63, 64, 65, 66, 67, 68, 69, 70, 71, 72, 73, 74, 75, 76, 77, 78, 79, 80, 81, 82, 83, 84, 85, 86, 87, 88, 89, 90, 91, 92, 93, 94, 95, 96, 26, 27, 28, 23, 31, 33, 34, 35, 97, 98, 99, 100, 101, 102, 103, 104, 105, 106, 107, 108, 109, 110, 111, 112, 113, 114, 115, 116, 117, 118, 119, 120, 121, 122, 123, 39, 124, 125, 126, 127, 128, 129, 130, 131, 132, 133, 134, 135, 136, 137, 138, 139, 140, 141, 142, 143, 144, 145, 146, 147, 148, 149, 150, 151, 152, 153, 154, 155, 156, 157, 158, 10, 159, 160, 161, 162, 163, 164, 165, 166, 167, 168, 169, 170, 171, 172, 173, 174, 175, 176, 177, 178, 179, 180, 181, 182, 183, 184, 185, 186, 187, 188, 189, 190, 191, 192, 193, 194, 195, 196, 197, 198, 199, 200, 201, 202, 203, 204, 205, 206, 207, 208, 209, 210, 211, 212, 213, 214, 215, 216, 217, 218, 219, 220, 221, 222, 223, 224, 299, 273, 274, 275, 276, 277, 278, 279, 280, 281, 282, 283, 284, 285, 286, 287, 288, 289, 290, 291, 292, 293, 294, 295, 296, 297, 298] (by decide +kernel) (by decide +kernel)
set_option maxRecDepth 20000 in
theorem gX8_load_X3_readHouse : GoodIn wsX8_load (wsV RX8 102 RX3 yX3_readHouse wsX3_readHouse) := goodIn_app (goodIn_of _ (by decide +kernel)) ggX8_load_X3_readHouse
set_option maxRecDepth 20000 in
theorem ggX8_load_X8_endReading : GoodIn wsX8_load wsX8_endReading := goodIn_r _ [228, 1, 229, 230, 2, 259, 260, 261, 262, 263, 264, 265, 266, 267, 268, 269, 270, 271, 272, 273, 274, 275, 276, 277, 278, 279] (by decide +kernel) (by decide +kernel)
set_option maxRecDepth 20000 in
theorem gX8_load_X8_endReading : GoodIn wsX8_load (wsV RX8 106 RX8 yX8_endReading wsX8_endReading) := goodIn_app (goodIn_of _ (by decide +kernel)) ggX8_load_X8_endReading
set_option maxRecDepth 20000 in
theorem ggX8_load_X2_copyFrom : GoodIn wsX8_load wsX2_copyFrom := goodIn_r _ [234, 106, 107, 108, 109, 110, 235, 236, 148, 237, 238, 239, 240, 149, 111, 112, 186, 187, 202, 188, 113, 114, 115, 116, 280, 281, 282, 283, 284, 285, 286, 287, 288, 289, 290, 291, 292, 293, 294, 295, 296, 297, 298] (by decide +kernel) (by decide +kernel)
set_option maxRecDepth 20000 in
theorem gX8_load_X2_copyFrom : GoodIn wsX8_load (wsV RX8 109 RX2 yX2_copyFrom wsX2_copyFrom) := goodIn_app (goodIn_of _ (by decide +kernel)) ggX8_load_X2_copyFrom
set_option maxRecDepth 20000 in
theorem ggX8_load_X8_markWalksChanged : GoodIn wsX8_load wsX8_markWalksChanged := goodIn_r _ [244, 5, 245, 246, 247, 248, 249, 10, 250, 251, 259, 260, 261, 262, 263, 264, 265, 266, 267, 268, 269, 270, 271, 272, 280, 281, 282, 283, 284, 285, 286, 287, 288, 289, 290, 291, 292, 293, 294, 295, 296, 297, 298] (by decide +kernel) (by decide +kernel)
set_option maxRecDepth 20000 in
theorem gX8_load_X8_markWalksChanged : GoodIn wsX8_load (wsV RX8 113 RX8 yX8_markWalksChanged wsX8_markWalksChanged) := goodIn_app (goodIn_of _ (by decide +kernel)) ggX8_load_X8_markWalksChanged
set_option maxRecDepth 20000 in
theorem ggX8_load_X1_forget : GoodIn wsX8_load wsX1_forget := goodIn_r _ [256, 257, 258, 300, 301, 302, 303, 304] (by decide +kernel) (by decide +kernel)
set_option maxRecDepth 20000 in
theorem gX8_load_X1_forget : GoodIn wsX8_load (wsV RX8 116 RX1 yX1_forget wsX1_forget) := goodIn_app (goodIn_of _ (by decide +kernel)) ggX8_load_X1_forget
theorem dX8_load_0 : decode cX8_load 0 = .ok (.iload_n 1, 1) := by decide +kernel
theorem dX8_load_1 : decode cX8_load 1 = .ok (.iconst 0, 1) := by decide +kernel
theorem dX8_load_2 : decode cX8_load 2 = .ok (.aload_n 0, 1) := by decide +kernel
theorem dX8_load_3 : decode cX8_load 3 = .ok (.getfield 53, 3) := by decide +kernel
theorem dX8_load_6 : decode cX8_load 6 = .ok (.getfield 91, 3) := by decide +kernel
theorem dX8_load_9 : decode cX8_load 9 = .ok (.invokestatic 97, 3) := by decide +kernel
theorem dX8_load_12 : decode cX8_load 12 = .ok (.aload_n 0, 1) := by decide +kernel
theorem dX8_load_13 : decode cX8_load 13 = .ok (.getfield 53, 3) := by decide +kernel
theorem dX8_load_16 : decode cX8_load 16 = .ok (.iload_n 1, 1) := by decide +kernel
theorem dX8_load_17 : decode cX8_load 17 = .ok (.invokevirtual 101, 3) := by decide +kernel
theorem dX8_load_20 : decode cX8_load 20 = .ok (.aload_n 0, 1) := by decide +kernel
theorem dX8_load_21 : decode cX8_load 21 = .ok (.getfield 62, 3) := by decide +kernel
theorem dX8_load_24 : decode cX8_load 24 = .ok (.aload_n 0, 1) := by decide +kernel
theorem dX8_load_25 : decode cX8_load 25 = .ok (.getfield 16, 3) := by decide +kernel
theorem dX8_load_28 : decode cX8_load 28 = .ok (.invokevirtual 102, 3) := by decide +kernel
theorem dX8_load_31 : decode cX8_load 31 = .ok (.istore_n 2, 1) := by decide +kernel
theorem dX8_load_32 : decode cX8_load 32 = .ok (.aload_n 0, 1) := by decide +kernel
theorem dX8_load_33 : decode cX8_load 33 = .ok (.iload_n 2, 1) := by decide +kernel
theorem dX8_load_34 : decode cX8_load 34 = .ok (.invokevirtual 106, 3) := by decide +kernel
theorem dX8_load_37 : decode cX8_load 37 = .ok (.iload_n 2, 1) := by decide +kernel
theorem dX8_load_38 : decode cX8_load 38 = .ok (.ifCond .eq 8, 3) := by decide +kernel
theorem dX8_load_41 : decode cX8_load 41 = .ok (.bipush (-10), 2) := by decide +kernel
theorem dX8_load_43 : decode cX8_load 43 = .ok (.iload_n 2, 1) := by decide +kernel
theorem dX8_load_44 : decode cX8_load 44 = .ok (.isub, 1) := by decide +kernel
theorem dX8_load_45 : decode cX8_load 45 = .ok (.ireturn, 1) := by decide +kernel
theorem dX8_load_46 : decode cX8_load 46 = .ok (.aload_n 0, 1) := by decide +kernel
theorem dX8_load_47 : decode cX8_load 47 = .ok (.getfield 10, 3) := by decide +kernel
theorem dX8_load_50 : decode cX8_load 50 = .ok (.aload_n 0, 1) := by decide +kernel
theorem dX8_load_51 : decode cX8_load 51 = .ok (.getfield 16, 3) := by decide +kernel
theorem dX8_load_54 : decode cX8_load 54 = .ok (.invokevirtual 109, 3) := by decide +kernel
theorem dX8_load_57 : decode cX8_load 57 = .ok (.aload_n 0, 1) := by decide +kernel
theorem dX8_load_58 : decode cX8_load 58 = .ok (.invokevirtual 113, 3) := by decide +kernel
theorem dX8_load_61 : decode cX8_load 61 = .ok (.aload_n 0, 1) := by decide +kernel
theorem dX8_load_62 : decode cX8_load 62 = .ok (.getfield 22, 3) := by decide +kernel
theorem dX8_load_65 : decode cX8_load 65 = .ok (.invokevirtual 116, 3) := by decide +kernel
theorem dX8_load_68 : decode cX8_load 68 = .ok (.aload_n 0, 1) := by decide +kernel
theorem dX8_load_69 : decode cX8_load 69 = .ok (.getfield 10, 3) := by decide +kernel
theorem dX8_load_72 : decode cX8_load 72 = .ok (.getfield 119, 3) := by decide +kernel
theorem dX8_load_75 : decode cX8_load 75 = .ok (.ireturn, 1) := by decide +kernel
theorem dX8_errorPosition_0 : decode cX8_errorPosition 0 = .ok (.aload_n 0, 1) := by decide +kernel
theorem dX8_errorPosition_1 : decode cX8_errorPosition 1 = .ok (.getfield 81, 3) := by decide +kernel
theorem dX8_errorPosition_4 : decode cX8_errorPosition 4 = .ok (.ireturn, 1) := by decide +kernel
set_option maxRecDepth 20000 in
theorem ggX8_size_X2_cycleLength : GoodIn wsX8_size wsX2_cycleLength := goodIn_r _ [13, 14, 15, 16, 17, 18, 133, 134, 135, 136, 137, 138, 139, 140, 141, 142, 143, 144, 145, 146, 147, 148, 149, 150, 151] (by decide +kernel) (by decide +kernel)
set_option maxRecDepth 20000 in
theorem gX8_size_X2_cycleLength : GoodIn wsX8_size (wsV RX8 128 RX2 yX2_cycleLength wsX2_cycleLength) := goodIn_app (goodIn_of _ (by decide +kernel)) ggX8_size_X2_cycleLength
set_option maxRecDepth 20000 in
theorem ggX8_size_X8_measured : GoodIn wsX8_size wsX8_measured := goodIn_r _ [22, 23, 24, 3, 25, 26, 27, 28, 29, 30, 31, 32, 33, 34, 35, 36, 37, 38, 39, 40, 41, 42, 43, 44, 45, 46, 47, 48, 49, 50, 51, 52, 53, 54, 10, 11, 12, 13, 14, 15, 16, 17, 18, 55, 56, 57, 58, 59, 60, 61, 62, 63, 64, 65, 66, 67, 68, 69, 70, 71, 72, 73, 74, 75, 76, 77, 119, 120, 121, 122, 123, 124, 125, 126, 127, 128, 129, 130, 131, 132, 152, 153, 154, 155, 156, 157, 158, 159, 133, 134, 135, 136, 137, 138, 139, 140, 141, 142, 143, 144, 145, 146, 147, 148, 149, 150, 151] (by decide +kernel) (by decide +kernel)
set_option maxRecDepth 20000 in
theorem gX8_size_X8_measured : GoodIn wsX8_size (wsV RX8 135 RX8 yX8_measured wsX8_measured) := goodIn_app (goodIn_of _ (by decide +kernel)) ggX8_size_X8_measured
set_option maxRecDepth 20000 in
theorem ggX8_size_X6_countLate : GoodIn wsX8_size wsX6_countLate := goodIn_r _ [81, 43, 82, 83, 84, 29, 85, 32, 86, 133, 134, 135, 136, 137, 138, 139, 140, 141, 142, 143, 144, 145, 146, 147, 148, 149, 150, 151, 152, 153, 154, 155, 156, 157, 158, 159] (by decide +kernel) (by decide +kernel)
set_option maxRecDepth 20000 in
theorem gX8_size_X6_countLate : GoodIn wsX8_size (wsV RX8 142 RX6 yX6_countLate wsX6_countLate) := goodIn_app (goodIn_of _ (by decide +kernel)) ggX8_size_X6_countLate
set_option maxRecDepth 20000 in
theorem ggX8_size_X2_countCrossings : GoodIn wsX8_size wsX2_countCrossings := goodIn_r _ [90, 14, 91, 92, 93, 12, 94, 95, 10, 11, 13, 15, 16, 17, 18, 96, 97, 98, 99, 100, 65, 66, 67, 68, 69, 133, 134, 135, 136, 137, 138, 139, 140, 141, 142, 143, 144, 145, 146, 147, 148, 149, 150, 151] (by decide +kernel) (by decide +kernel)
set_option maxRecDepth 20000 in
theorem gX8_size_X2_countCrossings : GoodIn wsX8_size (wsV RX8 145 RX2 yX2_countCrossings wsX2_countCrossings) := goodIn_app (goodIn_of _ (by decide +kernel)) ggX8_size_X2_countCrossings
set_option maxRecDepth 20000 in
theorem ggX8_size_X2_countOpenDoors : GoodIn wsX8_size wsX2_countOpenDoors := goodIn_r _ [104, 105, 106, 107, 108, 109, 110, 111, 112, 133, 134, 135, 136, 137, 138, 139, 140, 141, 142, 143, 144, 145, 146, 147, 148, 149, 150, 151] (by decide +kernel) (by decide +kernel)
set_option maxRecDepth 20000 in
theorem gX8_size_X2_countOpenDoors : GoodIn wsX8_size (wsV RX8 148 RX2 yX2_countOpenDoors wsX2_countOpenDoors) := goodIn_app (goodIn_of _ (by decide +kernel)) ggX8_size_X2_countOpenDoors
set_option maxRecDepth 20000 in
theorem ggX8_size_X2_countSightings : GoodIn wsX8_size wsX2_countSightings := goodIn_r _ [116, 117, 118, 133, 134, 135, 136, 137, 138, 139, 140, 141, 142, 143, 144, 145, 146, 147, 148, 149, 150, 151] (by decide +kernel) (by decide +kernel)
set_option maxRecDepth 20000 in
theorem gX8_size_X2_countSightings : GoodIn wsX8_size (wsV RX8 151 RX2 yX2_countSightings wsX2_countSightings) := goodIn_app (goodIn_of _ (by decide +kernel)) ggX8_size_X2_countSightings
theorem dX8_size_0 : decode cX8_size 0 = .ok (.iload_n 1, 1) := by decide +kernel
theorem dX8_size_1 : decode cX8_size 1 = .ok (.tableswitch 139 0 9 #[55, 63, 71, 79, 87, 95, 103, 115, 123, 131], 55) := by decide +kernel
theorem dX8_size_56 : decode cX8_size 56 = .ok (.aload_n 0, 1) := by decide +kernel
theorem dX8_size_57 : decode cX8_size 57 = .ok (.getfield 10, 3) := by decide +kernel
theorem dX8_size_60 : decode cX8_size 60 = .ok (.getfield 119, 3) := by decide +kernel
theorem dX8_size_63 : decode cX8_size 63 = .ok (.ireturn, 1) := by decide +kernel
theorem dX8_size_64 : decode cX8_size 64 = .ok (.aload_n 0, 1) := by decide +kernel
theorem dX8_size_65 : decode cX8_size 65 = .ok (.getfield 10, 3) := by decide +kernel
theorem dX8_size_68 : decode cX8_size 68 = .ok (.getfield 122, 3) := by decide +kernel
theorem dX8_size_71 : decode cX8_size 71 = .ok (.ireturn, 1) := by decide +kernel
theorem dX8_size_72 : decode cX8_size 72 = .ok (.aload_n 0, 1) := by decide +kernel
theorem dX8_size_73 : decode cX8_size 73 = .ok (.getfield 10, 3) := by decide +kernel
theorem dX8_size_76 : decode cX8_size 76 = .ok (.getfield 125, 3) := by decide +kernel
theorem dX8_size_79 : decode cX8_size 79 = .ok (.ireturn, 1) := by decide +kernel
theorem dX8_size_80 : decode cX8_size 80 = .ok (.aload_n 0, 1) := by decide +kernel
theorem dX8_size_81 : decode cX8_size 81 = .ok (.getfield 10, 3) := by decide +kernel
theorem dX8_size_84 : decode cX8_size 84 = .ok (.invokevirtual 128, 3) := by decide +kernel
theorem dX8_size_87 : decode cX8_size 87 = .ok (.ireturn, 1) := by decide +kernel
theorem dX8_size_88 : decode cX8_size 88 = .ok (.aload_n 0, 1) := by decide +kernel
theorem dX8_size_89 : decode cX8_size 89 = .ok (.getfield 10, 3) := by decide +kernel
theorem dX8_size_92 : decode cX8_size 92 = .ok (.getfield 132, 3) := by decide +kernel
theorem dX8_size_95 : decode cX8_size 95 = .ok (.ireturn, 1) := by decide +kernel
theorem dX8_size_96 : decode cX8_size 96 = .ok (.aload_n 0, 1) := by decide +kernel
theorem dX8_size_97 : decode cX8_size 97 = .ok (.invokevirtual 135, 3) := by decide +kernel
theorem dX8_size_100 : decode cX8_size 100 = .ok (.getfield 139, 3) := by decide +kernel
theorem dX8_size_103 : decode cX8_size 103 = .ok (.ireturn, 1) := by decide +kernel
theorem dX8_size_104 : decode cX8_size 104 = .ok (.aload_n 0, 1) := by decide +kernel
theorem dX8_size_105 : decode cX8_size 105 = .ok (.invokevirtual 135, 3) := by decide +kernel
theorem dX8_size_108 : decode cX8_size 108 = .ok (.aload_n 0, 1) := by decide +kernel
theorem dX8_size_109 : decode cX8_size 109 = .ok (.getfield 10, 3) := by decide +kernel
theorem dX8_size_112 : decode cX8_size 112 = .ok (.invokevirtual 142, 3) := by decide +kernel
theorem dX8_size_115 : decode cX8_size 115 = .ok (.ireturn, 1) := by decide +kernel
theorem dX8_size_116 : decode cX8_size 116 = .ok (.aload_n 0, 1) := by decide +kernel
theorem dX8_size_117 : decode cX8_size 117 = .ok (.getfield 10, 3) := by decide +kernel
theorem dX8_size_120 : decode cX8_size 120 = .ok (.invokevirtual 145, 3) := by decide +kernel
theorem dX8_size_123 : decode cX8_size 123 = .ok (.ireturn, 1) := by decide +kernel
theorem dX8_size_124 : decode cX8_size 124 = .ok (.aload_n 0, 1) := by decide +kernel
theorem dX8_size_125 : decode cX8_size 125 = .ok (.getfield 10, 3) := by decide +kernel
theorem dX8_size_128 : decode cX8_size 128 = .ok (.invokevirtual 148, 3) := by decide +kernel
theorem dX8_size_131 : decode cX8_size 131 = .ok (.ireturn, 1) := by decide +kernel
theorem dX8_size_132 : decode cX8_size 132 = .ok (.aload_n 0, 1) := by decide +kernel
theorem dX8_size_133 : decode cX8_size 133 = .ok (.getfield 10, 3) := by decide +kernel
theorem dX8_size_136 : decode cX8_size 136 = .ok (.invokevirtual 151, 3) := by decide +kernel
theorem dX8_size_139 : decode cX8_size 139 = .ok (.ireturn, 1) := by decide +kernel
theorem dX8_size_140 : decode cX8_size 140 = .ok (.new 154, 3) := by decide +kernel
theorem dX8_size_143 : decode cX8_size 143 = .ok (.dup, 1) := by decide +kernel
theorem dX8_size_144 : decode cX8_size 144 = .ok (.ldc 156, 2) := by decide +kernel
theorem dX8_size_146 : decode cX8_size 146 = .ok (.invokespecial 158, 3) := by decide +kernel
theorem dX8_size_149 : decode cX8_size 149 = .ok (.athrow, 1) := by decide +kernel
set_option maxRecDepth 20000 in
theorem ggX8_door_X8_needDoor : GoodIn wsX8_door wsX8_needDoor := goodIn_ca (goodIn_r _ [10, 1, 2, 3, 11, 12, 13, 14, 15, 16, 50, 51, 52, 53, 54, 55, 56, 57, 58, 59, 60, 61, 62, 63, 64, 65, 66, 67, 68, 69, 70, 71, 72, 73, 74, 75, 76, 77, 78, 79, 80, 81, 82] (by decide +kernel) (by decide +kernel)) (goodIn_sub (fun _ h => List.mem_cons_of_mem _ (List.mem_append_right _ h)) (by decide +kernel))
set_option maxRecDepth 20000 in
theorem gX8_door_X8_needDoor : GoodIn wsX8_door (wsV RX8 161 RX8 yX8_needDoor wsX8_needDoor) := goodIn_app (goodIn_of _ (by decide +kernel)) ggX8_door_X8_needDoor
set_option maxRecDepth 20000 in
theorem ggX8_door_X2_isOpen : GoodIn wsX8_door wsX2_isOpen := goodIn_r _ [20, 21, 22, 9, 23, 64, 65, 66, 67, 68, 69, 70, 71, 72, 73, 74, 75, 76, 77, 78, 79, 80, 81, 82] (by decide +kernel) (by decide +kernel)
set_option maxRecDepth 20000 in
theorem gX8_door_X2_isOpen : GoodIn wsX8_door (wsV RX8 170 RX2 yX2_isOpen wsX2_isOpen) := goodIn_app (goodIn_of _ (by decide +kernel)) ggX8_door_X2_isOpen
set_option maxRecDepth 20000 in
theorem ggX8_door_X2_countGuardsThrough : GoodIn wsX8_door wsX2_countGuardsThrough := goodIn_r _ [27, 28, 29, 30, 31, 12, 13, 14, 15, 16, 32, 33, 34, 35, 36, 37, 38, 39, 40, 41, 42, 43, 44, 45, 46, 47, 48, 49, 64, 65, 66, 67, 68, 69, 70, 71, 72, 73, 74, 75, 76, 77, 78, 79, 80, 81, 82] (by decide +kernel) (by decide +kernel)
set_option maxRecDepth 20000 in
theorem gX8_door_X2_countGuardsThrough : GoodIn wsX8_door (wsV RX8 174 RX2 yX2_countGuardsThrough wsX2_countGuardsThrough) := goodIn_app (goodIn_of _ (by decide +kernel)) ggX8_door_X2_countGuardsThrough
theorem dX8_door_0 : decode cX8_door 0 = .ok (.aload_n 0, 1) := by decide +kernel
theorem dX8_door_1 : decode cX8_door 1 = .ok (.iload_n 1, 1) := by decide +kernel
theorem dX8_door_2 : decode cX8_door 2 = .ok (.invokevirtual 161, 3) := by decide +kernel
theorem dX8_door_5 : decode cX8_door 5 = .ok (.iload_n 2, 1) := by decide +kernel
theorem dX8_door_6 : decode cX8_door 6 = .ok (.tableswitch 76 0 3 #[30, 40, 50, 67], 30) := by decide +kernel
theorem dX8_door_36 : decode cX8_door 36 = .ok (.aload_n 0, 1) := by decide +kernel
theorem dX8_door_37 : decode cX8_door 37 = .ok (.getfield 10, 3) := by decide +kernel
theorem dX8_door_40 : decode cX8_door 40 = .ok (.getfield 164, 3) := by decide +kernel
theorem dX8_door_43 : decode cX8_door 43 = .ok (.iload_n 1, 1) := by decide +kernel
theorem dX8_door_44 : decode cX8_door 44 = .ok (.iaload, 1) := by decide +kernel
theorem dX8_door_45 : decode cX8_door 45 = .ok (.ireturn, 1) := by decide +kernel
theorem dX8_door_46 : decode cX8_door 46 = .ok (.aload_n 0, 1) := by decide +kernel
theorem dX8_door_47 : decode cX8_door 47 = .ok (.getfield 10, 3) := by decide +kernel
theorem dX8_door_50 : decode cX8_door 50 = .ok (.getfield 167, 3) := by decide +kernel
theorem dX8_door_53 : decode cX8_door 53 = .ok (.iload_n 1, 1) := by decide +kernel
theorem dX8_door_54 : decode cX8_door 54 = .ok (.iaload, 1) := by decide +kernel
theorem dX8_door_55 : decode cX8_door 55 = .ok (.ireturn, 1) := by decide +kernel
theorem dX8_door_56 : decode cX8_door 56 = .ok (.aload_n 0, 1) := by decide +kernel
theorem dX8_door_57 : decode cX8_door 57 = .ok (.getfield 10, 3) := by decide +kernel
theorem dX8_door_60 : decode cX8_door 60 = .ok (.iload_n 1, 1) := by decide +kernel
theorem dX8_door_61 : decode cX8_door 61 = .ok (.invokevirtual 170, 3) := by decide +kernel
theorem dX8_door_64 : decode cX8_door 64 = .ok (.ifCond .eq 7, 3) := by decide +kernel
theorem dX8_door_67 : decode cX8_door 67 = .ok (.iconst 1, 1) := by decide +kernel
theorem dX8_door_68 : decode cX8_door 68 = .ok (.goto 4, 3) := by decide +kernel
theorem dX8_door_71 : decode cX8_door 71 = .ok (.iconst 0, 1) := by decide +kernel
theorem dX8_door_72 : decode cX8_door 72 = .ok (.ireturn, 1) := by decide +kernel
theorem dX8_door_73 : decode cX8_door 73 = .ok (.aload_n 0, 1) := by decide +kernel
theorem dX8_door_74 : decode cX8_door 74 = .ok (.getfield 10, 3) := by decide +kernel
theorem dX8_door_77 : decode cX8_door 77 = .ok (.iload_n 1, 1) := by decide +kernel
theorem dX8_door_78 : decode cX8_door 78 = .ok (.invokevirtual 174, 3) := by decide +kernel
theorem dX8_door_81 : decode cX8_door 81 = .ok (.ireturn, 1) := by decide +kernel
theorem dX8_door_82 : decode cX8_door 82 = .ok (.new 154, 3) := by decide +kernel
theorem dX8_door_85 : decode cX8_door 85 = .ok (.dup, 1) := by decide +kernel
theorem dX8_door_86 : decode cX8_door 86 = .ok (.ldc 178, 2) := by decide +kernel
theorem dX8_door_88 : decode cX8_door 88 = .ok (.invokespecial 158, 3) := by decide +kernel
theorem dX8_door_91 : decode cX8_door 91 = .ok (.athrow, 1) := by decide +kernel
set_option maxRecDepth 20000 in
theorem ggX8_room_X8_needRoom : GoodIn wsX8_room wsX8_needRoom := goodIn_ca (goodIn_r _ [15, 1, 2, 3, 16, 17, 18, 19, 20, 21, 93, 94, 95, 96, 97, 98, 99, 100, 101, 102, 103, 104, 105, 106, 107, 108, 109, 110, 111, 112, 113, 114, 115, 116, 117, 118, 119, 120, 121, 122, 123, 124, 125] (by decide +kernel) (by decide +kernel)) (goodIn_sub (fun _ h => List.mem_cons_of_mem _ (List.mem_append_right _ h)) (by decide +kernel))
set_option maxRecDepth 20000 in
theorem gX8_room_X8_needRoom : GoodIn wsX8_room (wsV RX8 180 RX8 yX8_needRoom wsX8_needRoom) := goodIn_app (goodIn_of _ (by decide +kernel)) ggX8_room_X8_needRoom
set_option maxRecDepth 20000 in
theorem ggX8_room_X8_measured : GoodIn wsX8_room wsX8_measured := goodIn_r _ [25, 26, 27, 3, 28, 29, 30, 31, 32, 33, 34, 35, 36, 37, 38, 39, 40, 41, 42, 43, 44, 45, 46, 47, 48, 49, 50, 51, 52, 53, 54, 55, 56, 57, 58, 59, 19, 60, 61, 62, 63, 14, 64, 65, 66, 67, 68, 69, 70, 71, 72, 73, 74, 75, 76, 77, 78, 79, 80, 81, 82, 83, 84, 85, 86, 87, 93, 94, 95, 96, 97, 98, 99, 100, 101, 102, 103, 104, 105, 106, 126, 127, 128, 129, 130, 131, 132, 133, 107, 108, 109, 110, 111, 112, 113, 114, 115, 116, 117, 118, 119, 120, 121, 122, 123, 124, 125] (by decide +kernel) (by decide +kernel)
set_option maxRecDepth 20000 in
theorem gX8_room_X8_measured : GoodIn wsX8_room (wsV RX8 135 RX8 yX8_measured wsX8_measured) := goodIn_app (goodIn_of _ (by decide +kernel)) ggX8_room_X8_measured
set_option maxRecDepth 20000 in
theorem ggX8_room_X6_isLate : GoodIn wsX8_room wsX6_isLate := goodIn_r _ [91, 35, 92, 126, 127, 128, 129, 130, 131, 132, 133, 107, 108, 109, 110, 111, 112, 113, 114, 115, 116, 117, 118, 119, 120, 121, 122, 123, 124, 125] (by decide +kernel) (by decide +kernel)
set_option maxRecDepth 20000 in
theorem gX8_room_X6_isLate : GoodIn wsX8_room (wsV RX8 189 RX6 yX6_isLate wsX6_isLate) := goodIn_app (goodIn_of _ (by decide +kernel)) ggX8_room_X6_isLate
theorem dX8_room_0 : decode cX8_room 0 = .ok (.aload_n 0, 1) := by decide +kernel
theorem dX8_room_1 : decode cX8_room 1 = .ok (.iload_n 1, 1) := by decide +kernel
theorem dX8_room_2 : decode cX8_room 2 = .ok (.invokevirtual 180, 3) := by decide +kernel
theorem dX8_room_5 : decode cX8_room 5 = .ok (.iload_n 2, 1) := by decide +kernel
theorem dX8_room_6 : decode cX8_room 6 = .ok (.tableswitch 137 0 7 #[46, 56, 66, 87, 97, 107, 117, 127], 46) := by decide +kernel
theorem dX8_room_52 : decode cX8_room 52 = .ok (.aload_n 0, 1) := by decide +kernel
theorem dX8_room_53 : decode cX8_room 53 = .ok (.getfield 10, 3) := by decide +kernel
theorem dX8_room_56 : decode cX8_room 56 = .ok (.getfield 183, 3) := by decide +kernel
theorem dX8_room_59 : decode cX8_room 59 = .ok (.iload_n 1, 1) := by decide +kernel
theorem dX8_room_60 : decode cX8_room 60 = .ok (.iaload, 1) := by decide +kernel
theorem dX8_room_61 : decode cX8_room 61 = .ok (.ireturn, 1) := by decide +kernel
theorem dX8_room_62 : decode cX8_room 62 = .ok (.aload_n 0, 1) := by decide +kernel
theorem dX8_room_63 : decode cX8_room 63 = .ok (.invokevirtual 135, 3) := by decide +kernel
theorem dX8_room_66 : decode cX8_room 66 = .ok (.getfield 186, 3) := by decide +kernel
theorem dX8_room_69 : decode cX8_room 69 = .ok (.iload_n 1, 1) := by decide +kernel
theorem dX8_room_70 : decode cX8_room 70 = .ok (.iaload, 1) := by decide +kernel
theorem dX8_room_71 : decode cX8_room 71 = .ok (.ireturn, 1) := by decide +kernel
theorem dX8_room_72 : decode cX8_room 72 = .ok (.aload_n 0, 1) := by decide +kernel
theorem dX8_room_73 : decode cX8_room 73 = .ok (.invokevirtual 135, 3) := by decide +kernel
theorem dX8_room_76 : decode cX8_room 76 = .ok (.aload_n 0, 1) := by decide +kernel
theorem dX8_room_77 : decode cX8_room 77 = .ok (.getfield 10, 3) := by decide +kernel
theorem dX8_room_80 : decode cX8_room 80 = .ok (.iload_n 1, 1) := by decide +kernel
theorem dX8_room_81 : decode cX8_room 81 = .ok (.invokevirtual 189, 3) := by decide +kernel
theorem dX8_room_84 : decode cX8_room 84 = .ok (.ifCond .eq 7, 3) := by decide +kernel
theorem dX8_room_87 : decode cX8_room 87 = .ok (.iconst 1, 1) := by decide +kernel
theorem dX8_room_88 : decode cX8_room 88 = .ok (.goto 4, 3) := by decide +kernel
theorem dX8_room_91 : decode cX8_room 91 = .ok (.iconst 0, 1) := by decide +kernel
theorem dX8_room_92 : decode cX8_room 92 = .ok (.ireturn, 1) := by decide +kernel
theorem dX8_room_93 : decode cX8_room 93 = .ok (.aload_n 0, 1) := by decide +kernel
theorem dX8_room_94 : decode cX8_room 94 = .ok (.invokevirtual 135, 3) := by decide +kernel
theorem dX8_room_97 : decode cX8_room 97 = .ok (.getfield 193, 3) := by decide +kernel
theorem dX8_room_100 : decode cX8_room 100 = .ok (.iload_n 1, 1) := by decide +kernel
theorem dX8_room_101 : decode cX8_room 101 = .ok (.iaload, 1) := by decide +kernel
theorem dX8_room_102 : decode cX8_room 102 = .ok (.ireturn, 1) := by decide +kernel
theorem dX8_room_103 : decode cX8_room 103 = .ok (.aload_n 0, 1) := by decide +kernel
theorem dX8_room_104 : decode cX8_room 104 = .ok (.getfield 10, 3) := by decide +kernel
theorem dX8_room_107 : decode cX8_room 107 = .ok (.getfield 196, 3) := by decide +kernel
theorem dX8_room_110 : decode cX8_room 110 = .ok (.iload_n 1, 1) := by decide +kernel
theorem dX8_room_111 : decode cX8_room 111 = .ok (.iaload, 1) := by decide +kernel
theorem dX8_room_112 : decode cX8_room 112 = .ok (.ireturn, 1) := by decide +kernel
theorem dX8_room_113 : decode cX8_room 113 = .ok (.aload_n 0, 1) := by decide +kernel
theorem dX8_room_114 : decode cX8_room 114 = .ok (.getfield 10, 3) := by decide +kernel
theorem dX8_room_117 : decode cX8_room 117 = .ok (.getfield 198, 3) := by decide +kernel
theorem dX8_room_120 : decode cX8_room 120 = .ok (.iload_n 1, 1) := by decide +kernel
theorem dX8_room_121 : decode cX8_room 121 = .ok (.iaload, 1) := by decide +kernel
theorem dX8_room_122 : decode cX8_room 122 = .ok (.ireturn, 1) := by decide +kernel
theorem dX8_room_123 : decode cX8_room 123 = .ok (.aload_n 0, 1) := by decide +kernel
theorem dX8_room_124 : decode cX8_room 124 = .ok (.getfield 10, 3) := by decide +kernel
theorem dX8_room_127 : decode cX8_room 127 = .ok (.getfield 201, 3) := by decide +kernel
theorem dX8_room_130 : decode cX8_room 130 = .ok (.iload_n 1, 1) := by decide +kernel
theorem dX8_room_131 : decode cX8_room 131 = .ok (.iaload, 1) := by decide +kernel
theorem dX8_room_132 : decode cX8_room 132 = .ok (.ireturn, 1) := by decide +kernel
theorem dX8_room_133 : decode cX8_room 133 = .ok (.aload_n 0, 1) := by decide +kernel
theorem dX8_room_134 : decode cX8_room 134 = .ok (.getfield 10, 3) := by decide +kernel
theorem dX8_room_137 : decode cX8_room 137 = .ok (.getfield 204, 3) := by decide +kernel
theorem dX8_room_140 : decode cX8_room 140 = .ok (.iload_n 1, 1) := by decide +kernel
theorem dX8_room_141 : decode cX8_room 141 = .ok (.iaload, 1) := by decide +kernel
theorem dX8_room_142 : decode cX8_room 142 = .ok (.ireturn, 1) := by decide +kernel
theorem dX8_room_143 : decode cX8_room 143 = .ok (.new 154, 3) := by decide +kernel
theorem dX8_room_146 : decode cX8_room 146 = .ok (.dup, 1) := by decide +kernel
theorem dX8_room_147 : decode cX8_room 147 = .ok (.ldc 207, 2) := by decide +kernel
theorem dX8_room_149 : decode cX8_room 149 = .ok (.invokespecial 158, 3) := by decide +kernel
theorem dX8_room_152 : decode cX8_room 152 = .ok (.athrow, 1) := by decide +kernel
set_option maxRecDepth 20000 in
theorem ggX8_guard_X8_needGuard : GoodIn wsX8_guard wsX8_needGuard := goodIn_ca (goodIn_r _ [12, 1, 2, 3, 13, 14, 15, 16, 17, 18, 34, 35, 36, 37, 38, 39, 40, 41, 42, 43, 44, 45, 46, 47, 48, 49, 50, 51, 52, 53, 54, 55, 56, 57, 58, 59, 60, 61, 62, 63, 64, 65, 66] (by decide +kernel) (by decide +kernel)) (goodIn_sub (fun _ h => List.mem_cons_of_mem _ (List.mem_append_right _ h)) (by decide +kernel))
set_option maxRecDepth 20000 in
theorem gX8_guard_X8_needGuard : GoodIn wsX8_guard (wsV RX8 209 RX8 yX8_needGuard wsX8_needGuard) := goodIn_app (goodIn_of _ (by decide +kernel)) ggX8_guard_X8_needGuard
set_option maxRecDepth 20000 in
theorem ggX8_guard_X2_roomAt : GoodIn wsX8_guard wsX2_roomAt := goodIn_r _ [22, 23, 24, 25, 26, 14, 15, 16, 17, 18, 48, 49, 50, 51, 52, 53, 54, 55, 56, 57, 58, 59, 60, 61, 62, 63, 64, 65, 66] (by decide +kernel) (by decide +kernel)
set_option maxRecDepth 20000 in
theorem gX8_guard_X2_roomAt : GoodIn wsX8_guard (wsV RX8 218 RX2 yX2_roomAt wsX2_roomAt) := goodIn_app (goodIn_of _ (by decide +kernel)) ggX8_guard_X2_roomAt
set_option maxRecDepth 20000 in
theorem ggX8_guard_J6_bitCount_0f7a4 : GoodIn wsX8_guard wsJ6_bitCount_0f7a4 := goodIn_r _ [30, 31, 32, 33] (by decide +kernel) (by decide +kernel)
set_option maxRecDepth 20000 in
theorem gX8_guard_J6_bitCount_0f7a4 : GoodIn wsX8_guard (va_wsS RX8 225 yJ6_bitCount_0f7a4 wsJ6_bitCount_0f7a4) := goodIn_app (goodIn_of _ (by decide +kernel)) ggX8_guard_J6_bitCount_0f7a4
theorem dX8_guard_0 : decode cX8_guard 0 = .ok (.aload_n 0, 1) := by decide +kernel
theorem dX8_guard_1 : decode cX8_guard 1 = .ok (.iload_n 1, 1) := by decide +kernel
theorem dX8_guard_2 : decode cX8_guard 2 = .ok (.invokevirtual 209, 3) := by decide +kernel
theorem dX8_guard_5 : decode cX8_guard 5 = .ok (.iload_n 2, 1) := by decide +kernel
theorem dX8_guard_6 : decode cX8_guard 6 = .ok (.tableswitch 79 0 3 #[30, 40, 50, 66], 30) := by decide +kernel
theorem dX8_guard_36 : decode cX8_guard 36 = .ok (.aload_n 0, 1) := by decide +kernel
theorem dX8_guard_37 : decode cX8_guard 37 = .ok (.getfield 10, 3) := by decide +kernel
theorem dX8_guard_40 : decode cX8_guard 40 = .ok (.getfield 212, 3) := by decide +kernel
theorem dX8_guard_43 : decode cX8_guard 43 = .ok (.iload_n 1, 1) := by decide +kernel
theorem dX8_guard_44 : decode cX8_guard 44 = .ok (.iaload, 1) := by decide +kernel
theorem dX8_guard_45 : decode cX8_guard 45 = .ok (.ireturn, 1) := by decide +kernel
theorem dX8_guard_46 : decode cX8_guard 46 = .ok (.aload_n 0, 1) := by decide +kernel
theorem dX8_guard_47 : decode cX8_guard 47 = .ok (.getfield 10, 3) := by decide +kernel
theorem dX8_guard_50 : decode cX8_guard 50 = .ok (.getfield 215, 3) := by decide +kernel
theorem dX8_guard_53 : decode cX8_guard 53 = .ok (.iload_n 1, 1) := by decide +kernel
theorem dX8_guard_54 : decode cX8_guard 54 = .ok (.iaload, 1) := by decide +kernel
theorem dX8_guard_55 : decode cX8_guard 55 = .ok (.ireturn, 1) := by decide +kernel
theorem dX8_guard_56 : decode cX8_guard 56 = .ok (.aload_n 0, 1) := by decide +kernel
theorem dX8_guard_57 : decode cX8_guard 57 = .ok (.getfield 10, 3) := by decide +kernel
theorem dX8_guard_60 : decode cX8_guard 60 = .ok (.iload_n 1, 1) := by decide +kernel
theorem dX8_guard_61 : decode cX8_guard 61 = .ok (.aload_n 0, 1) := by decide +kernel
theorem dX8_guard_62 : decode cX8_guard 62 = .ok (.getfield 10, 3) := by decide +kernel
theorem dX8_guard_65 : decode cX8_guard 65 = .ok (.getfield 132, 3) := by decide +kernel
theorem dX8_guard_68 : decode cX8_guard 68 = .ok (.invokevirtual 218, 3) := by decide +kernel
theorem dX8_guard_71 : decode cX8_guard 71 = .ok (.ireturn, 1) := by decide +kernel
theorem dX8_guard_72 : decode cX8_guard 72 = .ok (.aload_n 0, 1) := by decide +kernel
theorem dX8_guard_73 : decode cX8_guard 73 = .ok (.getfield 10, 3) := by decide +kernel
theorem dX8_guard_76 : decode cX8_guard 76 = .ok (.getfield 222, 3) := by decide +kernel
theorem dX8_guard_79 : decode cX8_guard 79 = .ok (.iload_n 1, 1) := by decide +kernel
theorem dX8_guard_80 : decode cX8_guard 80 = .ok (.iaload, 1) := by decide +kernel
theorem dX8_guard_81 : decode cX8_guard 81 = .ok (.invokestatic 225, 3) := by decide +kernel
theorem dX8_guard_84 : decode cX8_guard 84 = .ok (.ireturn, 1) := by decide +kernel
theorem dX8_guard_85 : decode cX8_guard 85 = .ok (.new 154, 3) := by decide +kernel
theorem dX8_guard_88 : decode cX8_guard 88 = .ok (.dup, 1) := by decide +kernel
theorem dX8_guard_89 : decode cX8_guard 89 = .ok (.ldc 230, 2) := by decide +kernel
theorem dX8_guard_91 : decode cX8_guard 91 = .ok (.invokespecial 158, 3) := by decide +kernel
theorem dX8_guard_94 : decode cX8_guard 94 = .ok (.athrow, 1) := by decide +kernel
set_option maxRecDepth 20000 in
theorem ggX8_walk_X8_needGuard : GoodIn wsX8_walk wsX8_needGuard := goodIn_ca (goodIn_r _ [6, 7, 8, 1, 9, 10, 11, 12, 13, 14, 22, 23, 24, 25, 26, 27, 28, 29, 30, 31, 32, 33, 34, 35, 36, 37, 38, 39, 40, 41, 42, 43, 44, 45, 46, 47, 48, 49, 50, 51, 52, 53, 54] (by decide +kernel) (by decide +kernel)) (goodIn_sub (fun _ h => List.mem_cons_of_mem _ (List.mem_append_right _ h)) (by decide +kernel))
set_option maxRecDepth 20000 in
theorem gX8_walk_X8_needGuard : GoodIn wsX8_walk (wsV RX8 209 RX8 yX8_needGuard wsX8_needGuard) := goodIn_app (goodIn_of _ (by decide +kernel)) ggX8_walk_X8_needGuard
set_option maxRecDepth 20000 in
theorem ggX8_walk_X2_walkRoom : GoodIn wsX8_walk wsX2_walkRoom := goodIn_r _ [18, 19, 20, 21, 10, 11, 12, 13, 14, 36, 37, 38, 39, 40, 41, 42, 43, 44, 45, 46, 47, 48, 49, 50, 51, 52, 53, 54] (by decide +kernel) (by decide +kernel)
set_option maxRecDepth 20000 in
theorem gX8_walk_X2_walkRoom : GoodIn wsX8_walk (wsV RX8 232 RX2 yX2_walkRoom wsX2_walkRoom) := goodIn_app (goodIn_of _ (by decide +kernel)) ggX8_walk_X2_walkRoom
theorem dX8_walk_0 : decode cX8_walk 0 = .ok (.aload_n 0, 1) := by decide +kernel
theorem dX8_walk_1 : decode cX8_walk 1 = .ok (.iload_n 1, 1) := by decide +kernel
theorem dX8_walk_2 : decode cX8_walk 2 = .ok (.invokevirtual 209, 3) := by decide +kernel
theorem dX8_walk_5 : decode cX8_walk 5 = .ok (.aload_n 0, 1) := by decide +kernel
theorem dX8_walk_6 : decode cX8_walk 6 = .ok (.getfield 10, 3) := by decide +kernel
theorem dX8_walk_9 : decode cX8_walk 9 = .ok (.iload_n 1, 1) := by decide +kernel
theorem dX8_walk_10 : decode cX8_walk 10 = .ok (.iload_n 2, 1) := by decide +kernel
theorem dX8_walk_11 : decode cX8_walk 11 = .ok (.invokevirtual 232, 3) := by decide +kernel
theorem dX8_walk_14 : decode cX8_walk 14 = .ok (.ireturn, 1) := by decide +kernel
set_option maxRecDepth 20000 in
theorem ggX8_roomOf_X8_needGuard : GoodIn wsX8_roomOf wsX8_needGuard := goodIn_ca (goodIn_r _ [6, 7, 8, 1, 9, 10, 11, 12, 13, 14, 28, 29, 30, 31, 32, 33, 34, 35, 36, 37, 38, 39, 40, 41, 42, 43, 44, 45, 46, 47, 48, 49, 50, 51, 52, 53, 54, 55, 56, 57, 58, 59, 60] (by decide +kernel) (by decide +kernel)) (goodIn_sub (fun _ h => List.mem_cons_of_mem _ (List.mem_append_left _ (List.mem_append_right _ h))) (by decide +kernel))
set_option maxRecDepth 20000 in
theorem gX8_roomOf_X8_needGuard : GoodIn wsX8_roomOf (wsV RX8 209 RX8 yX8_needGuard wsX8_needGuard) := goodIn_app (goodIn_of _ (by decide +kernel)) ggX8_roomOf_X8_needGuard

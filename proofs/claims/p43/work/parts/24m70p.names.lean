theorem dX6_seeRoom_105 : decode cX6_seeRoom 105 = .ok (.iadd, 1) := by decide +kernel
theorem dX6_seeRoom_106 : decode cX6_seeRoom 106 = .ok (.iastore, 1) := by decide +kernel
theorem dX6_seeRoom_107 : decode cX6_seeRoom 107 = .ok (.return_, 1) := by decide +kernel
theorem dX6_closeRound_0 : decode cX6_closeRound 0 = .ok (.iload_n 1, 1) := by decide +kernel
theorem dX6_closeRound_1 : decode cX6_closeRound 1 = .ok (.ifCond .lt 9, 3) := by decide +kernel
theorem dX6_closeRound_4 : decode cX6_closeRound 4 = .ok (.iload_n 1, 1) := by decide +kernel
theorem dX6_closeRound_5 : decode cX6_closeRound 5 = .ok (.bipush 12, 2) := by decide +kernel
theorem dX6_closeRound_7 : decode cX6_closeRound 7 = .ok (.if_icmp .lt 4, 3) := by decide +kernel
theorem dX6_closeRound_10 : decode cX6_closeRound 10 = .ok (.return_, 1) := by decide +kernel
theorem dX6_closeRound_11 : decode cX6_closeRound 11 = .ok (.aload_n 0, 1) := by decide +kernel
theorem dX6_closeRound_12 : decode cX6_closeRound 12 = .ok (.getfield 24, 3) := by decide +kernel
theorem dX6_closeRound_15 : decode cX6_closeRound 15 = .ok (.iload_n 1, 1) := by decide +kernel
theorem dX6_closeRound_16 : decode cX6_closeRound 16 = .ok (.iaload, 1) := by decide +kernel
theorem dX6_closeRound_17 : decode cX6_closeRound 17 = .ok (.iconst (-1), 1) := by decide +kernel
theorem dX6_closeRound_18 : decode cX6_closeRound 18 = .ok (.if_icmp .ne 11, 3) := by decide +kernel
theorem dX6_closeRound_21 : decode cX6_closeRound 21 = .ok (.aload_n 0, 1) := by decide +kernel
theorem dX6_closeRound_22 : decode cX6_closeRound 22 = .ok (.getfield 15, 3) := by decide +kernel
theorem dX6_closeRound_25 : decode cX6_closeRound 25 = .ok (.iload_n 1, 1) := by decide +kernel
theorem dX6_closeRound_26 : decode cX6_closeRound 26 = .ok (.iconst (-1), 1) := by decide +kernel
theorem dX6_closeRound_27 : decode cX6_closeRound 27 = .ok (.iastore, 1) := by decide +kernel
theorem dX6_closeRound_28 : decode cX6_closeRound 28 = .ok (.return_, 1) := by decide +kernel
theorem dX6_closeRound_29 : decode cX6_closeRound 29 = .ok (.aload_n 0, 1) := by decide +kernel
theorem dX6_closeRound_30 : decode cX6_closeRound 30 = .ok (.getfield 21, 3) := by decide +kernel
theorem dX6_closeRound_33 : decode cX6_closeRound 33 = .ok (.iload_n 1, 1) := by decide +kernel
theorem dX6_closeRound_34 : decode cX6_closeRound 34 = .ok (.iaload, 1) := by decide +kernel
theorem dX6_closeRound_35 : decode cX6_closeRound 35 = .ok (.iload_n 2, 1) := by decide +kernel
theorem dX6_closeRound_36 : decode cX6_closeRound 36 = .ok (.iadd, 1) := by decide +kernel
theorem dX6_closeRound_37 : decode cX6_closeRound 37 = .ok (.aload_n 0, 1) := by decide +kernel
theorem dX6_closeRound_38 : decode cX6_closeRound 38 = .ok (.getfield 24, 3) := by decide +kernel
theorem dX6_closeRound_41 : decode cX6_closeRound 41 = .ok (.iload_n 1, 1) := by decide +kernel
theorem dX6_closeRound_42 : decode cX6_closeRound 42 = .ok (.iaload, 1) := by decide +kernel
theorem dX6_closeRound_43 : decode cX6_closeRound 43 = .ok (.isub, 1) := by decide +kernel
theorem dX6_closeRound_44 : decode cX6_closeRound 44 = .ok (.iconst 1, 1) := by decide +kernel
theorem dX6_closeRound_45 : decode cX6_closeRound 45 = .ok (.isub, 1) := by decide +kernel
theorem dX6_closeRound_46 : decode cX6_closeRound 46 = .ok (.istore_n 3, 1) := by decide +kernel
theorem dX6_closeRound_47 : decode cX6_closeRound 47 = .ok (.aload_n 0, 1) := by decide +kernel
theorem dX6_closeRound_48 : decode cX6_closeRound 48 = .ok (.getfield 24, 3) := by decide +kernel
theorem dX6_closeRound_51 : decode cX6_closeRound 51 = .ok (.iload_n 1, 1) := by decide +kernel
theorem dX6_closeRound_52 : decode cX6_closeRound 52 = .ok (.iaload, 1) := by decide +kernel
theorem dX6_closeRound_53 : decode cX6_closeRound 53 = .ok (.iconst 1, 1) := by decide +kernel
theorem dX6_closeRound_54 : decode cX6_closeRound 54 = .ok (.iadd, 1) := by decide +kernel
theorem dX6_closeRound_55 : decode cX6_closeRound 55 = .ok (.iload_n 2, 1) := by decide +kernel
theorem dX6_closeRound_56 : decode cX6_closeRound 56 = .ok (.if_icmp .ge 14, 3) := by decide +kernel
theorem dX6_closeRound_59 : decode cX6_closeRound 59 = .ok (.aload_n 0, 1) := by decide +kernel
theorem dX6_closeRound_60 : decode cX6_closeRound 60 = .ok (.getfield 24, 3) := by decide +kernel
theorem dX6_closeRound_63 : decode cX6_closeRound 63 = .ok (.iload_n 1, 1) := by decide +kernel
theorem dX6_closeRound_64 : decode cX6_closeRound 64 = .ok (.iaload, 1) := by decide +kernel
theorem dX6_closeRound_65 : decode cX6_closeRound 65 = .ok (.iconst 1, 1) := by decide +kernel
theorem dX6_closeRound_66 : decode cX6_closeRound 66 = .ok (.iadd, 1) := by decide +kernel
theorem dX6_closeRound_67 : decode cX6_closeRound 67 = .ok (.goto 4, 3) := by decide +kernel
theorem dX6_closeRound_70 : decode cX6_closeRound 70 = .ok (.iconst 0, 1) := by decide +kernel
theorem dX6_closeRound_71 : decode cX6_closeRound 71 = .ok (.istore 4, 2) := by decide +kernel
theorem dX6_closeRound_73 : decode cX6_closeRound 73 = .ok (.iload_n 3, 1) := by decide +kernel
theorem dX6_closeRound_74 : decode cX6_closeRound 74 = .ok (.aload_n 0, 1) := by decide +kernel
theorem dX6_closeRound_75 : decode cX6_closeRound 75 = .ok (.getfield 15, 3) := by decide +kernel
theorem dX6_closeRound_78 : decode cX6_closeRound 78 = .ok (.iload_n 1, 1) := by decide +kernel
theorem dX6_closeRound_79 : decode cX6_closeRound 79 = .ok (.iaload, 1) := by decide +kernel
theorem dX6_closeRound_80 : decode cX6_closeRound 80 = .ok (.if_icmp .gt 28, 3) := by decide +kernel
theorem dX6_closeRound_83 : decode cX6_closeRound 83 = .ok (.iload_n 3, 1) := by decide +kernel
theorem dX6_closeRound_84 : decode cX6_closeRound 84 = .ok (.ifCond .le 39, 3) := by decide +kernel
theorem dX6_closeRound_87 : decode cX6_closeRound 87 = .ok (.iload_n 3, 1) := by decide +kernel
theorem dX6_closeRound_88 : decode cX6_closeRound 88 = .ok (.aload_n 0, 1) := by decide +kernel
theorem dX6_closeRound_89 : decode cX6_closeRound 89 = .ok (.getfield 15, 3) := by decide +kernel
theorem dX6_closeRound_92 : decode cX6_closeRound 92 = .ok (.iload_n 1, 1) := by decide +kernel
theorem dX6_closeRound_93 : decode cX6_closeRound 93 = .ok (.iaload, 1) := by decide +kernel
theorem dX6_closeRound_94 : decode cX6_closeRound 94 = .ok (.if_icmp .ne 29, 3) := by decide +kernel
theorem dX6_closeRound_97 : decode cX6_closeRound 97 = .ok (.iload 4, 2) := by decide +kernel
theorem dX6_closeRound_99 : decode cX6_closeRound 99 = .ok (.aload_n 0, 1) := by decide +kernel
theorem dX6_closeRound_100 : decode cX6_closeRound 100 = .ok (.getfield 18, 3) := by decide +kernel
theorem dX6_closeRound_103 : decode cX6_closeRound 103 = .ok (.iload_n 1, 1) := by decide +kernel
theorem dX6_closeRound_104 : decode cX6_closeRound 104 = .ok (.iaload, 1) := by decide +kernel
theorem dX6_closeRound_105 : decode cX6_closeRound 105 = .ok (.if_icmp .ge 18, 3) := by decide +kernel
theorem dX6_closeRound_108 : decode cX6_closeRound 108 = .ok (.aload_n 0, 1) := by decide +kernel
theorem dX6_closeRound_109 : decode cX6_closeRound 109 = .ok (.getfield 15, 3) := by decide +kernel
theorem dX6_closeRound_112 : decode cX6_closeRound 112 = .ok (.iload_n 1, 1) := by decide +kernel
theorem dX6_closeRound_113 : decode cX6_closeRound 113 = .ok (.iload_n 3, 1) := by decide +kernel
theorem dX6_closeRound_114 : decode cX6_closeRound 114 = .ok (.iastore, 1) := by decide +kernel
theorem dX6_closeRound_115 : decode cX6_closeRound 115 = .ok (.aload_n 0, 1) := by decide +kernel
theorem dX6_closeRound_116 : decode cX6_closeRound 116 = .ok (.getfield 18, 3) := by decide +kernel
theorem dX6_closeRound_119 : decode cX6_closeRound 119 = .ok (.iload_n 1, 1) := by decide +kernel
theorem dX6_closeRound_120 : decode cX6_closeRound 120 = .ok (.iload 4, 2) := by decide +kernel
theorem dX6_closeRound_122 : decode cX6_closeRound 122 = .ok (.iastore, 1) := by decide +kernel
theorem dX6_closeRound_123 : decode cX6_closeRound 123 = .ok (.return_, 1) := by decide +kernel
theorem dX6_isLate_0 : decode cX6_isLate 0 = .ok (.iload_n 2, 1) := by decide +kernel
theorem dX6_isLate_1 : decode cX6_isLate 1 = .ok (.ifCond .lt 38, 3) := by decide +kernel
theorem dX6_isLate_4 : decode cX6_isLate 4 = .ok (.iload_n 2, 1) := by decide +kernel
theorem dX6_isLate_5 : decode cX6_isLate 5 = .ok (.bipush 12, 2) := by decide +kernel
theorem dX6_isLate_7 : decode cX6_isLate 7 = .ok (.if_icmp .ge 32, 3) := by decide +kernel
theorem dX6_isLate_10 : decode cX6_isLate 10 = .ok (.aload_n 0, 1) := by decide +kernel
theorem dX6_isLate_11 : decode cX6_isLate 11 = .ok (.getfield 15, 3) := by decide +kernel
theorem dX6_isLate_14 : decode cX6_isLate 14 = .ok (.iload_n 2, 1) := by decide +kernel
theorem dX6_isLate_15 : decode cX6_isLate 15 = .ok (.iaload, 1) := by decide +kernel
theorem dX6_isLate_16 : decode cX6_isLate 16 = .ok (.iconst (-1), 1) := by decide +kernel
theorem dX6_isLate_17 : decode cX6_isLate 17 = .ok (.if_icmp .eq 18, 3) := by decide +kernel
theorem dX6_isLate_20 : decode cX6_isLate 20 = .ok (.aload_n 0, 1) := by decide +kernel
theorem dX6_isLate_21 : decode cX6_isLate 21 = .ok (.getfield 15, 3) := by decide +kernel
theorem dX6_isLate_24 : decode cX6_isLate 24 = .ok (.iload_n 2, 1) := by decide +kernel
theorem dX6_isLate_25 : decode cX6_isLate 25 = .ok (.iaload, 1) := by decide +kernel
theorem dX6_isLate_26 : decode cX6_isLate 26 = .ok (.aload_n 1, 1) := by decide +kernel
theorem dX6_isLate_27 : decode cX6_isLate 27 = .ok (.getfield 90, 3) := by decide +kernel
theorem dX6_isLate_30 : decode cX6_isLate 30 = .ok (.iload_n 2, 1) := by decide +kernel
theorem dX6_isLate_31 : decode cX6_isLate 31 = .ok (.iaload, 1) := by decide +kernel
theorem dX6_isLate_32 : decode cX6_isLate 32 = .ok (.if_icmp .le 7, 3) := by decide +kernel
theorem dX6_isLate_35 : decode cX6_isLate 35 = .ok (.iconst 1, 1) := by decide +kernel
theorem dX6_isLate_36 : decode cX6_isLate 36 = .ok (.goto 4, 3) := by decide +kernel
theorem dX6_isLate_39 : decode cX6_isLate 39 = .ok (.iconst 0, 1) := by decide +kernel
theorem dX6_isLate_40 : decode cX6_isLate 40 = .ok (.ireturn, 1) := by decide +kernel
set_option maxRecDepth 20000 in
theorem ggX6_countLate_X6_isLate : GoodIn wsX6_countLate wsX6_isLate := goodIn_r _ [6, 7, 8, 28, 29, 30, 31, 32, 33, 34, 35, 9, 10, 11, 12, 13, 14, 15, 16, 17, 18, 19, 20, 21, 22, 23, 24, 25, 26, 27] (by decide +kernel) (by decide +kernel)
set_option maxRecDepth 20000 in
theorem gX6_countLate_X6_isLate : GoodIn wsX6_countLate (wsV RX6 93 RX6 yX6_isLate wsX6_isLate) := goodIn_app (goodIn_of _ (by decide +kernel)) ggX6_countLate_X6_isLate
theorem dX6_countLate_0 : decode cX6_countLate 0 = .ok (.iconst 0, 1) := by decide +kernel
theorem dX6_countLate_1 : decode cX6_countLate 1 = .ok (.istore_n 2, 1) := by decide +kernel
theorem dX6_countLate_2 : decode cX6_countLate 2 = .ok (.iconst 0, 1) := by decide +kernel
theorem dX6_countLate_3 : decode cX6_countLate 3 = .ok (.istore_n 3, 1) := by decide +kernel
theorem dX6_countLate_4 : decode cX6_countLate 4 = .ok (.iload_n 3, 1) := by decide +kernel
theorem dX6_countLate_5 : decode cX6_countLate 5 = .ok (.aload_n 1, 1) := by decide +kernel
theorem dX6_countLate_6 : decode cX6_countLate 6 = .ok (.getfield 62, 3) := by decide +kernel
theorem dX6_countLate_9 : decode cX6_countLate 9 = .ok (.if_icmp .ge 21, 3) := by decide +kernel
theorem dX6_countLate_12 : decode cX6_countLate 12 = .ok (.aload_n 0, 1) := by decide +kernel
theorem dX6_countLate_13 : decode cX6_countLate 13 = .ok (.aload_n 1, 1) := by decide +kernel
theorem dX6_countLate_14 : decode cX6_countLate 14 = .ok (.iload_n 3, 1) := by decide +kernel
theorem dX6_countLate_15 : decode cX6_countLate 15 = .ok (.invokevirtual 93, 3) := by decide +kernel
theorem dX6_countLate_18 : decode cX6_countLate 18 = .ok (.ifCond .eq 6, 3) := by decide +kernel
theorem dX6_countLate_21 : decode cX6_countLate 21 = .ok (.iinc 2 1, 3) := by decide +kernel
theorem dX6_countLate_24 : decode cX6_countLate 24 = .ok (.iinc 3 1, 3) := by decide +kernel
theorem dX6_countLate_27 : decode cX6_countLate 27 = .ok (.goto (-23), 3) := by decide +kernel
theorem dX6_countLate_30 : decode cX6_countLate 30 = .ok (.iload_n 2, 1) := by decide +kernel
theorem dX6_countLate_31 : decode cX6_countLate 31 = .ok (.ireturn, 1) := by decide +kernel
theorem dX7_init_0 : decode cX7_init 0 = .ok (.aload_n 0, 1) := by decide +kernel
theorem dX7_init_1 : decode cX7_init 1 = .ok (.invokespecial 3, 3) := by decide +kernel
theorem dX7_init_4 : decode cX7_init 4 = .ok (.aload_n 0, 1) := by decide +kernel
theorem dX7_init_5 : decode cX7_init 5 = .ok (.sipush 600, 3) := by decide +kernel
theorem dX7_init_8 : decode cX7_init 8 = .ok (.newarray .int, 2) := by decide +kernel
theorem dX7_init_10 : decode cX7_init 10 = .ok (.putfield 9, 3) := by decide +kernel
theorem dX7_init_13 : decode cX7_init 13 = .ok (.aload_n 0, 1) := by decide +kernel
theorem dX7_init_14 : decode cX7_init 14 = .ok (.iconst 0, 1) := by decide +kernel
theorem dX7_init_15 : decode cX7_init 15 = .ok (.putfield 15, 3) := by decide +kernel
theorem dX7_init_18 : decode cX7_init 18 = .ok (.aload_n 0, 1) := by decide +kernel
theorem dX7_init_19 : decode cX7_init 19 = .ok (.iconst 0, 1) := by decide +kernel
theorem dX7_init_20 : decode cX7_init 20 = .ok (.putfield 19, 3) := by decide +kernel
theorem dX7_init_23 : decode cX7_init 23 = .ok (.aload_n 0, 1) := by decide +kernel
theorem dX7_init_24 : decode cX7_init 24 = .ok (.iconst 0, 1) := by decide +kernel
theorem dX7_init_25 : decode cX7_init 25 = .ok (.putfield 22, 3) := by decide +kernel
theorem dX7_init_28 : decode cX7_init 28 = .ok (.aload_n 0, 1) := by decide +kernel
theorem dX7_init_29 : decode cX7_init 29 = .ok (.iconst 0, 1) := by decide +kernel
theorem dX7_init_30 : decode cX7_init 30 = .ok (.putfield 25, 3) := by decide +kernel
theorem dX7_init_33 : decode cX7_init 33 = .ok (.aload_n 0, 1) := by decide +kernel
theorem dX7_init_34 : decode cX7_init 34 = .ok (.iconst 0, 1) := by decide +kernel
theorem dX7_init_35 : decode cX7_init 35 = .ok (.putfield 28, 3) := by decide +kernel
theorem dX7_init_38 : decode cX7_init 38 = .ok (.aload_n 0, 1) := by decide +kernel
theorem dX7_init_39 : decode cX7_init 39 = .ok (.iconst 0, 1) := by decide +kernel
theorem dX7_init_40 : decode cX7_init 40 = .ok (.putfield 31, 3) := by decide +kernel
theorem dX7_init_43 : decode cX7_init 43 = .ok (.return_, 1) := by decide +kernel
theorem dX7_addBytes_0 : decode cX7_addBytes 0 = .ok (.bipush 24, 2) := by decide +kernel
theorem dX7_addBytes_2 : decode cX7_addBytes 2 = .ok (.istore_n 2, 1) := by decide +kernel
theorem dX7_addBytes_3 : decode cX7_addBytes 3 = .ok (.iload_n 2, 1) := by decide +kernel
theorem dX7_addBytes_4 : decode cX7_addBytes 4 = .ok (.ifCond .lt 52, 3) := by decide +kernel
theorem dX7_addBytes_7 : decode cX7_addBytes 7 = .ok (.aload_n 0, 1) := by decide +kernel
theorem dX7_addBytes_8 : decode cX7_addBytes 8 = .ok (.getfield 15, 3) := by decide +kernel
theorem dX7_addBytes_11 : decode cX7_addBytes 11 = .ok (.ifCond .lt 39, 3) := by decide +kernel
theorem dX7_addBytes_14 : decode cX7_addBytes 14 = .ok (.aload_n 0, 1) := by decide +kernel
theorem dX7_addBytes_15 : decode cX7_addBytes 15 = .ok (.getfield 15, 3) := by decide +kernel
theorem dX7_addBytes_18 : decode cX7_addBytes 18 = .ok (.sipush 600, 3) := by decide +kernel
theorem dX7_addBytes_21 : decode cX7_addBytes 21 = .ok (.if_icmp .ge 29, 3) := by decide +kernel
theorem dX7_addBytes_24 : decode cX7_addBytes 24 = .ok (.aload_n 0, 1) := by decide +kernel
theorem dX7_addBytes_25 : decode cX7_addBytes 25 = .ok (.getfield 9, 3) := by decide +kernel
theorem dX7_addBytes_28 : decode cX7_addBytes 28 = .ok (.aload_n 0, 1) := by decide +kernel
theorem dX7_addBytes_29 : decode cX7_addBytes 29 = .ok (.getfield 15, 3) := by decide +kernel
theorem dX7_addBytes_32 : decode cX7_addBytes 32 = .ok (.iload_n 1, 1) := by decide +kernel
theorem dX7_addBytes_33 : decode cX7_addBytes 33 = .ok (.iload_n 2, 1) := by decide +kernel
theorem dX7_addBytes_34 : decode cX7_addBytes 34 = .ok (.ishr, 1) := by decide +kernel
theorem dX7_addBytes_35 : decode cX7_addBytes 35 = .ok (.sipush 255, 3) := by decide +kernel
theorem dX7_addBytes_38 : decode cX7_addBytes 38 = .ok (.iand, 1) := by decide +kernel
theorem dX7_addBytes_39 : decode cX7_addBytes 39 = .ok (.iastore, 1) := by decide +kernel
theorem dX7_addBytes_40 : decode cX7_addBytes 40 = .ok (.aload_n 0, 1) := by decide +kernel
theorem dX7_addBytes_41 : decode cX7_addBytes 41 = .ok (.dup, 1) := by decide +kernel
theorem dX7_addBytes_42 : decode cX7_addBytes 42 = .ok (.getfield 15, 3) := by decide +kernel
theorem dX7_addBytes_45 : decode cX7_addBytes 45 = .ok (.iconst 1, 1) := by decide +kernel
theorem dX7_addBytes_46 : decode cX7_addBytes 46 = .ok (.iadd, 1) := by decide +kernel
theorem dX7_addBytes_47 : decode cX7_addBytes 47 = .ok (.putfield 15, 3) := by decide +kernel
theorem dX7_addBytes_50 : decode cX7_addBytes 50 = .ok (.iinc 2 (-8), 3) := by decide +kernel
theorem dX7_addBytes_53 : decode cX7_addBytes 53 = .ok (.goto (-50), 3) := by decide +kernel
theorem dX7_addBytes_56 : decode cX7_addBytes 56 = .ok (.return_, 1) := by decide +kernel
set_option maxRecDepth 20000 in
theorem ggX7_begin_X7_advance : GoodIn wsX7_begin wsX7_advance := goodIn_r _ [11, 6, 5, 12, 13, 14, 15, 16, 17, 10, 18, 19, 20, 21, 22, 23, 24, 25] (by decide +kernel) (by decide +kernel)
set_option maxRecDepth 20000 in
theorem gX7_begin_X7_advance : GoodIn wsX7_begin (wsV RX7 40 RX7 yX7_advance wsX7_advance) := goodIn_app (goodIn_of _ (by decide +kernel)) ggX7_begin_X7_advance
theorem dX7_begin_0 : decode cX7_begin 0 = .ok (.aload_n 0, 1) := by decide +kernel
theorem dX7_begin_1 : decode cX7_begin 1 = .ok (.iload_n 1, 1) := by decide +kernel
theorem dX7_begin_2 : decode cX7_begin 2 = .ok (.sipush 600, 3) := by decide +kernel
theorem dX7_begin_5 : decode cX7_begin 5 = .ok (.invokestatic 34, 3) := by decide +kernel
theorem dX7_begin_8 : decode cX7_begin 8 = .ok (.putfield 28, 3) := by decide +kernel
theorem dX7_begin_11 : decode cX7_begin 11 = .ok (.aload_n 0, 1) := by decide +kernel
theorem dX7_begin_12 : decode cX7_begin 12 = .ok (.iconst 0, 1) := by decide +kernel
theorem dX7_begin_13 : decode cX7_begin 13 = .ok (.putfield 25, 3) := by decide +kernel
theorem dX7_begin_16 : decode cX7_begin 16 = .ok (.aload_n 0, 1) := by decide +kernel
theorem dX7_begin_17 : decode cX7_begin 17 = .ok (.invokevirtual 40, 3) := by decide +kernel
theorem dX7_begin_20 : decode cX7_begin 20 = .ok (.return_, 1) := by decide +kernel
set_option maxRecDepth 20000 in
theorem ggX7_advance_X7_kindOf : GoodIn wsX7_advance wsX7_kindOf := goodIn_r _ [10] (by decide +kernel) (by decide +kernel)
set_option maxRecDepth 20000 in
theorem gX7_advance_X7_kindOf : GoodIn wsX7_advance (va_wsS RX7 43 yX7_kindOf wsX7_kindOf) := goodIn_app (goodIn_of _ (by decide +kernel)) ggX7_advance_X7_kindOf
theorem dX7_advance_0 : decode cX7_advance 0 = .ok (.aload_n 0, 1) := by decide +kernel
theorem dX7_advance_1 : decode cX7_advance 1 = .ok (.getfield 25, 3) := by decide +kernel
theorem dX7_advance_4 : decode cX7_advance 4 = .ok (.ifCond .lt 55, 3) := by decide +kernel
theorem dX7_advance_7 : decode cX7_advance 7 = .ok (.aload_n 0, 1) := by decide +kernel
theorem dX7_advance_8 : decode cX7_advance 8 = .ok (.getfield 25, 3) := by decide +kernel
theorem dX7_advance_11 : decode cX7_advance 11 = .ok (.aload_n 0, 1) := by decide +kernel
theorem dX7_advance_12 : decode cX7_advance 12 = .ok (.getfield 28, 3) := by decide +kernel
theorem dX7_advance_15 : decode cX7_advance 15 = .ok (.if_icmp .ge 44, 3) := by decide +kernel
theorem dX7_advance_18 : decode cX7_advance 18 = .ok (.aload_n 0, 1) := by decide +kernel
theorem dX7_advance_19 : decode cX7_advance 19 = .ok (.getfield 9, 3) := by decide +kernel
theorem dX7_advance_22 : decode cX7_advance 22 = .ok (.aload_n 0, 1) := by decide +kernel
theorem dX7_advance_23 : decode cX7_advance 23 = .ok (.getfield 25, 3) := by decide +kernel
theorem dX7_advance_26 : decode cX7_advance 26 = .ok (.iaload, 1) := by decide +kernel
theorem dX7_advance_27 : decode cX7_advance 27 = .ok (.bipush 32, 2) := by decide +kernel
theorem dX7_advance_29 : decode cX7_advance 29 = .ok (.if_icmp .eq 17, 3) := by decide +kernel
theorem dX7_advance_32 : decode cX7_advance 32 = .ok (.aload_n 0, 1) := by decide +kernel
theorem dX7_advance_33 : decode cX7_advance 33 = .ok (.getfield 9, 3) := by decide +kernel
theorem dX7_advance_36 : decode cX7_advance 36 = .ok (.aload_n 0, 1) := by decide +kernel
theorem dX7_advance_37 : decode cX7_advance 37 = .ok (.getfield 25, 3) := by decide +kernel
theorem dX7_advance_40 : decode cX7_advance 40 = .ok (.iaload, 1) := by decide +kernel
theorem dX7_advance_41 : decode cX7_advance 41 = .ok (.bipush 10, 2) := by decide +kernel
theorem dX7_advance_43 : decode cX7_advance 43 = .ok (.if_icmp .ne 16, 3) := by decide +kernel
theorem dX7_advance_46 : decode cX7_advance 46 = .ok (.aload_n 0, 1) := by decide +kernel
theorem dX7_advance_47 : decode cX7_advance 47 = .ok (.dup, 1) := by decide +kernel
theorem dX7_advance_48 : decode cX7_advance 48 = .ok (.getfield 25, 3) := by decide +kernel
theorem dX7_advance_51 : decode cX7_advance 51 = .ok (.iconst 1, 1) := by decide +kernel
theorem dX7_advance_52 : decode cX7_advance 52 = .ok (.iadd, 1) := by decide +kernel
theorem dX7_advance_53 : decode cX7_advance 53 = .ok (.putfield 25, 3) := by decide +kernel
theorem dX7_advance_56 : decode cX7_advance 56 = .ok (.goto (-56), 3) := by decide +kernel
theorem dX7_advance_59 : decode cX7_advance 59 = .ok (.aload_n 0, 1) := by decide +kernel
theorem dX7_advance_60 : decode cX7_advance 60 = .ok (.aload_n 0, 1) := by decide +kernel
theorem dX7_advance_61 : decode cX7_advance 61 = .ok (.getfield 25, 3) := by decide +kernel
theorem dX7_advance_64 : decode cX7_advance 64 = .ok (.putfield 19, 3) := by decide +kernel
theorem dX7_advance_67 : decode cX7_advance 67 = .ok (.aload_n 0, 1) := by decide +kernel
theorem dX7_advance_68 : decode cX7_advance 68 = .ok (.iconst 0, 1) := by decide +kernel
theorem dX7_advance_69 : decode cX7_advance 69 = .ok (.putfield 22, 3) := by decide +kernel
theorem dX7_advance_72 : decode cX7_advance 72 = .ok (.aload_n 0, 1) := by decide +kernel
theorem dX7_advance_73 : decode cX7_advance 73 = .ok (.aload_n 0, 1) := by decide +kernel
theorem dX7_advance_74 : decode cX7_advance 74 = .ok (.getfield 19, 3) := by decide +kernel
theorem dX7_advance_77 : decode cX7_advance 77 = .ok (.ifCond .lt 29, 3) := by decide +kernel
theorem dX7_advance_80 : decode cX7_advance 80 = .ok (.aload_n 0, 1) := by decide +kernel
theorem dX7_advance_81 : decode cX7_advance 81 = .ok (.getfield 19, 3) := by decide +kernel
theorem dX7_advance_84 : decode cX7_advance 84 = .ok (.aload_n 0, 1) := by decide +kernel
theorem dX7_advance_85 : decode cX7_advance 85 = .ok (.getfield 28, 3) := by decide +kernel
theorem dX7_advance_88 : decode cX7_advance 88 = .ok (.if_icmp .ge 18, 3) := by decide +kernel
theorem dX7_advance_91 : decode cX7_advance 91 = .ok (.aload_n 0, 1) := by decide +kernel
theorem dX7_advance_92 : decode cX7_advance 92 = .ok (.getfield 9, 3) := by decide +kernel
theorem dX7_advance_95 : decode cX7_advance 95 = .ok (.aload_n 0, 1) := by decide +kernel
theorem dX7_advance_96 : decode cX7_advance 96 = .ok (.getfield 19, 3) := by decide +kernel
theorem dX7_advance_99 : decode cX7_advance 99 = .ok (.iaload, 1) := by decide +kernel
theorem dX7_advance_100 : decode cX7_advance 100 = .ok (.invokestatic 43, 3) := by decide +kernel
theorem dX7_advance_103 : decode cX7_advance 103 = .ok (.goto 4, 3) := by decide +kernel
theorem dX7_advance_106 : decode cX7_advance 106 = .ok (.iconst 0, 1) := by decide +kernel
theorem dX7_advance_107 : decode cX7_advance 107 = .ok (.putfield 31, 3) := by decide +kernel
theorem dX7_advance_110 : decode cX7_advance 110 = .ok (.aload_n 0, 1) := by decide +kernel
theorem dX7_advance_111 : decode cX7_advance 111 = .ok (.getfield 31, 3) := by decide +kernel
theorem dX7_advance_114 : decode cX7_advance 114 = .ok (.iconst 3, 1) := by decide +kernel
theorem dX7_advance_115 : decode cX7_advance 115 = .ok (.if_icmp .ne 14, 3) := by decide +kernel
theorem dX7_advance_118 : decode cX7_advance 118 = .ok (.aload_n 0, 1) := by decide +kernel
theorem dX7_advance_119 : decode cX7_advance 119 = .ok (.dup, 1) := by decide +kernel
theorem dX7_advance_120 : decode cX7_advance 120 = .ok (.getfield 25, 3) := by decide +kernel
theorem dX7_advance_123 : decode cX7_advance 123 = .ok (.iconst 1, 1) := by decide +kernel
theorem dX7_advance_124 : decode cX7_advance 124 = .ok (.iadd, 1) := by decide +kernel
theorem dX7_advance_125 : decode cX7_advance 125 = .ok (.putfield 25, 3) := by decide +kernel
theorem dX7_advance_128 : decode cX7_advance 128 = .ok (.return_, 1) := by decide +kernel
theorem dX7_advance_129 : decode cX7_advance 129 = .ok (.aload_n 0, 1) := by decide +kernel
theorem dX7_advance_130 : decode cX7_advance 130 = .ok (.getfield 25, 3) := by decide +kernel
theorem dX7_advance_133 : decode cX7_advance 133 = .ok (.ifCond .lt 88, 3) := by decide +kernel
theorem dX7_advance_136 : decode cX7_advance 136 = .ok (.aload_n 0, 1) := by decide +kernel
theorem dX7_advance_137 : decode cX7_advance 137 = .ok (.getfield 25, 3) := by decide +kernel
theorem dX7_advance_140 : decode cX7_advance 140 = .ok (.aload_n 0, 1) := by decide +kernel
theorem dX7_advance_141 : decode cX7_advance 141 = .ok (.getfield 28, 3) := by decide +kernel
theorem dX7_advance_144 : decode cX7_advance 144 = .ok (.if_icmp .ge 77, 3) := by decide +kernel
theorem dX7_advance_147 : decode cX7_advance 147 = .ok (.aload_n 0, 1) := by decide +kernel
theorem dX7_advance_148 : decode cX7_advance 148 = .ok (.getfield 9, 3) := by decide +kernel
theorem dX7_advance_151 : decode cX7_advance 151 = .ok (.aload_n 0, 1) := by decide +kernel
theorem dX7_advance_152 : decode cX7_advance 152 = .ok (.getfield 25, 3) := by decide +kernel
theorem dX7_advance_155 : decode cX7_advance 155 = .ok (.iaload, 1) := by decide +kernel
theorem dX7_advance_156 : decode cX7_advance 156 = .ok (.invokestatic 43, 3) := by decide +kernel
theorem dX7_advance_159 : decode cX7_advance 159 = .ok (.aload_n 0, 1) := by decide +kernel
theorem dX7_advance_160 : decode cX7_advance 160 = .ok (.getfield 31, 3) := by decide +kernel
theorem dX7_advance_163 : decode cX7_advance 163 = .ok (.if_icmp .ne 58, 3) := by decide +kernel
theorem dX7_advance_166 : decode cX7_advance 166 = .ok (.aload_n 0, 1) := by decide +kernel
theorem dX7_advance_167 : decode cX7_advance 167 = .ok (.getfield 31, 3) := by decide +kernel
theorem dX7_advance_170 : decode cX7_advance 170 = .ok (.iconst 2, 1) := by decide +kernel
theorem dX7_advance_171 : decode cX7_advance 171 = .ok (.if_icmp .ne 37, 3) := by decide +kernel
theorem dX7_advance_174 : decode cX7_advance 174 = .ok (.aload_n 0, 1) := by decide +kernel
theorem dX7_advance_175 : decode cX7_advance 175 = .ok (.getfield 22, 3) := by decide +kernel
theorem dX7_advance_178 : decode cX7_advance 178 = .ok (.sipush 9999, 3) := by decide +kernel
theorem dX7_advance_181 : decode cX7_advance 181 = .ok (.if_icmp .gt 27, 3) := by decide +kernel
theorem dX7_advance_184 : decode cX7_advance 184 = .ok (.aload_n 0, 1) := by decide +kernel
theorem dX7_advance_185 : decode cX7_advance 185 = .ok (.aload_n 0, 1) := by decide +kernel
theorem dX7_advance_186 : decode cX7_advance 186 = .ok (.getfield 22, 3) := by decide +kernel
theorem dX7_advance_189 : decode cX7_advance 189 = .ok (.bipush 10, 2) := by decide +kernel
theorem dX7_advance_191 : decode cX7_advance 191 = .ok (.imul, 1) := by decide +kernel
theorem dX7_advance_192 : decode cX7_advance 192 = .ok (.aload_n 0, 1) := by decide +kernel
theorem dX7_advance_193 : decode cX7_advance 193 = .ok (.getfield 9, 3) := by decide +kernel
theorem dX7_advance_196 : decode cX7_advance 196 = .ok (.aload_n 0, 1) := by decide +kernel
theorem dX7_advance_197 : decode cX7_advance 197 = .ok (.getfield 25, 3) := by decide +kernel
theorem dX7_advance_200 : decode cX7_advance 200 = .ok (.iaload, 1) := by decide +kernel
theorem dX7_advance_201 : decode cX7_advance 201 = .ok (.iadd, 1) := by decide +kernel
theorem dX7_advance_202 : decode cX7_advance 202 = .ok (.bipush 48, 2) := by decide +kernel
theorem dX7_advance_204 : decode cX7_advance 204 = .ok (.isub, 1) := by decide +kernel
theorem dX7_advance_205 : decode cX7_advance 205 = .ok (.putfield 22, 3) := by decide +kernel
theorem dX7_advance_208 : decode cX7_advance 208 = .ok (.aload_n 0, 1) := by decide +kernel
theorem dX7_advance_209 : decode cX7_advance 209 = .ok (.dup, 1) := by decide +kernel
theorem dX7_advance_210 : decode cX7_advance 210 = .ok (.getfield 25, 3) := by decide +kernel
theorem dX7_advance_213 : decode cX7_advance 213 = .ok (.iconst 1, 1) := by decide +kernel
theorem dX7_advance_214 : decode cX7_advance 214 = .ok (.iadd, 1) := by decide +kernel
theorem dX7_advance_215 : decode cX7_advance 215 = .ok (.putfield 25, 3) := by decide +kernel
theorem dX7_advance_218 : decode cX7_advance 218 = .ok (.goto (-89), 3) := by decide +kernel
theorem dX7_advance_221 : decode cX7_advance 221 = .ok (.return_, 1) := by decide +kernel
theorem dX7_kindOf_0 : decode cX7_kindOf 0 = .ok (.iload_n 0, 1) := by decide +kernel
theorem dX7_kindOf_1 : decode cX7_kindOf 1 = .ok (.bipush 97, 2) := by decide +kernel
theorem dX7_kindOf_3 : decode cX7_kindOf 3 = .ok (.if_icmp .lt 11, 3) := by decide +kernel
theorem dX7_kindOf_6 : decode cX7_kindOf 6 = .ok (.iload_n 0, 1) := by decide +kernel
theorem dX7_kindOf_7 : decode cX7_kindOf 7 = .ok (.bipush 122, 2) := by decide +kernel
theorem dX7_kindOf_9 : decode cX7_kindOf 9 = .ok (.if_icmp .gt 5, 3) := by decide +kernel
theorem dX7_kindOf_12 : decode cX7_kindOf 12 = .ok (.iconst 1, 1) := by decide +kernel
theorem dX7_kindOf_13 : decode cX7_kindOf 13 = .ok (.ireturn, 1) := by decide +kernel
theorem dX7_kindOf_14 : decode cX7_kindOf 14 = .ok (.iload_n 0, 1) := by decide +kernel
theorem dX7_kindOf_15 : decode cX7_kindOf 15 = .ok (.bipush 48, 2) := by decide +kernel
theorem dX7_kindOf_17 : decode cX7_kindOf 17 = .ok (.if_icmp .lt 13, 3) := by decide +kernel
theorem dX7_kindOf_20 : decode cX7_kindOf 20 = .ok (.iload_n 0, 1) := by decide +kernel
theorem dX7_kindOf_21 : decode cX7_kindOf 21 = .ok (.bipush 57, 2) := by decide +kernel
theorem dX7_kindOf_23 : decode cX7_kindOf 23 = .ok (.if_icmp .gt 7, 3) := by decide +kernel
theorem dX7_kindOf_26 : decode cX7_kindOf 26 = .ok (.iconst 2, 1) := by decide +kernel
theorem dX7_kindOf_27 : decode cX7_kindOf 27 = .ok (.goto 4, 3) := by decide +kernel
theorem dX7_kindOf_30 : decode cX7_kindOf 30 = .ok (.iconst 3, 1) := by decide +kernel
theorem dX7_kindOf_31 : decode cX7_kindOf 31 = .ok (.ireturn, 1) := by decide +kernel
theorem dX7_isEnd_0 : decode cX7_isEnd 0 = .ok (.aload_n 0, 1) := by decide +kernel
theorem dX7_isEnd_1 : decode cX7_isEnd 1 = .ok (.getfield 31, 3) := by decide +kernel
theorem dX7_isEnd_4 : decode cX7_isEnd 4 = .ok (.ifCond .ne 7, 3) := by decide +kernel
theorem dX7_isEnd_7 : decode cX7_isEnd 7 = .ok (.iconst 1, 1) := by decide +kernel
theorem dX7_isEnd_8 : decode cX7_isEnd 8 = .ok (.goto 4, 3) := by decide +kernel
theorem dX7_isEnd_11 : decode cX7_isEnd 11 = .ok (.iconst 0, 1) := by decide +kernel
theorem dX7_isEnd_12 : decode cX7_isEnd 12 = .ok (.ireturn, 1) := by decide +kernel
theorem dX7_isNumber_0 : decode cX7_isNumber 0 = .ok (.aload_n 0, 1) := by decide +kernel
theorem dX7_isNumber_1 : decode cX7_isNumber 1 = .ok (.getfield 31, 3) := by decide +kernel
theorem dX7_isNumber_4 : decode cX7_isNumber 4 = .ok (.iconst 2, 1) := by decide +kernel
theorem dX7_isNumber_5 : decode cX7_isNumber 5 = .ok (.if_icmp .ne 7, 3) := by decide +kernel
theorem dX7_isNumber_8 : decode cX7_isNumber 8 = .ok (.iconst 1, 1) := by decide +kernel
theorem dX7_isNumber_9 : decode cX7_isNumber 9 = .ok (.goto 4, 3) := by decide +kernel
theorem dX7_isNumber_12 : decode cX7_isNumber 12 = .ok (.iconst 0, 1) := by decide +kernel
theorem dX7_isNumber_13 : decode cX7_isNumber 13 = .ok (.ireturn, 1) := by decide +kernel
theorem dX7_isSign_0 : decode cX7_isSign 0 = .ok (.aload_n 0, 1) := by decide +kernel
theorem dX7_isSign_1 : decode cX7_isSign 1 = .ok (.getfield 31, 3) := by decide +kernel
theorem dX7_isSign_4 : decode cX7_isSign 4 = .ok (.iconst 3, 1) := by decide +kernel
theorem dX7_isSign_5 : decode cX7_isSign 5 = .ok (.if_icmp .ne 37, 3) := by decide +kernel
theorem dX7_isSign_8 : decode cX7_isSign 8 = .ok (.aload_n 0, 1) := by decide +kernel
theorem dX7_isSign_9 : decode cX7_isSign 9 = .ok (.getfield 19, 3) := by decide +kernel
theorem dX7_isSign_12 : decode cX7_isSign 12 = .ok (.ifCond .lt 30, 3) := by decide +kernel
theorem dX7_isSign_15 : decode cX7_isSign 15 = .ok (.aload_n 0, 1) := by decide +kernel
theorem dX7_isSign_16 : decode cX7_isSign 16 = .ok (.getfield 19, 3) := by decide +kernel
theorem dX7_isSign_19 : decode cX7_isSign 19 = .ok (.sipush 600, 3) := by decide +kernel
theorem dX7_isSign_22 : decode cX7_isSign 22 = .ok (.if_icmp .ge 20, 3) := by decide +kernel
theorem dX7_isSign_25 : decode cX7_isSign 25 = .ok (.aload_n 0, 1) := by decide +kernel
theorem dX7_isSign_26 : decode cX7_isSign 26 = .ok (.getfield 9, 3) := by decide +kernel
theorem dX7_isSign_29 : decode cX7_isSign 29 = .ok (.aload_n 0, 1) := by decide +kernel
theorem dX7_isSign_30 : decode cX7_isSign 30 = .ok (.getfield 19, 3) := by decide +kernel
theorem dX7_isSign_33 : decode cX7_isSign 33 = .ok (.iaload, 1) := by decide +kernel
theorem dX7_isSign_34 : decode cX7_isSign 34 = .ok (.iload_n 1, 1) := by decide +kernel
theorem dX7_isSign_35 : decode cX7_isSign 35 = .ok (.if_icmp .ne 7, 3) := by decide +kernel
theorem dX7_isSign_38 : decode cX7_isSign 38 = .ok (.iconst 1, 1) := by decide +kernel
theorem dX7_isSign_39 : decode cX7_isSign 39 = .ok (.goto 4, 3) := by decide +kernel
theorem dX7_isSign_42 : decode cX7_isSign 42 = .ok (.iconst 0, 1) := by decide +kernel
theorem dX7_isSign_43 : decode cX7_isSign 43 = .ok (.ireturn, 1) := by decide +kernel
set_option maxRecDepth 20000 in
theorem ggX7_isWord_J0_length_8abf5 : GoodIn wsX7_isWord wsJ0_length_8abf5 := goodIn_r _ [9, 10, 11, 12, 13, 8, 14, 15, 16] (by decide +kernel) (by decide +kernel)
set_option maxRecDepth 20000 in
theorem gX7_isWord_J0_length_8abf5 : GoodIn wsX7_isWord (wsV RX7 47 RJ0 yJ0_length_8abf5 wsJ0_length_8abf5) := goodIn_app (goodIn_of _ (by decide +kernel)) ggX7_isWord_J0_length_8abf5
set_option maxRecDepth 20000 in
theorem ggX7_isWord_J0_charAt_5068e : GoodIn wsX7_isWord wsJ0_charAt_5068e := goodIn_r _ [20, 10, 21, 22, 23, 8, 24, 15, 16, 25, 26, 27, 28, 29, 30, 31, 32, 33, 34, 35, 36, 37, 38, 39, 40, 41, 42, 43, 44, 45, 46, 47, 48, 49, 50, 51, 52, 53] (by decide +kernel) (by decide +kernel)
set_option maxRecDepth 20000 in
theorem gX7_isWord_J0_charAt_5068e : GoodIn wsX7_isWord (wsV RX7 53 RJ0 yJ0_charAt_5068e wsJ0_charAt_5068e) := goodIn_app (goodIn_of _ (by decide +kernel)) ggX7_isWord_J0_charAt_5068e
theorem dX7_isWord_0 : decode cX7_isWord 0 = .ok (.aload_n 0, 1) := by decide +kernel
theorem dX7_isWord_1 : decode cX7_isWord 1 = .ok (.getfield 31, 3) := by decide +kernel
theorem dX7_isWord_4 : decode cX7_isWord 4 = .ok (.iconst 1, 1) := by decide +kernel
theorem dX7_isWord_5 : decode cX7_isWord 5 = .ok (.if_icmp .ne 19, 3) := by decide +kernel
theorem dX7_isWord_8 : decode cX7_isWord 8 = .ok (.aload_n 0, 1) := by decide +kernel
theorem dX7_isWord_9 : decode cX7_isWord 9 = .ok (.getfield 25, 3) := by decide +kernel
theorem dX7_isWord_12 : decode cX7_isWord 12 = .ok (.aload_n 0, 1) := by decide +kernel
theorem dX7_isWord_13 : decode cX7_isWord 13 = .ok (.getfield 19, 3) := by decide +kernel
theorem dX7_isWord_16 : decode cX7_isWord 16 = .ok (.isub, 1) := by decide +kernel
theorem dX7_isWord_17 : decode cX7_isWord 17 = .ok (.aload_n 1, 1) := by decide +kernel
theorem dX7_isWord_18 : decode cX7_isWord 18 = .ok (.invokevirtual 47, 3) := by decide +kernel
theorem dX7_isWord_21 : decode cX7_isWord 21 = .ok (.if_icmp .eq 5, 3) := by decide +kernel
theorem dX7_isWord_24 : decode cX7_isWord 24 = .ok (.iconst 0, 1) := by decide +kernel
theorem dX7_isWord_25 : decode cX7_isWord 25 = .ok (.ireturn, 1) := by decide +kernel
theorem dX7_isWord_26 : decode cX7_isWord 26 = .ok (.iconst 0, 1) := by decide +kernel
theorem dX7_isWord_27 : decode cX7_isWord 27 = .ok (.istore_n 2, 1) := by decide +kernel
theorem dX7_isWord_28 : decode cX7_isWord 28 = .ok (.iload_n 2, 1) := by decide +kernel
theorem dX7_isWord_29 : decode cX7_isWord 29 = .ok (.aload_n 1, 1) := by decide +kernel
theorem dX7_isWord_30 : decode cX7_isWord 30 = .ok (.invokevirtual 47, 3) := by decide +kernel
theorem dX7_isWord_33 : decode cX7_isWord 33 = .ok (.if_icmp .ge 51, 3) := by decide +kernel
theorem dX7_isWord_36 : decode cX7_isWord 36 = .ok (.aload_n 0, 1) := by decide +kernel
theorem dX7_isWord_37 : decode cX7_isWord 37 = .ok (.getfield 19, 3) := by decide +kernel
theorem dX7_isWord_40 : decode cX7_isWord 40 = .ok (.iload_n 2, 1) := by decide +kernel
theorem dX7_isWord_41 : decode cX7_isWord 41 = .ok (.iadd, 1) := by decide +kernel
theorem dX7_isWord_42 : decode cX7_isWord 42 = .ok (.ifCond .lt 34, 3) := by decide +kernel
theorem dX7_isWord_45 : decode cX7_isWord 45 = .ok (.aload_n 0, 1) := by decide +kernel
theorem dX7_isWord_46 : decode cX7_isWord 46 = .ok (.getfield 19, 3) := by decide +kernel
theorem dX7_isWord_49 : decode cX7_isWord 49 = .ok (.iload_n 2, 1) := by decide +kernel
theorem dX7_isWord_50 : decode cX7_isWord 50 = .ok (.iadd, 1) := by decide +kernel
theorem dX7_isWord_51 : decode cX7_isWord 51 = .ok (.sipush 600, 3) := by decide +kernel
theorem dX7_isWord_54 : decode cX7_isWord 54 = .ok (.if_icmp .ge 22, 3) := by decide +kernel
theorem dX7_isWord_57 : decode cX7_isWord 57 = .ok (.aload_n 0, 1) := by decide +kernel
theorem dX7_isWord_58 : decode cX7_isWord 58 = .ok (.getfield 9, 3) := by decide +kernel
theorem dX7_isWord_61 : decode cX7_isWord 61 = .ok (.aload_n 0, 1) := by decide +kernel
theorem dX7_isWord_62 : decode cX7_isWord 62 = .ok (.getfield 19, 3) := by decide +kernel
theorem dX7_isWord_65 : decode cX7_isWord 65 = .ok (.iload_n 2, 1) := by decide +kernel
theorem dX7_isWord_66 : decode cX7_isWord 66 = .ok (.iadd, 1) := by decide +kernel
theorem dX7_isWord_67 : decode cX7_isWord 67 = .ok (.iaload, 1) := by decide +kernel
theorem dX7_isWord_68 : decode cX7_isWord 68 = .ok (.aload_n 1, 1) := by decide +kernel
theorem dX7_isWord_69 : decode cX7_isWord 69 = .ok (.iload_n 2, 1) := by decide +kernel
theorem dX7_isWord_70 : decode cX7_isWord 70 = .ok (.invokevirtual 53, 3) := by decide +kernel
theorem dX7_isWord_73 : decode cX7_isWord 73 = .ok (.if_icmp .eq 5, 3) := by decide +kernel
theorem dX7_isWord_76 : decode cX7_isWord 76 = .ok (.iconst 0, 1) := by decide +kernel
theorem dX7_isWord_77 : decode cX7_isWord 77 = .ok (.ireturn, 1) := by decide +kernel
theorem dX7_isWord_78 : decode cX7_isWord 78 = .ok (.iinc 2 1, 3) := by decide +kernel
theorem dX7_isWord_81 : decode cX7_isWord 81 = .ok (.goto (-53), 3) := by decide +kernel
theorem dX7_isWord_84 : decode cX7_isWord 84 = .ok (.iconst 1, 1) := by decide +kernel
theorem dX7_isWord_85 : decode cX7_isWord 85 = .ok (.ireturn, 1) := by decide +kernel
theorem dX7_numberCode_0 : decode cX7_numberCode 0 = .ok (.aload_n 0, 1) := by decide +kernel
theorem dX7_numberCode_1 : decode cX7_numberCode 1 = .ok (.getfield 31, 3) := by decide +kernel
theorem dX7_numberCode_4 : decode cX7_numberCode 4 = .ok (.iconst 2, 1) := by decide +kernel
theorem dX7_numberCode_5 : decode cX7_numberCode 5 = .ok (.if_icmp .eq 5, 3) := by decide +kernel
theorem dX7_numberCode_8 : decode cX7_numberCode 8 = .ok (.iconst 1, 1) := by decide +kernel
theorem dX7_numberCode_9 : decode cX7_numberCode 9 = .ok (.ireturn, 1) := by decide +kernel
theorem dX7_numberCode_10 : decode cX7_numberCode 10 = .ok (.aload_n 0, 1) := by decide +kernel
theorem dX7_numberCode_11 : decode cX7_numberCode 11 = .ok (.getfield 22, 3) := by decide +kernel
theorem dX7_numberCode_14 : decode cX7_numberCode 14 = .ok (.iload_n 1, 1) := by decide +kernel
theorem dX7_numberCode_15 : decode cX7_numberCode 15 = .ok (.if_icmp .lt 11, 3) := by decide +kernel
theorem dX7_numberCode_18 : decode cX7_numberCode 18 = .ok (.aload_n 0, 1) := by decide +kernel
theorem dX7_numberCode_19 : decode cX7_numberCode 19 = .ok (.getfield 22, 3) := by decide +kernel
theorem dX7_numberCode_22 : decode cX7_numberCode 22 = .ok (.iload_n 2, 1) := by decide +kernel
theorem dX7_numberCode_23 : decode cX7_numberCode 23 = .ok (.if_icmp .le 7, 3) := by decide +kernel
theorem dX7_numberCode_26 : decode cX7_numberCode 26 = .ok (.iconst 2, 1) := by decide +kernel
theorem dX7_numberCode_27 : decode cX7_numberCode 27 = .ok (.goto 4, 3) := by decide +kernel
theorem dX7_numberCode_30 : decode cX7_numberCode 30 = .ok (.iconst 0, 1) := by decide +kernel
theorem dX7_numberCode_31 : decode cX7_numberCode 31 = .ok (.ireturn, 1) := by decide +kernel
set_option maxRecDepth 20000 in
theorem ggX8_init_X2_init : GoodIn wsX8_init wsX2_init := goodIn_r _ [44, 45, 2, 3, 46, 47, 48, 49, 50, 51, 52, 38, 53, 54, 55, 56, 57, 58, 59, 60, 61, 62, 63, 64, 135, 136, 137, 138, 139, 140, 141, 142, 143, 144, 145, 146, 147, 148, 149, 150, 151, 152, 153] (by decide +kernel) (by decide +kernel)
set_option maxRecDepth 20000 in
theorem gX8_init_X2_init_n9 : GoodIn wsX8_init (wsX2_init) := ggX8_init_X2_init
set_option maxRecDepth 20000 in
theorem ggX8_init_X1_init : GoodIn wsX8_init wsX1_init := goodIn_r _ [67, 68, 2, 3, 69, 70, 5, 6, 71, 72, 73, 74, 43, 44, 45, 46, 47, 48, 49, 50, 51, 52, 38, 53, 54, 55, 56, 57, 58, 59, 60, 61, 62, 63, 64, 168, 169, 170, 171, 172, 135, 136, 137, 138, 139, 140, 141, 142, 143, 144, 145, 146, 147, 148, 149, 150, 151, 152, 153] (by decide +kernel) (by decide +kernel)
set_option maxRecDepth 20000 in
theorem gX8_init_X1_init : GoodIn wsX8_init (wsX1_init) := ggX8_init_X1_init
set_option maxRecDepth 20000 in
theorem ggX8_init_X6_init : GoodIn wsX8_init wsX6_init := goodIn_r _ [76, 77, 2, 3, 38, 78, 79, 80, 81, 82, 83, 84, 85, 173, 174, 175, 176, 177, 178, 179, 180] (by decide +kernel) (by decide +kernel)
set_option maxRecDepth 20000 in
theorem gX8_init_X6_init_n28 : GoodIn wsX8_init (wsX6_init) := ggX8_init_X6_init
set_option maxRecDepth 20000 in
theorem ggX8_init_X0_init : GoodIn wsX8_init wsX0_init := goodIn_r _ [87, 88, 2, 3, 38, 89, 90, 91, 92, 93, 94, 5, 6, 95, 96, 14, 15, 97, 43, 44, 45, 46, 47, 48, 49, 50, 51, 52, 53, 54, 55, 56, 57, 58, 59, 60, 61, 62, 63, 64, 75, 76, 77, 78, 79, 80, 81, 82, 83, 84, 85, 181, 182, 183, 184, 185, 186, 187, 135, 136, 137, 138, 139, 140, 141, 142, 143, 144, 145, 146, 147, 148, 149, 150, 151, 152, 153, 173, 174, 175, 176, 177, 178, 179, 180] (by decide +kernel) (by decide +kernel)
set_option maxRecDepth 20000 in
theorem gX8_init_X0_init_n38 : GoodIn wsX8_init (wsX0_init) := ggX8_init_X0_init
set_option maxRecDepth 20000 in
theorem ggX8_init_X4_init : GoodIn wsX8_init wsX4_init := goodIn_r _ [99, 100, 2, 3, 38, 101, 102, 188, 189] (by decide +kernel) (by decide +kernel)
set_option maxRecDepth 20000 in
theorem gX8_init_X4_init_n45 : GoodIn wsX8_init (wsX4_init) := ggX8_init_X4_init
set_option maxRecDepth 20000 in
theorem ggX8_init_X7_init : GoodIn wsX8_init wsX7_init := goodIn_r _ [104, 105, 2, 3, 38, 106, 107, 108, 109, 110, 111, 112, 190, 191, 192, 193, 194, 195, 196] (by decide +kernel) (by decide +kernel)
set_option maxRecDepth 20000 in
theorem gX8_init_X7_init_n52 : GoodIn wsX8_init (wsX7_init) := ggX8_init_X7_init
set_option maxRecDepth 20000 in
theorem ggX8_init_X3_init : GoodIn wsX8_init wsX3_init := goodIn_r _ [115, 116, 2, 3, 117, 197] (by decide +kernel) (by decide +kernel)
set_option maxRecDepth 20000 in
theorem gX8_init_X3_init : GoodIn wsX8_init (wsX3_init) := ggX8_init_X3_init
set_option maxRecDepth 20000 in
theorem ggX8_init_X5_init : GoodIn wsX8_init wsX5_init := goodIn_r _ [120, 121, 2, 3, 38, 122, 123, 124, 125, 126, 198, 199, 200, 201, 202] (by decide +kernel) (by decide +kernel)
set_option maxRecDepth 20000 in
theorem gX8_init_X5_init : GoodIn wsX8_init (wsX5_init) := ggX8_init_X5_init
set_option maxRecDepth 20000 in
theorem ggX8_init_X2_begin : GoodIn wsX8_init wsX2_begin := goodIn_r _ [130, 46, 47, 48, 49, 50, 55, 56, 61, 62, 63, 64, 131, 132, 133, 134, 135, 136, 137, 138, 139, 140, 141, 142, 143, 144, 145, 146, 147, 148, 149, 150, 151, 152, 153] (by decide +kernel) (by decide +kernel)
set_option maxRecDepth 20000 in
theorem gX8_init_X2_begin : GoodIn wsX8_init (wsV RX8 87 RX2 yX2_begin wsX2_begin) := goodIn_app (goodIn_of _ (by decide +kernel)) ggX8_init_X2_begin
theorem dX8_init_0 : decode cX8_init 0 = .ok (.aload_n 0, 1) := by decide +kernel
theorem dX8_init_1 : decode cX8_init 1 = .ok (.invokespecial 1, 3) := by decide +kernel
theorem dX8_init_4 : decode cX8_init 4 = .ok (.aload_n 0, 1) := by decide +kernel
theorem dX8_init_5 : decode cX8_init 5 = .ok (.new 7, 3) := by decide +kernel
theorem dX8_init_8 : decode cX8_init 8 = .ok (.dup, 1) := by decide +kernel
theorem dX8_init_9 : decode cX8_init 9 = .ok (.invokespecial 9, 3) := by decide +kernel
theorem dX8_init_12 : decode cX8_init 12 = .ok (.putfield 10, 3) := by decide +kernel
theorem dX8_init_15 : decode cX8_init 15 = .ok (.aload_n 0, 1) := by decide +kernel
theorem dX8_init_16 : decode cX8_init 16 = .ok (.new 7, 3) := by decide +kernel
theorem dX8_init_19 : decode cX8_init 19 = .ok (.dup, 1) := by decide +kernel
theorem dX8_init_20 : decode cX8_init 20 = .ok (.invokespecial 9, 3) := by decide +kernel
theorem dX8_init_23 : decode cX8_init 23 = .ok (.putfield 16, 3) := by decide +kernel
theorem dX8_init_26 : decode cX8_init 26 = .ok (.aload_n 0, 1) := by decide +kernel
theorem dX8_init_27 : decode cX8_init 27 = .ok (.new 19, 3) := by decide +kernel
theorem dX8_init_30 : decode cX8_init 30 = .ok (.dup, 1) := by decide +kernel
theorem dX8_init_31 : decode cX8_init 31 = .ok (.invokespecial 21, 3) := by decide +kernel
theorem dX8_init_34 : decode cX8_init 34 = .ok (.putfield 22, 3) := by decide +kernel
theorem dX8_init_37 : decode cX8_init 37 = .ok (.aload_n 0, 1) := by decide +kernel
theorem dX8_init_38 : decode cX8_init 38 = .ok (.new 26, 3) := by decide +kernel
theorem dX8_init_41 : decode cX8_init 41 = .ok (.dup, 1) := by decide +kernel
theorem dX8_init_42 : decode cX8_init 42 = .ok (.invokespecial 28, 3) := by decide +kernel
theorem dX8_init_45 : decode cX8_init 45 = .ok (.putfield 29, 3) := by decide +kernel
theorem dX8_init_48 : decode cX8_init 48 = .ok (.aload_n 0, 1) := by decide +kernel
theorem dX8_init_49 : decode cX8_init 49 = .ok (.new 26, 3) := by decide +kernel
theorem dX8_init_52 : decode cX8_init 52 = .ok (.dup, 1) := by decide +kernel
theorem dX8_init_53 : decode cX8_init 53 = .ok (.invokespecial 28, 3) := by decide +kernel
theorem dX8_init_56 : decode cX8_init 56 = .ok (.putfield 33, 3) := by decide +kernel
theorem dX8_init_59 : decode cX8_init 59 = .ok (.aload_n 0, 1) := by decide +kernel
theorem dX8_init_60 : decode cX8_init 60 = .ok (.new 36, 3) := by decide +kernel
theorem dX8_init_63 : decode cX8_init 63 = .ok (.dup, 1) := by decide +kernel
theorem dX8_init_64 : decode cX8_init 64 = .ok (.invokespecial 38, 3) := by decide +kernel
theorem dX8_init_67 : decode cX8_init 67 = .ok (.putfield 39, 3) := by decide +kernel
theorem dX8_init_70 : decode cX8_init 70 = .ok (.aload_n 0, 1) := by decide +kernel
theorem dX8_init_71 : decode cX8_init 71 = .ok (.new 43, 3) := by decide +kernel
theorem dX8_init_74 : decode cX8_init 74 = .ok (.dup, 1) := by decide +kernel
theorem dX8_init_75 : decode cX8_init 75 = .ok (.invokespecial 45, 3) := by decide +kernel
theorem dX8_init_78 : decode cX8_init 78 = .ok (.putfield 46, 3) := by decide +kernel
theorem dX8_init_81 : decode cX8_init 81 = .ok (.aload_n 0, 1) := by decide +kernel
theorem dX8_init_82 : decode cX8_init 82 = .ok (.new 50, 3) := by decide +kernel
theorem dX8_init_85 : decode cX8_init 85 = .ok (.dup, 1) := by decide +kernel
theorem dX8_init_86 : decode cX8_init 86 = .ok (.invokespecial 52, 3) := by decide +kernel
theorem dX8_init_89 : decode cX8_init 89 = .ok (.putfield 53, 3) := by decide +kernel
theorem dX8_init_92 : decode cX8_init 92 = .ok (.aload_n 0, 1) := by decide +kernel
theorem dX8_init_93 : decode cX8_init 93 = .ok (.new 57, 3) := by decide +kernel
theorem dX8_init_96 : decode cX8_init 96 = .ok (.dup, 1) := by decide +kernel
theorem dX8_init_97 : decode cX8_init 97 = .ok (.aload_n 0, 1) := by decide +kernel
theorem dX8_init_98 : decode cX8_init 98 = .ok (.getfield 53, 3) := by decide +kernel
theorem dX8_init_101 : decode cX8_init 101 = .ok (.invokespecial 59, 3) := by decide +kernel
theorem dX8_init_104 : decode cX8_init 104 = .ok (.putfield 62, 3) := by decide +kernel
theorem dX8_init_107 : decode cX8_init 107 = .ok (.aload_n 0, 1) := by decide +kernel
theorem dX8_init_108 : decode cX8_init 108 = .ok (.new 66, 3) := by decide +kernel
theorem dX8_init_111 : decode cX8_init 111 = .ok (.dup, 1) := by decide +kernel
theorem dX8_init_112 : decode cX8_init 112 = .ok (.aload_n 0, 1) := by decide +kernel
theorem dX8_init_113 : decode cX8_init 113 = .ok (.getfield 53, 3) := by decide +kernel
theorem dX8_init_116 : decode cX8_init 116 = .ok (.invokespecial 68, 3) := by decide +kernel
theorem dX8_init_119 : decode cX8_init 119 = .ok (.putfield 69, 3) := by decide +kernel
theorem dX8_init_122 : decode cX8_init 122 = .ok (.aload_n 0, 1) := by decide +kernel
theorem dX8_init_123 : decode cX8_init 123 = .ok (.bipush 64, 2) := by decide +kernel
theorem dX8_init_125 : decode cX8_init 125 = .ok (.newarray .int, 2) := by decide +kernel
theorem dX8_init_127 : decode cX8_init 127 = .ok (.putfield 73, 3) := by decide +kernel
theorem dX8_init_130 : decode cX8_init 130 = .ok (.aload_n 0, 1) := by decide +kernel
theorem dX8_init_131 : decode cX8_init 131 = .ok (.iconst 0, 1) := by decide +kernel
theorem dX8_init_132 : decode cX8_init 132 = .ok (.putfield 77, 3) := by decide +kernel
theorem dX8_init_135 : decode cX8_init 135 = .ok (.aload_n 0, 1) := by decide +kernel
theorem dX8_init_136 : decode cX8_init 136 = .ok (.iconst (-1), 1) := by decide +kernel
theorem dX8_init_137 : decode cX8_init 137 = .ok (.putfield 81, 3) := by decide +kernel
theorem dX8_init_140 : decode cX8_init 140 = .ok (.aload_n 0, 1) := by decide +kernel
theorem dX8_init_141 : decode cX8_init 141 = .ok (.iconst 0, 1) := by decide +kernel
theorem dX8_init_142 : decode cX8_init 142 = .ok (.putfield 84, 3) := by decide +kernel
theorem dX8_init_145 : decode cX8_init 145 = .ok (.aload_n 0, 1) := by decide +kernel
theorem dX8_init_146 : decode cX8_init 146 = .ok (.getfield 10, 3) := by decide +kernel
theorem dX8_init_149 : decode cX8_init 149 = .ok (.iconst 1, 1) := by decide +kernel
theorem dX8_init_150 : decode cX8_init 150 = .ok (.invokevirtual 87, 3) := by decide +kernel
theorem dX8_init_153 : decode cX8_init 153 = .ok (.return_, 1) := by decide +kernel
set_option maxRecDepth 20000 in
theorem ggX8_feed_X7_addBytes : GoodIn wsX8_feed wsX7_addBytes := goodIn_r _ [7, 8, 9, 24, 25, 26, 27, 28, 29, 30] (by decide +kernel) (by decide +kernel)
set_option maxRecDepth 20000 in
theorem gX8_feed_X7_addBytes : GoodIn wsX8_feed (wsV RX8 94 RX7 yX7_addBytes wsX7_addBytes) := goodIn_app (goodIn_of _ (by decide +kernel)) ggX8_feed_X7_addBytes
theorem dX8_feed_0 : decode cX8_feed 0 = .ok (.aload_n 0, 1) := by decide +kernel
theorem dX8_feed_1 : decode cX8_feed 1 = .ok (.getfield 53, 3) := by decide +kernel
theorem dX8_feed_4 : decode cX8_feed 4 = .ok (.getfield 91, 3) := by decide +kernel
theorem dX8_feed_7 : decode cX8_feed 7 = .ok (.sipush 580, 3) := by decide +kernel
theorem dX8_feed_10 : decode cX8_feed 10 = .ok (.if_icmp .le 5, 3) := by decide +kernel
theorem dX8_feed_13 : decode cX8_feed 13 = .ok (.iconst (-1), 1) := by decide +kernel
theorem dX8_feed_14 : decode cX8_feed 14 = .ok (.ireturn, 1) := by decide +kernel
theorem dX8_feed_15 : decode cX8_feed 15 = .ok (.aload_n 0, 1) := by decide +kernel
theorem dX8_feed_16 : decode cX8_feed 16 = .ok (.getfield 53, 3) := by decide +kernel
theorem dX8_feed_19 : decode cX8_feed 19 = .ok (.iload_n 1, 1) := by decide +kernel
theorem dX8_feed_20 : decode cX8_feed 20 = .ok (.invokevirtual 94, 3) := by decide +kernel
theorem dX8_feed_23 : decode cX8_feed 23 = .ok (.aload_n 0, 1) := by decide +kernel
theorem dX8_feed_24 : decode cX8_feed 24 = .ok (.getfield 53, 3) := by decide +kernel
theorem dX8_feed_27 : decode cX8_feed 27 = .ok (.iload_n 2, 1) := by decide +kernel
theorem dX8_feed_28 : decode cX8_feed 28 = .ok (.invokevirtual 94, 3) := by decide +kernel
theorem dX8_feed_31 : decode cX8_feed 31 = .ok (.aload_n 0, 1) := by decide +kernel
theorem dX8_feed_32 : decode cX8_feed 32 = .ok (.getfield 53, 3) := by decide +kernel
theorem dX8_feed_35 : decode cX8_feed 35 = .ok (.iload_n 3, 1) := by decide +kernel
theorem dX8_feed_36 : decode cX8_feed 36 = .ok (.invokevirtual 94, 3) := by decide +kernel
theorem dX8_feed_39 : decode cX8_feed 39 = .ok (.aload_n 0, 1) := by decide +kernel
theorem dX8_feed_40 : decode cX8_feed 40 = .ok (.getfield 53, 3) := by decide +kernel
theorem dX8_feed_43 : decode cX8_feed 43 = .ok (.iload 4, 2) := by decide +kernel
theorem dX8_feed_45 : decode cX8_feed 45 = .ok (.invokevirtual 94, 3) := by decide +kernel
theorem dX8_feed_48 : decode cX8_feed 48 = .ok (.aload_n 0, 1) := by decide +kernel
theorem dX8_feed_49 : decode cX8_feed 49 = .ok (.getfield 53, 3) := by decide +kernel
theorem dX8_feed_52 : decode cX8_feed 52 = .ok (.iload 5, 2) := by decide +kernel
theorem dX8_feed_54 : decode cX8_feed 54 = .ok (.invokevirtual 94, 3) := by decide +kernel
theorem dX8_feed_57 : decode cX8_feed 57 = .ok (.aload_n 0, 1) := by decide +kernel
theorem dX8_feed_58 : decode cX8_feed 58 = .ok (.getfield 53, 3) := by decide +kernel
theorem dX8_feed_61 : decode cX8_feed 61 = .ok (.getfield 91, 3) := by decide +kernel
theorem dX8_feed_64 : decode cX8_feed 64 = .ok (.ireturn, 1) := by decide +kernel
set_option maxRecDepth 20000 in
theorem ggX8_load_X8_needRange : GoodIn wsX8_load wsX8_needRange := goodIn_ca (goodIn_r _ [11, 12, 13] (by decide +kernel) (by decide +kernel)) (goodIn_sub (fun _ h => List.mem_cons_of_mem _ (List.mem_append_right _ h)) (by decide +kernel))
set_option maxRecDepth 20000 in
theorem gX8_load_X8_needRange : GoodIn wsX8_load (va_wsS RX8 97 yX8_needRange wsX8_needRange) := goodIn_app (goodIn_of _ (by decide +kernel)) ggX8_load_X8_needRange
set_option maxRecDepth 20000 in
theorem ggX8_load_X7_begin : GoodIn wsX8_load wsX7_begin := goodIn_r _ [18, 19, 20, 21, 22, 23, 24, 25, 26, 27, 17, 28, 29, 30, 31, 32, 33, 34, 35, 273, 274, 275, 276, 277, 278, 279] (by decide +kernel) (by decide +kernel)
set_option maxRecDepth 20000 in
theorem gX8_load_X7_begin : GoodIn wsX8_load (wsV RX8 101 RX7 yX7_begin wsX7_begin) := goodIn_app (goodIn_of _ (by decide +kernel)) ggX8_load_X7_begin
set_option maxRecDepth 20000 in
theorem ggX8_load_X3_readHouse : GoodIn wsX8_load wsX3_readHouse := goodIn_r _ [40, 41, 42, 43, 44, 45, 17, 46, 32, 24, 30, 29, 47, 48, 49, 50, 51, 52, 53, 54, 55, 56, 57, 58, 59, 60, 61, 62, 63, 64, 65, 66, 67, 68, 69, 70, 71, 72, 73, 74, 75, 76, 77, 78, 79, 80, 81, 82, 83, 84, 85, 86, 87, 88, 89, 90, 91, 92, 93, 94, 95, 96, 26, 27, 28, 23, 31, 33, 34, 35, 97, 98, 99, 100, 101, 102, 103, 104, 105, 106, 107, 108, 109, 110, 111, 112, 113, 114, 115, 116, 117, 118, 119, 120, 121, 122, 123, 39, 124, 125, 126, 127, 128, 129, 130, 131, 132, 133, 134, 135, 136, 137, 138, 139, 140, 141, 142, 143, 144, 145, 146, 147, 148, 149, 150, 151, 152, 153, 154, 155, 156, 157, 158, 10, 159, 160, 161, 162, 163, 164, 165, 166, 167, 168, 169, 170, 171, 172, 173, 174, 175, 176, 177, 178, 179, 180, 181, 182, 183, 184, 185, 186, 187, 188, 189, 190, 191, 192, 193, 194, 195, 196, 197, 198, 199, 200, 201, 202, 203, 204, 205, 206, 207, 208, 209, 210, 211, 212, 213, 214, 215, 216, 217, 218, 219, 220, 221, 222, 223, 224, 299, 273, 274, 275, 276, 277, 278, 279, 280, 281, 282, 283, 284, 285, 286, 287, 288, 289, 290, 291, 292, 293, 294, 295, 296, 297, 298] (by decide +kernel) (by decide +kernel)
set_option maxRecDepth 20000 in
theorem gX8_load_X3_readHouse : GoodIn wsX8_load (wsV RX8 102 RX3 yX3_readHouse wsX3_readHouse) := goodIn_app (goodIn_of _ (by decide +kernel)) ggX8_load_X3_readHouse
set_option maxRecDepth 20000 in
theorem ggX8_load_X8_endReading : GoodIn wsX8_load wsX8_endReading := goodIn_r _ [228, 1, 229, 230, 2, 259, 260, 261, 262, 263, 264, 265, 266, 267, 268, 269, 270, 271, 272, 273, 274, 275, 276, 277, 278, 279] (by decide +kernel) (by decide +kernel)
set_option maxRecDepth 20000 in
theorem gX8_load_X8_endReading : GoodIn wsX8_load (wsV RX8 106 RX8 yX8_endReading wsX8_endReading) := goodIn_app (goodIn_of _ (by decide +kernel)) ggX8_load_X8_endReading
set_option maxRecDepth 20000 in
theorem ggX8_load_X2_copyFrom : GoodIn wsX8_load wsX2_copyFrom := goodIn_r _ [234, 106, 107, 108, 109, 110, 235, 236, 148, 237, 238, 239, 240, 149, 111, 112, 186, 187, 202, 188, 113, 114, 115, 116, 280, 281, 282, 283, 284, 285, 286, 287, 288, 289, 290, 291, 292, 293, 294, 295, 296, 297, 298] (by decide +kernel) (by decide +kernel)
set_option maxRecDepth 20000 in
theorem gX8_load_X2_copyFrom : GoodIn wsX8_load (wsV RX8 109 RX2 yX2_copyFrom wsX2_copyFrom) := goodIn_app (goodIn_of _ (by decide +kernel)) ggX8_load_X2_copyFrom
set_option maxRecDepth 20000 in
theorem ggX8_load_X8_markWalksChanged : GoodIn wsX8_load wsX8_markWalksChanged := goodIn_r _ [244, 5, 245, 246, 247, 248, 249, 10, 250, 251, 259, 260, 261, 262, 263, 264, 265, 266, 267, 268, 269, 270, 271, 272, 280, 281, 282, 283, 284, 285, 286, 287, 288, 289, 290, 291, 292, 293, 294, 295, 296, 297, 298] (by decide +kernel) (by decide +kernel)
set_option maxRecDepth 20000 in
theorem gX8_load_X8_markWalksChanged : GoodIn wsX8_load (wsV RX8 113 RX8 yX8_markWalksChanged wsX8_markWalksChanged) := goodIn_app (goodIn_of _ (by decide +kernel)) ggX8_load_X8_markWalksChanged
set_option maxRecDepth 20000 in
theorem ggX8_load_X1_forget : GoodIn wsX8_load wsX1_forget := goodIn_r _ [256, 257, 258, 300, 301, 302, 303, 304] (by decide +kernel) (by decide +kernel)
set_option maxRecDepth 20000 in
theorem gX8_load_X1_forget : GoodIn wsX8_load (wsV RX8 116 RX1 yX1_forget wsX1_forget) := goodIn_app (goodIn_of _ (by decide +kernel)) ggX8_load_X1_forget
theorem dX8_load_0 : decode cX8_load 0 = .ok (.iload_n 1, 1) := by decide +kernel
theorem dX8_load_1 : decode cX8_load 1 = .ok (.iconst 0, 1) := by decide +kernel
theorem dX8_load_2 : decode cX8_load 2 = .ok (.aload_n 0, 1) := by decide +kernel
theorem dX8_load_3 : decode cX8_load 3 = .ok (.getfield 53, 3) := by decide +kernel
theorem dX8_load_6 : decode cX8_load 6 = .ok (.getfield 91, 3) := by decide +kernel
theorem dX8_load_9 : decode cX8_load 9 = .ok (.invokestatic 97, 3) := by decide +kernel
theorem dX8_load_12 : decode cX8_load 12 = .ok (.aload_n 0, 1) := by decide +kernel
theorem dX8_load_13 : decode cX8_load 13 = .ok (.getfield 53, 3) := by decide +kernel
theorem dX8_load_16 : decode cX8_load 16 = .ok (.iload_n 1, 1) := by decide +kernel
theorem dX8_load_17 : decode cX8_load 17 = .ok (.invokevirtual 101, 3) := by decide +kernel
theorem dX8_load_20 : decode cX8_load 20 = .ok (.aload_n 0, 1) := by decide +kernel
theorem dX8_load_21 : decode cX8_load 21 = .ok (.getfield 62, 3) := by decide +kernel
theorem dX8_load_24 : decode cX8_load 24 = .ok (.aload_n 0, 1) := by decide +kernel
theorem dX8_load_25 : decode cX8_load 25 = .ok (.getfield 16, 3) := by decide +kernel
theorem dX8_load_28 : decode cX8_load 28 = .ok (.invokevirtual 102, 3) := by decide +kernel
theorem dX8_load_31 : decode cX8_load 31 = .ok (.istore_n 2, 1) := by decide +kernel
theorem dX8_load_32 : decode cX8_load 32 = .ok (.aload_n 0, 1) := by decide +kernel
theorem dX8_load_33 : decode cX8_load 33 = .ok (.iload_n 2, 1) := by decide +kernel
theorem dX8_load_34 : decode cX8_load 34 = .ok (.invokevirtual 106, 3) := by decide +kernel
theorem dX8_load_37 : decode cX8_load 37 = .ok (.iload_n 2, 1) := by decide +kernel
theorem dX8_load_38 : decode cX8_load 38 = .ok (.ifCond .eq 8, 3) := by decide +kernel
theorem dX8_load_41 : decode cX8_load 41 = .ok (.bipush (-10), 2) := by decide +kernel
theorem dX8_load_43 : decode cX8_load 43 = .ok (.iload_n 2, 1) := by decide +kernel
theorem dX8_load_44 : decode cX8_load 44 = .ok (.isub, 1) := by decide +kernel
theorem dX8_load_45 : decode cX8_load 45 = .ok (.ireturn, 1) := by decide +kernel
theorem dX8_load_46 : decode cX8_load 46 = .ok (.aload_n 0, 1) := by decide +kernel
theorem dX8_load_47 : decode cX8_load 47 = .ok (.getfield 10, 3) := by decide +kernel
theorem dX8_load_50 : decode cX8_load 50 = .ok (.aload_n 0, 1) := by decide +kernel
theorem dX8_load_51 : decode cX8_load 51 = .ok (.getfield 16, 3) := by decide +kernel
theorem dX8_load_54 : decode cX8_load 54 = .ok (.invokevirtual 109, 3) := by decide +kernel
theorem dX8_load_57 : decode cX8_load 57 = .ok (.aload_n 0, 1) := by decide +kernel
theorem dX8_load_58 : decode cX8_load 58 = .ok (.invokevirtual 113, 3) := by decide +kernel
theorem dX8_load_61 : decode cX8_load 61 = .ok (.aload_n 0, 1) := by decide +kernel
theorem dX8_load_62 : decode cX8_load 62 = .ok (.getfield 22, 3) := by decide +kernel
theorem dX8_load_65 : decode cX8_load 65 = .ok (.invokevirtual 116, 3) := by decide +kernel
theorem dX8_load_68 : decode cX8_load 68 = .ok (.aload_n 0, 1) := by decide +kernel
theorem dX8_load_69 : decode cX8_load 69 = .ok (.getfield 10, 3) := by decide +kernel
theorem dX8_load_72 : decode cX8_load 72 = .ok (.getfield 119, 3) := by decide +kernel
theorem dX8_load_75 : decode cX8_load 75 = .ok (.ireturn, 1) := by decide +kernel
set_option maxRecDepth 20000 in
theorem ggX8_size_X2_cycleLength : GoodIn wsX8_size wsX2_cycleLength := goodIn_r _ [13, 14, 15, 16, 17, 18, 133, 134, 135, 136, 137, 138, 139, 140, 141, 142, 143, 144, 145, 146, 147, 148, 149, 150, 151] (by decide +kernel) (by decide +kernel)
set_option maxRecDepth 20000 in
theorem gX8_size_X2_cycleLength : GoodIn wsX8_size (wsV RX8 128 RX2 yX2_cycleLength wsX2_cycleLength) := goodIn_app (goodIn_of _ (by decide +kernel)) ggX8_size_X2_cycleLength
set_option maxRecDepth 20000 in
theorem ggX8_size_X8_measured : GoodIn wsX8_size wsX8_measured := goodIn_r _ [22, 23, 24, 3, 25, 26, 27, 28, 29, 30, 31, 32, 33, 34, 35, 36, 37, 38, 39, 40, 41, 42, 43, 44, 45, 46, 47, 48, 49, 50, 51, 52, 53, 54, 10, 11, 12, 13, 14, 15, 16, 17, 18, 55, 56, 57, 58, 59, 60, 61, 62, 63, 64, 65, 66, 67, 68, 69, 70, 71, 72, 73, 74, 75, 76, 77, 119, 120, 121, 122, 123, 124, 125, 126, 127, 128, 129, 130, 131, 132, 152, 153, 154, 155, 156, 157, 158, 159, 133, 134, 135, 136, 137, 138, 139, 140, 141, 142, 143, 144, 145, 146, 147, 148, 149, 150, 151] (by decide +kernel) (by decide +kernel)
set_option maxRecDepth 20000 in
theorem gX8_size_X8_measured : GoodIn wsX8_size (wsV RX8 135 RX8 yX8_measured wsX8_measured) := goodIn_app (goodIn_of _ (by decide +kernel)) ggX8_size_X8_measured
set_option maxRecDepth 20000 in
theorem ggX8_size_X6_countLate : GoodIn wsX8_size wsX6_countLate := goodIn_r _ [81, 43, 82, 83, 84, 29, 85, 32, 86, 133, 134, 135, 136, 137, 138, 139, 140, 141, 142, 143, 144, 145, 146, 147, 148, 149, 150, 151, 152, 153, 154, 155, 156, 157, 158, 159] (by decide +kernel) (by decide +kernel)
set_option maxRecDepth 20000 in
theorem gX8_size_X6_countLate : GoodIn wsX8_size (wsV RX8 142 RX6 yX6_countLate wsX6_countLate) := goodIn_app (goodIn_of _ (by decide +kernel)) ggX8_size_X6_countLate
set_option maxRecDepth 20000 in
theorem ggX8_size_X2_countCrossings : GoodIn wsX8_size wsX2_countCrossings := goodIn_r _ [90, 14, 91, 92, 93, 12, 94, 95, 10, 11, 13, 15, 16, 17, 18, 96, 97, 98, 99, 100, 65, 66, 67, 68, 69, 133, 134, 135, 136, 137, 138, 139, 140, 141, 142, 143, 144, 145, 146, 147, 148, 149, 150, 151] (by decide +kernel) (by decide +kernel)
set_option maxRecDepth 20000 in
theorem gX8_size_X2_countCrossings : GoodIn wsX8_size (wsV RX8 145 RX2 yX2_countCrossings wsX2_countCrossings) := goodIn_app (goodIn_of _ (by decide +kernel)) ggX8_size_X2_countCrossings
set_option maxRecDepth 20000 in
theorem ggX8_size_X2_countOpenDoors : GoodIn wsX8_size wsX2_countOpenDoors := goodIn_r _ [104, 105, 106, 107, 108, 109, 110, 111, 112, 133, 134, 135, 136, 137, 138, 139, 140, 141, 142, 143, 144, 145, 146, 147, 148, 149, 150, 151] (by decide +kernel) (by decide +kernel)
set_option maxRecDepth 20000 in
theorem gX8_size_X2_countOpenDoors : GoodIn wsX8_size (wsV RX8 148 RX2 yX2_countOpenDoors wsX2_countOpenDoors) := goodIn_app (goodIn_of _ (by decide +kernel)) ggX8_size_X2_countOpenDoors
set_option maxRecDepth 20000 in
theorem ggX8_size_X2_countSightings : GoodIn wsX8_size wsX2_countSightings := goodIn_r _ [116, 117, 118, 133, 134, 135, 136, 137, 138, 139, 140, 141, 142, 143, 144, 145, 146, 147, 148, 149, 150, 151] (by decide +kernel) (by decide +kernel)
set_option maxRecDepth 20000 in
theorem gX8_size_X2_countSightings : GoodIn wsX8_size (wsV RX8 151 RX2 yX2_countSightings wsX2_countSightings) := goodIn_app (goodIn_of _ (by decide +kernel)) ggX8_size_X2_countSightings
theorem dX8_size_0 : decode cX8_size 0 = .ok (.iload_n 1, 1) := by decide +kernel
theorem dX8_size_1 : decode cX8_size 1 = .ok (.tableswitch 139 0 9 #[55, 63, 71, 79, 87, 95, 103, 115, 123, 131], 55) := by decide +kernel
theorem dX8_size_56 : decode cX8_size 56 = .ok (.aload_n 0, 1) := by decide +kernel
theorem dX8_size_57 : decode cX8_size 57 = .ok (.getfield 10, 3) := by decide +kernel
theorem dX8_size_60 : decode cX8_size 60 = .ok (.getfield 119, 3) := by decide +kernel
theorem dX8_size_63 : decode cX8_size 63 = .ok (.ireturn, 1) := by decide +kernel
theorem dX8_size_64 : decode cX8_size 64 = .ok (.aload_n 0, 1) := by decide +kernel
theorem dX8_size_65 : decode cX8_size 65 = .ok (.getfield 10, 3) := by decide +kernel
theorem dX8_size_68 : decode cX8_size 68 = .ok (.getfield 122, 3) := by decide +kernel
theorem dX8_size_71 : decode cX8_size 71 = .ok (.ireturn, 1) := by decide +kernel
theorem dX8_size_72 : decode cX8_size 72 = .ok (.aload_n 0, 1) := by decide +kernel
theorem dX8_size_73 : decode cX8_size 73 = .ok (.getfield 10, 3) := by decide +kernel
theorem dX8_size_76 : decode cX8_size 76 = .ok (.getfield 125, 3) := by decide +kernel
theorem dX8_size_79 : decode cX8_size 79 = .ok (.ireturn, 1) := by decide +kernel
theorem dX8_size_80 : decode cX8_size 80 = .ok (.aload_n 0, 1) := by decide +kernel
theorem dX8_size_81 : decode cX8_size 81 = .ok (.getfield 10, 3) := by decide +kernel
theorem dX8_size_84 : decode cX8_size 84 = .ok (.invokevirtual 128, 3) := by decide +kernel
theorem dX8_size_87 : decode cX8_size 87 = .ok (.ireturn, 1) := by decide +kernel
theorem dX8_size_88 : decode cX8_size 88 = .ok (.aload_n 0, 1) := by decide +kernel
theorem dX8_size_89 : decode cX8_size 89 = .ok (.getfield 10, 3) := by decide +kernel
theorem dX8_size_92 : decode cX8_size 92 = .ok (.getfield 132, 3) := by decide +kernel
theorem dX8_size_95 : decode cX8_size 95 = .ok (.ireturn, 1) := by decide +kernel
theorem dX8_size_96 : decode cX8_size 96 = .ok (.aload_n 0, 1) := by decide +kernel
theorem dX8_size_97 : decode cX8_size 97 = .ok (.invokevirtual 135, 3) := by decide +kernel
theorem dX8_size_100 : decode cX8_size 100 = .ok (.getfield 139, 3) := by decide +kernel
theorem dX8_size_103 : decode cX8_size 103 = .ok (.ireturn, 1) := by decide +kernel
theorem dX8_size_104 : decode cX8_size 104 = .ok (.aload_n 0, 1) := by decide +kernel
theorem dX8_size_105 : decode cX8_size 105 = .ok (.invokevirtual 135, 3) := by decide +kernel
theorem dX8_size_108 : decode cX8_size 108 = .ok (.aload_n 0, 1) := by decide +kernel
theorem dX8_size_109 : decode cX8_size 109 = .ok (.getfield 10, 3) := by decide +kernel
theorem dX8_size_112 : decode cX8_size 112 = .ok (.invokevirtual 142, 3) := by decide +kernel
theorem dX8_size_115 : decode cX8_size 115 = .ok (.ireturn, 1) := by decide +kernel
theorem dX8_size_116 : decode cX8_size 116 = .ok (.aload_n 0, 1) := by decide +kernel
theorem dX8_size_117 : decode cX8_size 117 = .ok (.getfield 10, 3) := by decide +kernel
theorem dX8_size_120 : decode cX8_size 120 = .ok (.invokevirtual 145, 3) := by decide +kernel
theorem dX8_size_123 : decode cX8_size 123 = .ok (.ireturn, 1) := by decide +kernel
theorem dX8_size_124 : decode cX8_size 124 = .ok (.aload_n 0, 1) := by decide +kernel
theorem dX8_size_125 : decode cX8_size 125 = .ok (.getfield 10, 3) := by decide +kernel
theorem dX8_size_128 : decode cX8_size 128 = .ok (.invokevirtual 148, 3) := by decide +kernel
theorem dX8_size_131 : decode cX8_size 131 = .ok (.ireturn, 1) := by decide +kernel
theorem dX8_size_132 : decode cX8_size 132 = .ok (.aload_n 0, 1) := by decide +kernel
theorem dX8_size_133 : decode cX8_size 133 = .ok (.getfield 10, 3) := by decide +kernel
theorem dX8_size_136 : decode cX8_size 136 = .ok (.invokevirtual 151, 3) := by decide +kernel
theorem dX8_size_139 : decode cX8_size 139 = .ok (.ireturn, 1) := by decide +kernel
theorem dX8_size_140 : decode cX8_size 140 = .ok (.new 154, 3) := by decide +kernel
theorem dX8_size_143 : decode cX8_size 143 = .ok (.dup, 1) := by decide +kernel
theorem dX8_size_144 : decode cX8_size 144 = .ok (.ldc 156, 2) := by decide +kernel
theorem dX8_size_146 : decode cX8_size 146 = .ok (.invokespecial 158, 3) := by decide +kernel
theorem dX8_size_149 : decode cX8_size 149 = .ok (.athrow, 1) := by decide +kernel
set_option maxRecDepth 20000 in
theorem ggX8_door_X8_needDoor : GoodIn wsX8_door wsX8_needDoor := goodIn_ca (goodIn_r _ [10, 1, 2, 3, 11, 12, 13, 14, 15, 16, 50, 51, 52, 53, 54, 55, 56, 57, 58, 59, 60, 61, 62, 63, 64, 65, 66, 67, 68, 69, 70, 71, 72, 73, 74, 75, 76, 77, 78, 79, 80, 81, 82] (by decide +kernel) (by decide +kernel)) (goodIn_sub (fun _ h => List.mem_cons_of_mem _ (List.mem_append_right _ h)) (by decide +kernel))
set_option maxRecDepth 20000 in
theorem gX8_door_X8_needDoor : GoodIn wsX8_door (wsV RX8 161 RX8 yX8_needDoor wsX8_needDoor) := goodIn_app (goodIn_of _ (by decide +kernel)) ggX8_door_X8_needDoor
set_option maxRecDepth 20000 in
theorem ggX8_door_X2_isOpen : GoodIn wsX8_door wsX2_isOpen := goodIn_r _ [20, 21, 22, 9, 23, 64, 65, 66, 67, 68, 69, 70, 71, 72, 73, 74, 75, 76, 77, 78, 79, 80, 81, 82] (by decide +kernel) (by decide +kernel)
set_option maxRecDepth 20000 in
theorem gX8_door_X2_isOpen : GoodIn wsX8_door (wsV RX8 170 RX2 yX2_isOpen wsX2_isOpen) := goodIn_app (goodIn_of _ (by decide +kernel)) ggX8_door_X2_isOpen
set_option maxRecDepth 20000 in
theorem ggX8_door_X2_countGuardsThrough : GoodIn wsX8_door wsX2_countGuardsThrough := goodIn_r _ [27, 28, 29, 30, 31, 12, 13, 14, 15, 16, 32, 33, 34, 35, 36, 37, 38, 39, 40, 41, 42, 43, 44, 45, 46, 47, 48, 49, 64, 65, 66, 67, 68, 69, 70, 71, 72, 73, 74, 75, 76, 77, 78, 79, 80, 81, 82] (by decide +kernel) (by decide +kernel)
set_option maxRecDepth 20000 in
theorem gX8_door_X2_countGuardsThrough : GoodIn wsX8_door (wsV RX8 174 RX2 yX2_countGuardsThrough wsX2_countGuardsThrough) := goodIn_app (goodIn_of _ (by decide +kernel)) ggX8_door_X2_countGuardsThrough
theorem dX8_door_0 : decode cX8_door 0 = .ok (.aload_n 0, 1) := by decide +kernel
theorem dX8_door_1 : decode cX8_door 1 = .ok (.iload_n 1, 1) := by decide +kernel
theorem dX8_door_2 : decode cX8_door 2 = .ok (.invokevirtual 161, 3) := by decide +kernel
theorem dX8_door_5 : decode cX8_door 5 = .ok (.iload_n 2, 1) := by decide +kernel
theorem dX8_door_6 : decode cX8_door 6 = .ok (.tableswitch 76 0 3 #[30, 40, 50, 67], 30) := by decide +kernel
theorem dX8_door_36 : decode cX8_door 36 = .ok (.aload_n 0, 1) := by decide +kernel
theorem dX8_door_37 : decode cX8_door 37 = .ok (.getfield 10, 3) := by decide +kernel
theorem dX8_door_40 : decode cX8_door 40 = .ok (.getfield 164, 3) := by decide +kernel
theorem dX8_door_43 : decode cX8_door 43 = .ok (.iload_n 1, 1) := by decide +kernel
theorem dX8_door_44 : decode cX8_door 44 = .ok (.iaload, 1) := by decide +kernel
theorem dX8_door_45 : decode cX8_door 45 = .ok (.ireturn, 1) := by decide +kernel
theorem dX8_door_46 : decode cX8_door 46 = .ok (.aload_n 0, 1) := by decide +kernel
theorem dX8_door_47 : decode cX8_door 47 = .ok (.getfield 10, 3) := by decide +kernel
theorem dX8_door_50 : decode cX8_door 50 = .ok (.getfield 167, 3) := by decide +kernel
theorem dX8_door_53 : decode cX8_door 53 = .ok (.iload_n 1, 1) := by decide +kernel
theorem dX8_door_54 : decode cX8_door 54 = .ok (.iaload, 1) := by decide +kernel
theorem dX8_door_55 : decode cX8_door 55 = .ok (.ireturn, 1) := by decide +kernel
theorem dX8_door_56 : decode cX8_door 56 = .ok (.aload_n 0, 1) := by decide +kernel
theorem dX8_door_57 : decode cX8_door 57 = .ok (.getfield 10, 3) := by decide +kernel
theorem dX8_door_60 : decode cX8_door 60 = .ok (.iload_n 1, 1) := by decide +kernel
theorem dX8_door_61 : decode cX8_door 61 = .ok (.invokevirtual 170, 3) := by decide +kernel
theorem dX8_door_64 : decode cX8_door 64 = .ok (.ifCond .eq 7, 3) := by decide +kernel
theorem dX8_door_67 : decode cX8_door 67 = .ok (.iconst 1, 1) := by decide +kernel
theorem dX8_door_68 : decode cX8_door 68 = .ok (.goto 4, 3) := by decide +kernel
theorem dX8_door_71 : decode cX8_door 71 = .ok (.iconst 0, 1) := by decide +kernel
theorem dX8_door_72 : decode cX8_door 72 = .ok (.ireturn, 1) := by decide +kernel
theorem dX8_door_73 : decode cX8_door 73 = .ok (.aload_n 0, 1) := by decide +kernel
theorem dX8_door_74 : decode cX8_door 74 = .ok (.getfield 10, 3) := by decide +kernel
theorem dX8_door_77 : decode cX8_door 77 = .ok (.iload_n 1, 1) := by decide +kernel
theorem dX8_door_78 : decode cX8_door 78 = .ok (.invokevirtual 174, 3) := by decide +kernel
theorem dX8_door_81 : decode cX8_door 81 = .ok (.ireturn, 1) := by decide +kernel
theorem dX8_door_82 : decode cX8_door 82 = .ok (.new 154, 3) := by decide +kernel
theorem dX8_door_85 : decode cX8_door 85 = .ok (.dup, 1) := by decide +kernel
theorem dX8_door_86 : decode cX8_door 86 = .ok (.ldc 178, 2) := by decide +kernel
theorem dX8_door_88 : decode cX8_door 88 = .ok (.invokespecial 158, 3) := by decide +kernel
theorem dX8_door_91 : decode cX8_door 91 = .ok (.athrow, 1) := by decide +kernel
set_option maxRecDepth 20000 in
theorem ggX8_room_X8_needRoom : GoodIn wsX8_room wsX8_needRoom := goodIn_ca (goodIn_r _ [15, 1, 2, 3, 16, 17, 18, 19, 20, 21, 93, 94, 95, 96, 97, 98, 99, 100, 101, 102, 103, 104, 105, 106, 107, 108, 109, 110, 111, 112, 113, 114, 115, 116, 117, 118, 119, 120, 121, 122, 123, 124, 125] (by decide +kernel) (by decide +kernel)) (goodIn_sub (fun _ h => List.mem_cons_of_mem _ (List.mem_append_right _ h)) (by decide +kernel))
set_option maxRecDepth 20000 in
theorem gX8_room_X8_needRoom : GoodIn wsX8_room (wsV RX8 180 RX8 yX8_needRoom wsX8_needRoom) := goodIn_app (goodIn_of _ (by decide +kernel)) ggX8_room_X8_needRoom
set_option maxRecDepth 20000 in
theorem ggX8_room_X8_measured : GoodIn wsX8_room wsX8_measured := goodIn_r _ [25, 26, 27, 3, 28, 29, 30, 31, 32, 33, 34, 35, 36, 37, 38, 39, 40, 41, 42, 43, 44, 45, 46, 47, 48, 49, 50, 51, 52, 53, 54, 55, 56, 57, 58, 59, 19, 60, 61, 62, 63, 14, 64, 65, 66, 67, 68, 69, 70, 71, 72, 73, 74, 75, 76, 77, 78, 79, 80, 81, 82, 83, 84, 85, 86, 87, 93, 94, 95, 96, 97, 98, 99, 100, 101, 102, 103, 104, 105, 106, 126, 127, 128, 129, 130, 131, 132, 133, 107, 108, 109, 110, 111, 112, 113, 114, 115, 116, 117, 118, 119, 120, 121, 122, 123, 124, 125] (by decide +kernel) (by decide +kernel)
set_option maxRecDepth 20000 in
theorem gX8_room_X8_measured : GoodIn wsX8_room (wsV RX8 135 RX8 yX8_measured wsX8_measured) := goodIn_app (goodIn_of _ (by decide +kernel)) ggX8_room_X8_measured
set_option maxRecDepth 20000 in
theorem ggX8_room_X6_isLate : GoodIn wsX8_room wsX6_isLate := goodIn_r _ [91, 35, 92, 126, 127, 128, 129, 130, 131, 132, 133, 107, 108, 109, 110, 111, 112, 113, 114, 115, 116, 117, 118, 119, 120, 121, 122, 123, 124, 125] (by decide +kernel) (by decide +kernel)
set_option maxRecDepth 20000 in
theorem gX8_room_X6_isLate : GoodIn wsX8_room (wsV RX8 189 RX6 yX6_isLate wsX6_isLate) := goodIn_app (goodIn_of _ (by decide +kernel)) ggX8_room_X6_isLate
theorem dX8_room_0 : decode cX8_room 0 = .ok (.aload_n 0, 1) := by decide +kernel
theorem dX8_room_1 : decode cX8_room 1 = .ok (.iload_n 1, 1) := by decide +kernel
theorem dX8_room_2 : decode cX8_room 2 = .ok (.invokevirtual 180, 3) := by decide +kernel
theorem dX8_room_5 : decode cX8_room 5 = .ok (.iload_n 2, 1) := by decide +kernel
theorem dX8_room_6 : decode cX8_room 6 = .ok (.tableswitch 137 0 7 #[46, 56, 66, 87, 97, 107, 117, 127], 46) := by decide +kernel
theorem dX8_room_52 : decode cX8_room 52 = .ok (.aload_n 0, 1) := by decide +kernel
theorem dX8_room_53 : decode cX8_room 53 = .ok (.getfield 10, 3) := by decide +kernel
theorem dX8_room_56 : decode cX8_room 56 = .ok (.getfield 183, 3) := by decide +kernel
theorem dX8_room_59 : decode cX8_room 59 = .ok (.iload_n 1, 1) := by decide +kernel
theorem dX8_room_60 : decode cX8_room 60 = .ok (.iaload, 1) := by decide +kernel
theorem dX8_room_61 : decode cX8_room 61 = .ok (.ireturn, 1) := by decide +kernel
theorem dX8_room_62 : decode cX8_room 62 = .ok (.aload_n 0, 1) := by decide +kernel
theorem dX8_room_63 : decode cX8_room 63 = .ok (.invokevirtual 135, 3) := by decide +kernel
theorem dX8_room_66 : decode cX8_room 66 = .ok (.getfield 186, 3) := by decide +kernel
theorem dX8_room_69 : decode cX8_room 69 = .ok (.iload_n 1, 1) := by decide +kernel
theorem dX8_room_70 : decode cX8_room 70 = .ok (.iaload, 1) := by decide +kernel
theorem dX8_room_71 : decode cX8_room 71 = .ok (.ireturn, 1) := by decide +kernel
theorem dX8_room_72 : decode cX8_room 72 = .ok (.aload_n 0, 1) := by decide +kernel
theorem dX8_room_73 : decode cX8_room 73 = .ok (.invokevirtual 135, 3) := by decide +kernel
theorem dX8_room_76 : decode cX8_room 76 = .ok (.aload_n 0, 1) := by decide +kernel
theorem dX8_room_77 : decode cX8_room 77 = .ok (.getfield 10, 3) := by decide +kernel
theorem dX8_room_80 : decode cX8_room 80 = .ok (.iload_n 1, 1) := by decide +kernel
theorem dX8_room_81 : decode cX8_room 81 = .ok (.invokevirtual 189, 3) := by decide +kernel
theorem dX8_room_84 : decode cX8_room 84 = .ok (.ifCond .eq 7, 3) := by decide +kernel
theorem dX8_room_87 : decode cX8_room 87 = .ok (.iconst 1, 1) := by decide +kernel
theorem dX8_room_88 : decode cX8_room 88 = .ok (.goto 4, 3) := by decide +kernel
theorem dX8_room_91 : decode cX8_room 91 = .ok (.iconst 0, 1) := by decide +kernel
theorem dX8_room_92 : decode cX8_room 92 = .ok (.ireturn, 1) := by decide +kernel
theorem dX8_room_93 : decode cX8_room 93 = .ok (.aload_n 0, 1) := by decide +kernel
theorem dX8_room_94 : decode cX8_room 94 = .ok (.invokevirtual 135, 3) := by decide +kernel
theorem dX8_room_97 : decode cX8_room 97 = .ok (.getfield 193, 3) := by decide +kernel
theorem dX8_room_100 : decode cX8_room 100 = .ok (.iload_n 1, 1) := by decide +kernel
theorem dX8_room_101 : decode cX8_room 101 = .ok (.iaload, 1) := by decide +kernel
theorem dX8_room_102 : decode cX8_room 102 = .ok (.ireturn, 1) := by decide +kernel
theorem dX8_room_103 : decode cX8_room 103 = .ok (.aload_n 0, 1) := by decide +kernel
theorem dX8_room_104 : decode cX8_room 104 = .ok (.getfield 10, 3) := by decide +kernel
theorem dX8_room_107 : decode cX8_room 107 = .ok (.getfield 196, 3) := by decide +kernel
theorem dX8_room_110 : decode cX8_room 110 = .ok (.iload_n 1, 1) := by decide +kernel
theorem dX8_room_111 : decode cX8_room 111 = .ok (.iaload, 1) := by decide +kernel
theorem dX8_room_112 : decode cX8_room 112 = .ok (.ireturn, 1) := by decide +kernel
theorem dX8_room_113 : decode cX8_room 113 = .ok (.aload_n 0, 1) := by decide +kernel
theorem dX8_room_114 : decode cX8_room 114 = .ok (.getfield 10, 3) := by decide +kernel
theorem dX8_room_117 : decode cX8_room 117 = .ok (.getfield 198, 3) := by decide +kernel
theorem dX8_room_120 : decode cX8_room 120 = .ok (.iload_n 1, 1) := by decide +kernel
theorem dX8_room_121 : decode cX8_room 121 = .ok (.iaload, 1) := by decide +kernel
theorem dX8_room_122 : decode cX8_room 122 = .ok (.ireturn, 1) := by decide +kernel
theorem dX8_room_123 : decode cX8_room 123 = .ok (.aload_n 0, 1) := by decide +kernel
theorem dX8_room_124 : decode cX8_room 124 = .ok (.getfield 10, 3) := by decide +kernel
theorem dX8_room_127 : decode cX8_room 127 = .ok (.getfield 201, 3) := by decide +kernel
theorem dX8_room_130 : decode cX8_room 130 = .ok (.iload_n 1, 1) := by decide +kernel
theorem dX8_room_131 : decode cX8_room 131 = .ok (.iaload, 1) := by decide +kernel
theorem dX8_room_132 : decode cX8_room 132 = .ok (.ireturn, 1) := by decide +kernel
theorem dX8_room_133 : decode cX8_room 133 = .ok (.aload_n 0, 1) := by decide +kernel
theorem dX8_room_134 : decode cX8_room 134 = .ok (.getfield 10, 3) := by decide +kernel
theorem dX8_room_137 : decode cX8_room 137 = .ok (.getfield 204, 3) := by decide +kernel
theorem dX8_room_140 : decode cX8_room 140 = .ok (.iload_n 1, 1) := by decide +kernel
theorem dX8_room_141 : decode cX8_room 141 = .ok (.iaload, 1) := by decide +kernel
theorem dX8_room_142 : decode cX8_room 142 = .ok (.ireturn, 1) := by decide +kernel
theorem dX8_room_143 : decode cX8_room 143 = .ok (.new 154, 3) := by decide +kernel
theorem dX8_room_146 : decode cX8_room 146 = .ok (.dup, 1) := by decide +kernel
theorem dX8_room_147 : decode cX8_room 147 = .ok (.ldc 207, 2) := by decide +kernel
theorem dX8_room_149 : decode cX8_room 149 = .ok (.invokespecial 158, 3) := by decide +kernel
theorem dX8_room_152 : decode cX8_room 152 = .ok (.athrow, 1) := by decide +kernel
set_option maxRecDepth 20000 in
theorem ggX8_guard_X8_needGuard : GoodIn wsX8_guard wsX8_needGuard := goodIn_ca (goodIn_r _ [12, 1, 2, 3, 13, 14, 15, 16, 17, 18, 34, 35, 36, 37, 38, 39, 40, 41, 42, 43, 44, 45, 46, 47, 48, 49, 50, 51, 52, 53, 54, 55, 56, 57, 58, 59, 60, 61, 62, 63, 64, 65, 66] (by decide +kernel) (by decide +kernel)) (goodIn_sub (fun _ h => List.mem_cons_of_mem _ (List.mem_append_right _ h)) (by decide +kernel))
set_option maxRecDepth 20000 in
theorem gX8_guard_X8_needGuard : GoodIn wsX8_guard (wsV RX8 209 RX8 yX8_needGuard wsX8_needGuard) := goodIn_app (goodIn_of _ (by decide +kernel)) ggX8_guard_X8_needGuard
set_option maxRecDepth 20000 in
theorem ggX8_guard_X2_roomAt : GoodIn wsX8_guard wsX2_roomAt := goodIn_r _ [22, 23, 24, 25, 26, 14, 15, 16, 17, 18, 48, 49, 50, 51, 52, 53, 54, 55, 56, 57, 58, 59, 60, 61, 62, 63, 64, 65, 66] (by decide +kernel) (by decide +kernel)
set_option maxRecDepth 20000 in
theorem gX8_guard_X2_roomAt : GoodIn wsX8_guard (wsV RX8 218 RX2 yX2_roomAt wsX2_roomAt) := goodIn_app (goodIn_of _ (by decide +kernel)) ggX8_guard_X2_roomAt
set_option maxRecDepth 20000 in
theorem ggX8_guard_J6_bitCount_0f7a4 : GoodIn wsX8_guard wsJ6_bitCount_0f7a4 := goodIn_r _ [30, 31, 32, 33] (by decide +kernel) (by decide +kernel)
set_option maxRecDepth 20000 in
theorem gX8_guard_J6_bitCount_0f7a4 : GoodIn wsX8_guard (va_wsS RX8 225 yJ6_bitCount_0f7a4 wsJ6_bitCount_0f7a4) := goodIn_app (goodIn_of _ (by decide +kernel)) ggX8_guard_J6_bitCount_0f7a4
theorem dX8_guard_0 : decode cX8_guard 0 = .ok (.aload_n 0, 1) := by decide +kernel
theorem dX8_guard_1 : decode cX8_guard 1 = .ok (.iload_n 1, 1) := by decide +kernel
theorem dX8_guard_2 : decode cX8_guard 2 = .ok (.invokevirtual 209, 3) := by decide +kernel
theorem dX8_guard_5 : decode cX8_guard 5 = .ok (.iload_n 2, 1) := by decide +kernel
theorem dX8_guard_6 : decode cX8_guard 6 = .ok (.tableswitch 79 0 3 #[30, 40, 50, 66], 30) := by decide +kernel
theorem dX8_guard_36 : decode cX8_guard 36 = .ok (.aload_n 0, 1) := by decide +kernel
theorem dX8_guard_37 : decode cX8_guard 37 = .ok (.getfield 10, 3) := by decide +kernel
theorem dX8_guard_40 : decode cX8_guard 40 = .ok (.getfield 212, 3) := by decide +kernel
theorem dX8_guard_43 : decode cX8_guard 43 = .ok (.iload_n 1, 1) := by decide +kernel
theorem dX8_guard_44 : decode cX8_guard 44 = .ok (.iaload, 1) := by decide +kernel
theorem dX8_guard_45 : decode cX8_guard 45 = .ok (.ireturn, 1) := by decide +kernel
theorem dX8_guard_46 : decode cX8_guard 46 = .ok (.aload_n 0, 1) := by decide +kernel
theorem dX8_guard_47 : decode cX8_guard 47 = .ok (.getfield 10, 3) := by decide +kernel
theorem dX8_guard_50 : decode cX8_guard 50 = .ok (.getfield 215, 3) := by decide +kernel
theorem dX8_guard_53 : decode cX8_guard 53 = .ok (.iload_n 1, 1) := by decide +kernel
theorem dX8_guard_54 : decode cX8_guard 54 = .ok (.iaload, 1) := by decide +kernel
theorem dX8_guard_55 : decode cX8_guard 55 = .ok (.ireturn, 1) := by decide +kernel
theorem dX8_guard_56 : decode cX8_guard 56 = .ok (.aload_n 0, 1) := by decide +kernel
theorem dX8_guard_57 : decode cX8_guard 57 = .ok (.getfield 10, 3) := by decide +kernel
theorem dX8_guard_60 : decode cX8_guard 60 = .ok (.iload_n 1, 1) := by decide +kernel
theorem dX8_guard_61 : decode cX8_guard 61 = .ok (.aload_n 0, 1) := by decide +kernel
theorem dX8_guard_62 : decode cX8_guard 62 = .ok (.getfield 10, 3) := by decide +kernel
theorem dX8_guard_65 : decode cX8_guard 65 = .ok (.getfield 132, 3) := by decide +kernel
theorem dX8_guard_68 : decode cX8_guard 68 = .ok (.invokevirtual 218, 3) := by decide +kernel
theorem dX8_guard_71 : decode cX8_guard 71 = .ok (.ireturn, 1) := by decide +kernel
theorem dX8_guard_72 : decode cX8_guard 72 = .ok (.aload_n 0, 1) := by decide +kernel
theorem dX8_guard_73 : decode cX8_guard 73 = .ok (.getfield 10, 3) := by decide +kernel
theorem dX8_guard_76 : decode cX8_guard 76 = .ok (.getfield 222, 3) := by decide +kernel
theorem dX8_guard_79 : decode cX8_guard 79 = .ok (.iload_n 1, 1) := by decide +kernel
theorem dX8_guard_80 : decode cX8_guard 80 = .ok (.iaload, 1) := by decide +kernel
theorem dX8_guard_81 : decode cX8_guard 81 = .ok (.invokestatic 225, 3) := by decide +kernel
theorem dX8_guard_84 : decode cX8_guard 84 = .ok (.ireturn, 1) := by decide +kernel
theorem dX8_guard_85 : decode cX8_guard 85 = .ok (.new 154, 3) := by decide +kernel
theorem dX8_guard_88 : decode cX8_guard 88 = .ok (.dup, 1) := by decide +kernel
theorem dX8_guard_89 : decode cX8_guard 89 = .ok (.ldc 230, 2) := by decide +kernel
theorem dX8_guard_91 : decode cX8_guard 91 = .ok (.invokespecial 158, 3) := by decide +kernel
theorem dX8_guard_94 : decode cX8_guard 94 = .ok (.athrow, 1) := by decide +kernel
set_option maxRecDepth 20000 in
theorem ggX8_walk_X8_needGuard : GoodIn wsX8_walk wsX8_needGuard := goodIn_ca (goodIn_r _ [6, 7, 8, 1, 9, 10, 11, 12, 13, 14, 22, 23, 24, 25, 26, 27, 28, 29, 30, 31, 32, 33, 34, 35, 36, 37, 38, 39, 40, 41, 42, 43, 44, 45, 46, 47, 48, 49, 50, 51, 52, 53, 54] (by decide +kernel) (by decide +kernel)) (goodIn_sub (fun _ h => List.mem_cons_of_mem _ (List.mem_append_right _ h)) (by decide +kernel))
set_option maxRecDepth 20000 in
theorem gX8_walk_X8_needGuard : GoodIn wsX8_walk (wsV RX8 209 RX8 yX8_needGuard wsX8_needGuard) := goodIn_app (goodIn_of _ (by decide +kernel)) ggX8_walk_X8_needGuard
set_option maxRecDepth 20000 in
theorem ggX8_walk_X2_walkRoom : GoodIn wsX8_walk wsX2_walkRoom := goodIn_r _ [18, 19, 20, 21, 10, 11, 12, 13, 14, 36, 37, 38, 39, 40, 41, 42, 43, 44, 45, 46, 47, 48, 49, 50, 51, 52, 53, 54] (by decide +kernel) (by decide +kernel)
set_option maxRecDepth 20000 in
theorem gX8_walk_X2_walkRoom : GoodIn wsX8_walk (wsV RX8 232 RX2 yX2_walkRoom wsX2_walkRoom) := goodIn_app (goodIn_of _ (by decide +kernel)) ggX8_walk_X2_walkRoom
theorem dX8_walk_0 : decode cX8_walk 0 = .ok (.aload_n 0, 1) := by decide +kernel
theorem dX8_walk_1 : decode cX8_walk 1 = .ok (.iload_n 1, 1) := by decide +kernel
theorem dX8_walk_2 : decode cX8_walk 2 = .ok (.invokevirtual 209, 3) := by decide +kernel
theorem dX8_walk_5 : decode cX8_walk 5 = .ok (.aload_n 0, 1) := by decide +kernel
theorem dX8_walk_6 : decode cX8_walk 6 = .ok (.getfield 10, 3) := by decide +kernel
theorem dX8_walk_9 : decode cX8_walk 9 = .ok (.iload_n 1, 1) := by decide +kernel
theorem dX8_walk_10 : decode cX8_walk 10 = .ok (.iload_n 2, 1) := by decide +kernel
theorem dX8_walk_11 : decode cX8_walk 11 = .ok (.invokevirtual 232, 3) := by decide +kernel
theorem dX8_walk_14 : decode cX8_walk 14 = .ok (.ireturn, 1) := by decide +kernel
set_option maxRecDepth 20000 in
theorem ggX8_roomOf_X8_needGuard : GoodIn wsX8_roomOf wsX8_needGuard := goodIn_ca (goodIn_r _ [6, 7, 8, 1, 9, 10, 11, 12, 13, 14, 28, 29, 30, 31, 32, 33, 34, 35, 36, 37, 38, 39, 40, 41, 42, 43, 44, 45, 46, 47, 48, 49, 50, 51, 52, 53, 54, 55, 56, 57, 58, 59, 60] (by decide +kernel) (by decide +kernel)) (goodIn_sub (fun _ h => List.mem_cons_of_mem _ (List.mem_append_left _ (List.mem_append_right _ h))) (by decide +kernel))
set_option maxRecDepth 20000 in
theorem gX8_roomOf_X8_needGuard : GoodIn wsX8_roomOf (wsV RX8 209 RX8 yX8_needGuard wsX8_needGuard) := goodIn_app (goodIn_of _ (by decide +kernel)) ggX8_roomOf_X8_needGuard
set_option maxRecDepth 20000 in
theorem ggX8_roomOf_X8_needNotNegative : GoodIn wsX8_roomOf wsX8_needNotNegative := goodIn_ca (goodIn_r _ [17, 18, 19] (by decide +kernel) (by decide +kernel)) (goodIn_sub (fun _ h => List.mem_cons_of_mem _ (List.mem_append_right _ h)) (by decide +kernel))
set_option maxRecDepth 20000 in
theorem gX8_roomOf_X8_needNotNegative : GoodIn wsX8_roomOf (va_wsS RX8 235 yX8_needNotNegative wsX8_needNotNegative) := goodIn_app (goodIn_of _ (by decide +kernel)) ggX8_roomOf_X8_needNotNegative
set_option maxRecDepth 20000 in
theorem ggX8_roomOf_X2_roomAt : GoodIn wsX8_roomOf wsX2_roomAt := goodIn_r _ [23, 24, 25, 26, 27, 10, 11, 12, 13, 14, 42, 43, 44, 45, 46, 47, 48, 49, 50, 51, 52, 53, 54, 55, 56, 57, 58, 59, 60] (by decide +kernel) (by decide +kernel)
set_option maxRecDepth 20000 in
theorem gX8_roomOf_X2_roomAt : GoodIn wsX8_roomOf (wsV RX8 218 RX2 yX2_roomAt wsX2_roomAt) := goodIn_app (goodIn_of _ (by decide +kernel)) ggX8_roomOf_X2_roomAt
theorem dX8_roomOf_0 : decode cX8_roomOf 0 = .ok (.aload_n 0, 1) := by decide +kernel
theorem dX8_roomOf_1 : decode cX8_roomOf 1 = .ok (.iload_n 1, 1) := by decide +kernel
theorem dX8_roomOf_2 : decode cX8_roomOf 2 = .ok (.invokevirtual 209, 3) := by decide +kernel
theorem dX8_roomOf_5 : decode cX8_roomOf 5 = .ok (.iload_n 2, 1) := by decide +kernel
theorem dX8_roomOf_6 : decode cX8_roomOf 6 = .ok (.invokestatic 235, 3) := by decide +kernel
theorem dX8_roomOf_9 : decode cX8_roomOf 9 = .ok (.aload_n 0, 1) := by decide +kernel
theorem dX8_roomOf_10 : decode cX8_roomOf 10 = .ok (.getfield 10, 3) := by decide +kernel
theorem dX8_roomOf_13 : decode cX8_roomOf 13 = .ok (.iload_n 1, 1) := by decide +kernel
theorem dX8_roomOf_14 : decode cX8_roomOf 14 = .ok (.iload_n 2, 1) := by decide +kernel
theorem dX8_roomOf_15 : decode cX8_roomOf 15 = .ok (.invokevirtual 218, 3) := by decide +kernel
theorem dX8_roomOf_18 : decode cX8_roomOf 18 = .ok (.ireturn, 1) := by decide +kernel
set_option maxRecDepth 20000 in
theorem ggX8_guardsIn_X8_needRoom : GoodIn wsX8_guardsIn wsX8_needRoom := goodIn_ca (goodIn_r _ [6, 7, 8, 1, 9, 10, 11, 12, 13, 14, 36, 37, 38, 39, 40, 41, 42, 43, 44, 45, 46, 47, 48, 49, 50, 51, 52, 53, 54, 55, 56, 57, 58, 59, 60, 61, 62, 63, 64, 65, 66, 67, 68] (by decide +kernel) (by decide +kernel)) (goodIn_sub (fun _ h => List.mem_cons_of_mem _ (List.mem_append_left _ (List.mem_append_right _ h))) (by decide +kernel))
set_option maxRecDepth 20000 in
theorem gX8_guardsIn_X8_needRoom : GoodIn wsX8_guardsIn (wsV RX8 180 RX8 yX8_needRoom wsX8_needRoom) := goodIn_app (goodIn_of _ (by decide +kernel)) ggX8_guardsIn_X8_needRoom
set_option maxRecDepth 20000 in
theorem ggX8_guardsIn_X8_needNotNegative : GoodIn wsX8_guardsIn wsX8_needNotNegative := goodIn_ca (goodIn_r _ [17, 18, 19] (by decide +kernel) (by decide +kernel)) (goodIn_sub (fun _ h => List.mem_cons_of_mem _ (List.mem_append_right _ h)) (by decide +kernel))
set_option maxRecDepth 20000 in
theorem gX8_guardsIn_X8_needNotNegative : GoodIn wsX8_guardsIn (va_wsS RX8 235 yX8_needNotNegative wsX8_needNotNegative) := goodIn_app (goodIn_of _ (by decide +kernel)) ggX8_guardsIn_X8_needNotNegative
set_option maxRecDepth 20000 in
theorem ggX8_guardsIn_X2_guardsAt : GoodIn wsX8_guardsIn wsX2_guardsAt := goodIn_r _ [23, 24, 25, 26, 27, 12, 28, 29, 30, 31, 32, 33, 34, 35, 50, 51, 52, 53, 54, 55, 56, 57, 58, 59, 60, 61, 62, 63, 64, 65, 66, 67, 68] (by decide +kernel) (by decide +kernel)
set_option maxRecDepth 20000 in
theorem gX8_guardsIn_X2_guardsAt : GoodIn wsX8_guardsIn (wsV RX8 238 RX2 yX2_guardsAt wsX2_guardsAt) := goodIn_app (goodIn_of _ (by decide +kernel)) ggX8_guardsIn_X2_guardsAt
theorem dX8_guardsIn_0 : decode cX8_guardsIn 0 = .ok (.aload_n 0, 1) := by decide +kernel
theorem dX8_guardsIn_1 : decode cX8_guardsIn 1 = .ok (.iload_n 1, 1) := by decide +kernel
theorem dX8_guardsIn_2 : decode cX8_guardsIn 2 = .ok (.invokevirtual 180, 3) := by decide +kernel
theorem dX8_guardsIn_5 : decode cX8_guardsIn 5 = .ok (.iload_n 2, 1) := by decide +kernel
theorem dX8_guardsIn_6 : decode cX8_guardsIn 6 = .ok (.invokestatic 235, 3) := by decide +kernel
theorem dX8_guardsIn_9 : decode cX8_guardsIn 9 = .ok (.aload_n 0, 1) := by decide +kernel
theorem dX8_guardsIn_10 : decode cX8_guardsIn 10 = .ok (.getfield 10, 3) := by decide +kernel
theorem dX8_guardsIn_13 : decode cX8_guardsIn 13 = .ok (.iload_n 1, 1) := by decide +kernel
theorem dX8_guardsIn_14 : decode cX8_guardsIn 14 = .ok (.iload_n 2, 1) := by decide +kernel
theorem dX8_guardsIn_15 : decode cX8_guardsIn 15 = .ok (.invokevirtual 238, 3) := by decide +kernel
theorem dX8_guardsIn_18 : decode cX8_guardsIn 18 = .ok (.ireturn, 1) := by decide +kernel
set_option maxRecDepth 20000 in
theorem ggX8_nextSeen_X8_needRoom : GoodIn wsX8_nextSeen wsX8_needRoom := goodIn_ca (goodIn_r _ [7, 8, 9, 2, 10, 11, 12, 13, 14, 15, 43, 44, 45, 46, 47, 48, 49, 50, 51, 52, 53, 54, 55, 56, 57, 58, 59, 60, 61, 62, 63, 64, 65, 66, 67, 68, 69, 70, 71, 72, 73, 74, 75] (by decide +kernel) (by decide +kernel)) (goodIn_sub (fun _ h => List.mem_cons_of_mem _ (List.mem_append_left _ (List.mem_append_right _ h))) (by decide +kernel))
set_option maxRecDepth 20000 in
theorem gX8_nextSeen_X8_needRoom : GoodIn wsX8_nextSeen (wsV RX8 180 RX8 yX8_needRoom wsX8_needRoom) := goodIn_app (goodIn_of _ (by decide +kernel)) ggX8_nextSeen_X8_needRoom
set_option maxRecDepth 20000 in
theorem ggX8_nextSeen_X8_needRange : GoodIn wsX8_nextSeen wsX8_needRange := goodIn_ca (goodIn_r _ [18, 19, 20] (by decide +kernel) (by decide +kernel)) (goodIn_sub (fun _ h => List.mem_cons_of_mem _ (List.mem_append_right _ h)) (by decide +kernel))
set_option maxRecDepth 20000 in
theorem gX8_nextSeen_X8_needRange : GoodIn wsX8_nextSeen (va_wsS RX8 97 yX8_needRange wsX8_needRange) := goodIn_app (goodIn_of _ (by decide +kernel)) ggX8_nextSeen_X8_needRange
set_option maxRecDepth 20000 in
theorem ggX8_nextSeen_X2_cycleLength : GoodIn wsX8_nextSeen wsX2_cycleLength := goodIn_r _ [24, 25, 26, 27, 6, 28, 57, 58, 59, 60, 61, 62, 63, 64, 65, 66, 67, 68, 69, 70, 71, 72, 73, 74, 75] (by decide +kernel) (by decide +kernel)
set_option maxRecDepth 20000 in
theorem gX8_nextSeen_X2_cycleLength : GoodIn wsX8_nextSeen (wsV RX8 128 RX2 yX2_cycleLength wsX2_cycleLength) := goodIn_app (goodIn_of _ (by decide +kernel)) ggX8_nextSeen_X2_cycleLength
set_option maxRecDepth 20000 in
theorem ggX8_nextSeen_X2_guardsAt : GoodIn wsX8_nextSeen wsX2_guardsAt := goodIn_r _ [32, 25, 33, 34, 35, 13, 36, 26, 37, 38, 39, 40, 41, 42, 57, 58, 59, 60, 61, 62, 63, 64, 65, 66, 67, 68, 69, 70, 71, 72, 73, 74, 75] (by decide +kernel) (by decide +kernel)
set_option maxRecDepth 20000 in
theorem gX8_nextSeen_X2_guardsAt : GoodIn wsX8_nextSeen (wsV RX8 238 RX2 yX2_guardsAt wsX2_guardsAt) := goodIn_app (goodIn_of _ (by decide +kernel)) ggX8_nextSeen_X2_guardsAt
theorem dX8_nextSeen_0 : decode cX8_nextSeen 0 = .ok (.aload_n 0, 1) := by decide +kernel
theorem dX8_nextSeen_1 : decode cX8_nextSeen 1 = .ok (.iload_n 1, 1) := by decide +kernel
theorem dX8_nextSeen_2 : decode cX8_nextSeen 2 = .ok (.invokevirtual 180, 3) := by decide +kernel
theorem dX8_nextSeen_5 : decode cX8_nextSeen 5 = .ok (.iload_n 2, 1) := by decide +kernel
theorem dX8_nextSeen_6 : decode cX8_nextSeen 6 = .ok (.iconst 0, 1) := by decide +kernel
theorem dX8_nextSeen_7 : decode cX8_nextSeen 7 = .ok (.ldc 241, 2) := by decide +kernel
theorem dX8_nextSeen_9 : decode cX8_nextSeen 9 = .ok (.invokestatic 97, 3) := by decide +kernel
theorem dX8_nextSeen_12 : decode cX8_nextSeen 12 = .ok (.aload_n 0, 1) := by decide +kernel
theorem dX8_nextSeen_13 : decode cX8_nextSeen 13 = .ok (.getfield 10, 3) := by decide +kernel
theorem dX8_nextSeen_16 : decode cX8_nextSeen 16 = .ok (.invokevirtual 128, 3) := by decide +kernel
theorem dX8_nextSeen_19 : decode cX8_nextSeen 19 = .ok (.istore_n 3, 1) := by decide +kernel
theorem dX8_nextSeen_20 : decode cX8_nextSeen 20 = .ok (.iconst 0, 1) := by decide +kernel
theorem dX8_nextSeen_21 : decode cX8_nextSeen 21 = .ok (.istore 4, 2) := by decide +kernel
theorem dX8_nextSeen_23 : decode cX8_nextSeen 23 = .ok (.iload 4, 2) := by decide +kernel
theorem dX8_nextSeen_25 : decode cX8_nextSeen 25 = .ok (.iload_n 3, 1) := by decide +kernel
theorem dX8_nextSeen_26 : decode cX8_nextSeen 26 = .ok (.if_icmp .ge 29, 3) := by decide +kernel
theorem dX8_nextSeen_29 : decode cX8_nextSeen 29 = .ok (.aload_n 0, 1) := by decide +kernel
theorem dX8_nextSeen_30 : decode cX8_nextSeen 30 = .ok (.getfield 10, 3) := by decide +kernel
theorem dX8_nextSeen_33 : decode cX8_nextSeen 33 = .ok (.iload_n 1, 1) := by decide +kernel
theorem dX8_nextSeen_34 : decode cX8_nextSeen 34 = .ok (.iload_n 2, 1) := by decide +kernel
theorem dX8_nextSeen_35 : decode cX8_nextSeen 35 = .ok (.iload 4, 2) := by decide +kernel
theorem dX8_nextSeen_37 : decode cX8_nextSeen 37 = .ok (.iadd, 1) := by decide +kernel
theorem dX8_nextSeen_38 : decode cX8_nextSeen 38 = .ok (.invokevirtual 238, 3) := by decide +kernel
theorem dX8_nextSeen_41 : decode cX8_nextSeen 41 = .ok (.ifCond .eq 8, 3) := by decide +kernel
theorem dX8_nextSeen_44 : decode cX8_nextSeen 44 = .ok (.iload_n 2, 1) := by decide +kernel
theorem dX8_nextSeen_45 : decode cX8_nextSeen 45 = .ok (.iload 4, 2) := by decide +kernel
theorem dX8_nextSeen_47 : decode cX8_nextSeen 47 = .ok (.iadd, 1) := by decide +kernel
theorem dX8_nextSeen_48 : decode cX8_nextSeen 48 = .ok (.ireturn, 1) := by decide +kernel
theorem dX8_nextSeen_49 : decode cX8_nextSeen 49 = .ok (.iinc 4 1, 3) := by decide +kernel
theorem dX8_nextSeen_52 : decode cX8_nextSeen 52 = .ok (.goto (-29), 3) := by decide +kernel
theorem dX8_nextSeen_55 : decode cX8_nextSeen 55 = .ok (.iconst (-1), 1) := by decide +kernel
theorem dX8_nextSeen_56 : decode cX8_nextSeen 56 = .ok (.ireturn, 1) := by decide +kernel
set_option maxRecDepth 20000 in
theorem ggX8_gapFrom_X8_needRoom : GoodIn wsX8_gapFrom wsX8_needRoom := goodIn_ca (goodIn_r _ [6, 7, 8, 9, 10, 11, 12, 13, 14, 15, 90, 91, 92, 93, 94, 95, 96, 97, 98, 99, 100, 101, 102, 103, 104, 105, 106, 107, 108, 109, 110, 111, 112, 113, 114, 115, 116, 117, 118, 119, 120, 121, 122] (by decide +kernel) (by decide +kernel)) (goodIn_sub (fun _ h => List.mem_cons_of_mem _ (List.mem_append_right _ h)) (by decide +kernel))
set_option maxRecDepth 20000 in
theorem gX8_gapFrom_X8_needRoom : GoodIn wsX8_gapFrom (wsV RX8 180 RX8 yX8_needRoom wsX8_needRoom) := goodIn_app (goodIn_of _ (by decide +kernel)) ggX8_gapFrom_X8_needRoom
set_option maxRecDepth 20000 in
theorem ggX8_gapFrom_X8_measured : GoodIn wsX8_gapFrom wsX8_measured := goodIn_r _ [19, 20, 21, 9, 22, 23, 24, 25, 26, 27, 28, 29, 30, 31, 32, 33, 34, 35, 36, 37, 38, 39, 40, 41, 42, 43, 44, 45, 46, 47, 48, 49, 50, 51, 52, 53, 13, 54, 55, 56, 57, 5, 58, 59, 60, 61, 62, 63, 64, 65, 66, 67, 68, 69, 70, 71, 72, 73, 74, 75, 76, 77, 78, 79, 80, 81, 90, 91, 92, 93, 94, 95, 96, 97, 98, 99, 100, 101, 102, 103, 82, 83, 84, 85, 86, 87, 88, 89, 104, 105, 106, 107, 108, 109, 110, 111, 112, 113, 114, 115, 116, 117, 118, 119, 120, 121, 122] (by decide +kernel) (by decide +kernel)
set_option maxRecDepth 20000 in
theorem gX8_gapFrom_X8_measured : GoodIn wsX8_gapFrom (wsV RX8 135 RX8 yX8_measured wsX8_measured) := goodIn_app (goodIn_of _ (by decide +kernel)) ggX8_gapFrom_X8_measured
theorem dX8_gapFrom_0 : decode cX8_gapFrom 0 = .ok (.aload_n 0, 1) := by decide +kernel
theorem dX8_gapFrom_1 : decode cX8_gapFrom 1 = .ok (.iload_n 1, 1) := by decide +kernel
theorem dX8_gapFrom_2 : decode cX8_gapFrom 2 = .ok (.invokevirtual 180, 3) := by decide +kernel
theorem dX8_gapFrom_5 : decode cX8_gapFrom 5 = .ok (.aload_n 0, 1) := by decide +kernel
theorem dX8_gapFrom_6 : decode cX8_gapFrom 6 = .ok (.invokevirtual 135, 3) := by decide +kernel
theorem dX8_gapFrom_9 : decode cX8_gapFrom 9 = .ok (.getfield 242, 3) := by decide +kernel
theorem dX8_gapFrom_12 : decode cX8_gapFrom 12 = .ok (.iload_n 1, 1) := by decide +kernel
theorem dX8_gapFrom_13 : decode cX8_gapFrom 13 = .ok (.iaload, 1) := by decide +kernel
theorem dX8_gapFrom_14 : decode cX8_gapFrom 14 = .ok (.ireturn, 1) := by decide +kernel
set_option maxRecDepth 20000 in
theorem ggX8_isJoined_X8_needRoom : GoodIn wsX8_isJoined wsX8_needRoom := goodIn_ca (goodIn_r _ [6, 7, 8, 1, 9, 10, 11, 12, 13, 14, 23, 24, 25, 26, 27, 28, 29, 30, 31, 32, 33, 34, 35, 36, 37, 38, 39, 40, 41, 42, 43, 44, 45, 46, 47, 48, 49, 50, 51, 52, 53, 54, 55] (by decide +kernel) (by decide +kernel)) (goodIn_sub (fun _ h => List.mem_cons_of_mem _ (List.mem_append_right _ h)) (by decide +kernel))
set_option maxRecDepth 20000 in
theorem gX8_isJoined_X8_needRoom : GoodIn wsX8_isJoined (wsV RX8 180 RX8 yX8_needRoom wsX8_needRoom) := goodIn_app (goodIn_of _ (by decide +kernel)) ggX8_isJoined_X8_needRoom
set_option maxRecDepth 20000 in
theorem ggX8_isJoined_X2_areJoined : GoodIn wsX8_isJoined wsX2_areJoined := goodIn_r _ [18, 19, 20, 10, 11, 12, 13, 14, 21, 5, 22, 37, 38, 39, 40, 41, 42, 43, 44, 45, 46, 47, 48, 49, 50, 51, 52, 53, 54, 55] (by decide +kernel) (by decide +kernel)
set_option maxRecDepth 20000 in
theorem gX8_isJoined_X2_areJoined : GoodIn wsX8_isJoined (wsV RX8 245 RX2 yX2_areJoined wsX2_areJoined) := goodIn_app (goodIn_of _ (by decide +kernel)) ggX8_isJoined_X2_areJoined
theorem dX8_isJoined_0 : decode cX8_isJoined 0 = .ok (.aload_n 0, 1) := by decide +kernel
theorem dX8_isJoined_1 : decode cX8_isJoined 1 = .ok (.iload_n 1, 1) := by decide +kernel
theorem dX8_isJoined_2 : decode cX8_isJoined 2 = .ok (.invokevirtual 180, 3) := by decide +kernel
theorem dX8_isJoined_5 : decode cX8_isJoined 5 = .ok (.aload_n 0, 1) := by decide +kernel
theorem dX8_isJoined_6 : decode cX8_isJoined 6 = .ok (.iload_n 2, 1) := by decide +kernel
theorem dX8_isJoined_7 : decode cX8_isJoined 7 = .ok (.invokevirtual 180, 3) := by decide +kernel
theorem dX8_isJoined_10 : decode cX8_isJoined 10 = .ok (.aload_n 0, 1) := by decide +kernel
theorem dX8_isJoined_11 : decode cX8_isJoined 11 = .ok (.getfield 10, 3) := by decide +kernel
theorem dX8_isJoined_14 : decode cX8_isJoined 14 = .ok (.iload_n 1, 1) := by decide +kernel
theorem dX8_isJoined_15 : decode cX8_isJoined 15 = .ok (.iload_n 2, 1) := by decide +kernel
theorem dX8_isJoined_16 : decode cX8_isJoined 16 = .ok (.invokevirtual 245, 3) := by decide +kernel
theorem dX8_isJoined_19 : decode cX8_isJoined 19 = .ok (.ireturn, 1) := by decide +kernel
set_option maxRecDepth 20000 in
theorem ggX8_distance_X8_needRoom : GoodIn wsX8_distance wsX8_needRoom := goodIn_ca (goodIn_r _ [6, 7, 8, 1, 9, 10, 11, 12, 13, 14, 22, 23, 24, 25, 26, 27, 28, 29, 30, 31, 32, 33, 34, 35, 36, 37, 38, 39, 40, 41, 42, 43, 44, 45, 46, 47, 48, 49, 50, 51, 52, 53, 54] (by decide +kernel) (by decide +kernel)) (goodIn_sub (fun _ h => List.mem_cons_of_mem _ (List.mem_append_right _ h)) (by decide +kernel))
set_option maxRecDepth 20000 in
theorem gX8_distance_X8_needRoom : GoodIn wsX8_distance (wsV RX8 180 RX8 yX8_needRoom wsX8_needRoom) := goodIn_app (goodIn_of _ (by decide +kernel)) ggX8_distance_X8_needRoom
set_option maxRecDepth 20000 in
theorem ggX8_distance_X2_doorsBetween : GoodIn wsX8_distance wsX2_doorsBetween := goodIn_r _ [18, 14, 19, 20, 5, 21, 36, 37, 38, 39, 40, 41, 42, 43, 44, 45, 46, 47, 48, 49, 50, 51, 52, 53, 54] (by decide +kernel) (by decide +kernel)
set_option maxRecDepth 20000 in
theorem gX8_distance_X2_doorsBetween : GoodIn wsX8_distance (wsV RX8 249 RX2 yX2_doorsBetween wsX2_doorsBetween) := goodIn_app (goodIn_of _ (by decide +kernel)) ggX8_distance_X2_doorsBetween
theorem dX8_distance_0 : decode cX8_distance 0 = .ok (.aload_n 0, 1) := by decide +kernel
theorem dX8_distance_1 : decode cX8_distance 1 = .ok (.iload_n 1, 1) := by decide +kernel
theorem dX8_distance_2 : decode cX8_distance 2 = .ok (.invokevirtual 180, 3) := by decide +kernel
theorem dX8_distance_5 : decode cX8_distance 5 = .ok (.aload_n 0, 1) := by decide +kernel
theorem dX8_distance_6 : decode cX8_distance 6 = .ok (.iload_n 2, 1) := by decide +kernel
theorem dX8_distance_7 : decode cX8_distance 7 = .ok (.invokevirtual 180, 3) := by decide +kernel
theorem dX8_distance_10 : decode cX8_distance 10 = .ok (.aload_n 0, 1) := by decide +kernel
theorem dX8_distance_11 : decode cX8_distance 11 = .ok (.getfield 10, 3) := by decide +kernel
theorem dX8_distance_14 : decode cX8_distance 14 = .ok (.iload_n 1, 1) := by decide +kernel
theorem dX8_distance_15 : decode cX8_distance 15 = .ok (.iload_n 2, 1) := by decide +kernel
theorem dX8_distance_16 : decode cX8_distance 16 = .ok (.invokevirtual 249, 3) := by decide +kernel
theorem dX8_distance_19 : decode cX8_distance 19 = .ok (.ireturn, 1) := by decide +kernel
set_option maxRecDepth 20000 in
theorem ggX8_meetings_X8_needGuard : GoodIn wsX8_meetings wsX8_needGuard := goodIn_ca (goodIn_r _ [6, 7, 8, 1, 9, 10, 11, 12, 13, 14, 33, 34, 35, 36, 37, 38, 39, 40, 41, 42, 43, 44, 45, 46, 47, 48, 49, 50, 51, 52, 53, 54, 55, 56, 57, 58, 59, 60, 61, 62, 63, 64, 65] (by decide +kernel) (by decide +kernel)) (goodIn_sub (fun _ h => List.mem_cons_of_mem _ (List.mem_append_right _ h)) (by decide +kernel))
set_option maxRecDepth 20000 in
theorem gX8_meetings_X8_needGuard : GoodIn wsX8_meetings (wsV RX8 209 RX8 yX8_needGuard wsX8_needGuard) := goodIn_app (goodIn_of _ (by decide +kernel)) ggX8_meetings_X8_needGuard
set_option maxRecDepth 20000 in
theorem ggX8_meetings_X2_countPair : GoodIn wsX8_meetings wsX2_countPair := goodIn_r _ [18, 19, 20, 21, 12, 22, 14, 23, 24, 5, 25, 26, 27, 28, 29, 30, 31, 32, 10, 11, 13, 47, 48, 49, 50, 51, 52, 53, 54, 55, 56, 57, 58, 59, 60, 61, 62, 63, 64, 65] (by decide +kernel) (by decide +kernel)
set_option maxRecDepth 20000 in
theorem gX8_meetings_X2_countPair : GoodIn wsX8_meetings (wsV RX8 252 RX2 yX2_countPair wsX2_countPair) := goodIn_app (goodIn_of _ (by decide +kernel)) ggX8_meetings_X2_countPair
theorem dX8_meetings_0 : decode cX8_meetings 0 = .ok (.aload_n 0, 1) := by decide +kernel
theorem dX8_meetings_1 : decode cX8_meetings 1 = .ok (.iload_n 1, 1) := by decide +kernel
theorem dX8_meetings_2 : decode cX8_meetings 2 = .ok (.invokevirtual 209, 3) := by decide +kernel
theorem dX8_meetings_5 : decode cX8_meetings 5 = .ok (.aload_n 0, 1) := by decide +kernel
theorem dX8_meetings_6 : decode cX8_meetings 6 = .ok (.iload_n 2, 1) := by decide +kernel
theorem dX8_meetings_7 : decode cX8_meetings 7 = .ok (.invokevirtual 209, 3) := by decide +kernel
theorem dX8_meetings_10 : decode cX8_meetings 10 = .ok (.aload_n 0, 1) := by decide +kernel
theorem dX8_meetings_11 : decode cX8_meetings 11 = .ok (.getfield 10, 3) := by decide +kernel
theorem dX8_meetings_14 : decode cX8_meetings 14 = .ok (.iload_n 1, 1) := by decide +kernel
theorem dX8_meetings_15 : decode cX8_meetings 15 = .ok (.iload_n 2, 1) := by decide +kernel
theorem dX8_meetings_16 : decode cX8_meetings 16 = .ok (.iconst 1, 1) := by decide +kernel
theorem dX8_meetings_17 : decode cX8_meetings 17 = .ok (.iconst 0, 1) := by decide +kernel
theorem dX8_meetings_18 : decode cX8_meetings 18 = .ok (.invokevirtual 252, 3) := by decide +kernel
theorem dX8_meetings_21 : decode cX8_meetings 21 = .ok (.ireturn, 1) := by decide +kernel
set_option maxRecDepth 20000 in
theorem ggX8_passings_X8_needGuard : GoodIn wsX8_passings wsX8_needGuard := goodIn_ca (goodIn_r _ [6, 7, 8, 1, 9, 10, 11, 12, 13, 14, 33, 34, 35, 36, 37, 38, 39, 40, 41, 42, 43, 44, 45, 46, 47, 48, 49, 50, 51, 52, 53, 54, 55, 56, 57, 58, 59, 60, 61, 62, 63, 64, 65] (by decide +kernel) (by decide +kernel)) (goodIn_sub (fun _ h => List.mem_cons_of_mem _ (List.mem_append_right _ h)) (by decide +kernel))
set_option maxRecDepth 20000 in
theorem gX8_passings_X8_needGuard : GoodIn wsX8_passings (wsV RX8 209 RX8 yX8_needGuard wsX8_needGuard) := goodIn_app (goodIn_of _ (by decide +kernel)) ggX8_passings_X8_needGuard
set_option maxRecDepth 20000 in
theorem ggX8_passings_X2_countPair : GoodIn wsX8_passings wsX2_countPair := goodIn_r _ [18, 19, 20, 21, 12, 22, 14, 23, 24, 5, 25, 26, 27, 28, 29, 30, 31, 32, 10, 11, 13, 47, 48, 49, 50, 51, 52, 53, 54, 55, 56, 57, 58, 59, 60, 61, 62, 63, 64, 65] (by decide +kernel) (by decide +kernel)
set_option maxRecDepth 20000 in
theorem gX8_passings_X2_countPair : GoodIn wsX8_passings (wsV RX8 252 RX2 yX2_countPair wsX2_countPair) := goodIn_app (goodIn_of _ (by decide +kernel)) ggX8_passings_X2_countPair
theorem dX8_passings_0 : decode cX8_passings 0 = .ok (.aload_n 0, 1) := by decide +kernel
theorem dX8_passings_1 : decode cX8_passings 1 = .ok (.iload_n 1, 1) := by decide +kernel
theorem dX8_passings_2 : decode cX8_passings 2 = .ok (.invokevirtual 209, 3) := by decide +kernel
theorem dX8_passings_5 : decode cX8_passings 5 = .ok (.aload_n 0, 1) := by decide +kernel
theorem dX8_passings_6 : decode cX8_passings 6 = .ok (.iload_n 2, 1) := by decide +kernel
theorem dX8_passings_7 : decode cX8_passings 7 = .ok (.invokevirtual 209, 3) := by decide +kernel
theorem dX8_passings_10 : decode cX8_passings 10 = .ok (.aload_n 0, 1) := by decide +kernel
theorem dX8_passings_11 : decode cX8_passings 11 = .ok (.getfield 10, 3) := by decide +kernel
theorem dX8_passings_14 : decode cX8_passings 14 = .ok (.iload_n 1, 1) := by decide +kernel
theorem dX8_passings_15 : decode cX8_passings 15 = .ok (.iload_n 2, 1) := by decide +kernel
theorem dX8_passings_16 : decode cX8_passings 16 = .ok (.iconst 0, 1) := by decide +kernel
theorem dX8_passings_17 : decode cX8_passings 17 = .ok (.iconst 1, 1) := by decide +kernel
theorem dX8_passings_18 : decode cX8_passings 18 = .ok (.invokevirtual 252, 3) := by decide +kernel
theorem dX8_passings_21 : decode cX8_passings 21 = .ok (.ireturn, 1) := by decide +kernel
set_option maxRecDepth 20000 in
theorem ggX8_worstWith_X8_needGuard : GoodIn wsX8_worstWith wsX8_needGuard := goodIn_ca (goodIn_r _ [11, 12, 13, 1, 14, 15, 16, 17, 18, 19, 101, 102, 103, 104, 105, 106, 107, 108, 109, 110, 111, 112, 113, 114, 115, 116, 117, 118, 119, 120, 121, 122, 123, 124, 125, 126, 127, 128, 129, 130, 131, 132, 133] (by decide +kernel) (by decide +kernel)) (goodIn_sub (fun _ h => List.mem_cons_of_mem _ (List.mem_append_left _ (List.mem_append_right _ h))) (by decide +kernel))
set_option maxRecDepth 20000 in
theorem gX8_worstWith_X8_needGuard : GoodIn wsX8_worstWith (wsV RX8 209 RX8 yX8_needGuard wsX8_needGuard) := goodIn_app (goodIn_of _ (by decide +kernel)) ggX8_worstWith_X8_needGuard
set_option maxRecDepth 20000 in
theorem ggX8_worstWith_X8_needRange : GoodIn wsX8_worstWith wsX8_needRange := goodIn_ca (goodIn_r _ [22, 23, 24] (by decide +kernel) (by decide +kernel)) (goodIn_sub (fun _ h => List.mem_cons_of_mem _ (List.mem_append_right _ h)) (by decide +kernel))
set_option maxRecDepth 20000 in
theorem gX8_worstWith_X8_needRange : GoodIn wsX8_worstWith (va_wsS RX8 97 yX8_needRange wsX8_needRange) := goodIn_app (goodIn_of _ (by decide +kernel)) ggX8_worstWith_X8_needRange
set_option maxRecDepth 20000 in
theorem ggX8_worstWith_X2_copyFrom : GoodIn wsX8_worstWith wsX2_copyFrom := goodIn_r _ [28, 29, 30, 19, 31, 32, 33, 34, 35, 36, 37, 38, 39, 40, 41, 42, 43, 44, 45, 46, 47, 48, 49, 50, 115, 116, 117, 118, 119, 120, 121, 122, 123, 124, 125, 126, 127, 128, 129, 130, 131, 132, 133] (by decide +kernel) (by decide +kernel)
set_option maxRecDepth 20000 in
theorem gX8_worstWith_X2_copyFrom : GoodIn wsX8_worstWith (wsV RX8 109 RX2 yX2_copyFrom wsX2_copyFrom) := goodIn_app (goodIn_of _ (by decide +kernel)) ggX8_worstWith_X2_copyFrom
set_option maxRecDepth 20000 in
theorem ggX8_worstWith_X6_measure : GoodIn wsX8_worstWith wsX6_measure := goodIn_r _ [55, 56, 57, 58, 59, 60, 61, 62, 63, 37, 38, 39, 64, 65, 66, 67, 68, 69, 70, 71, 72, 73, 74, 75, 76, 77, 78, 17, 79, 19, 43, 80, 10, 81, 82, 83, 84, 54, 85, 86, 87, 88, 89, 90, 91, 45, 92, 15, 16, 18, 93, 94, 95, 96, 97, 98, 99, 100, 134, 135, 136, 137, 138, 139, 140, 141, 115, 116, 117, 118, 119, 120, 121, 122, 123, 124, 125, 126, 127, 128, 129, 130, 131, 132, 133] (by decide +kernel) (by decide +kernel)
set_option maxRecDepth 20000 in
theorem gX8_worstWith_X6_measure : GoodIn wsX8_worstWith (wsV RX8 256 RX6 yX6_measure wsX6_measure) := goodIn_app (goodIn_of _ (by decide +kernel)) ggX8_worstWith_X6_measure
theorem dX8_worstWith_0 : decode cX8_worstWith 0 = .ok (.aload_n 0, 1) := by decide +kernel
theorem dX8_worstWith_1 : decode cX8_worstWith 1 = .ok (.iload_n 1, 1) := by decide +kernel
theorem dX8_worstWith_2 : decode cX8_worstWith 2 = .ok (.invokevirtual 209, 3) := by decide +kernel
theorem dX8_worstWith_5 : decode cX8_worstWith 5 = .ok (.iload_n 2, 1) := by decide +kernel
theorem dX8_worstWith_6 : decode cX8_worstWith 6 = .ok (.iconst 0, 1) := by decide +kernel
theorem dX8_worstWith_7 : decode cX8_worstWith 7 = .ok (.aload_n 0, 1) := by decide +kernel
theorem dX8_worstWith_8 : decode cX8_worstWith 8 = .ok (.getfield 10, 3) := by decide +kernel
theorem dX8_worstWith_11 : decode cX8_worstWith 11 = .ok (.getfield 212, 3) := by decide +kernel
theorem dX8_worstWith_14 : decode cX8_worstWith 14 = .ok (.iload_n 1, 1) := by decide +kernel
theorem dX8_worstWith_15 : decode cX8_worstWith 15 = .ok (.iaload, 1) := by decide +kernel
theorem dX8_worstWith_16 : decode cX8_worstWith 16 = .ok (.iconst 1, 1) := by decide +kernel
theorem dX8_worstWith_17 : decode cX8_worstWith 17 = .ok (.isub, 1) := by decide +kernel
theorem dX8_worstWith_18 : decode cX8_worstWith 18 = .ok (.invokestatic 97, 3) := by decide +kernel
theorem dX8_worstWith_21 : decode cX8_worstWith 21 = .ok (.aload_n 0, 1) := by decide +kernel
theorem dX8_worstWith_22 : decode cX8_worstWith 22 = .ok (.getfield 16, 3) := by decide +kernel
theorem dX8_worstWith_25 : decode cX8_worstWith 25 = .ok (.aload_n 0, 1) := by decide +kernel
theorem dX8_worstWith_26 : decode cX8_worstWith 26 = .ok (.getfield 10, 3) := by decide +kernel
theorem dX8_worstWith_29 : decode cX8_worstWith 29 = .ok (.invokevirtual 109, 3) := by decide +kernel
theorem dX8_worstWith_32 : decode cX8_worstWith 32 = .ok (.aload_n 0, 1) := by decide +kernel
theorem dX8_worstWith_33 : decode cX8_worstWith 33 = .ok (.getfield 16, 3) := by decide +kernel
theorem dX8_worstWith_36 : decode cX8_worstWith 36 = .ok (.getfield 215, 3) := by decide +kernel
theorem dX8_worstWith_39 : decode cX8_worstWith 39 = .ok (.iload_n 1, 1) := by decide +kernel
theorem dX8_worstWith_40 : decode cX8_worstWith 40 = .ok (.iload_n 2, 1) := by decide +kernel
theorem dX8_worstWith_41 : decode cX8_worstWith 41 = .ok (.iastore, 1) := by decide +kernel
theorem dX8_worstWith_42 : decode cX8_worstWith 42 = .ok (.aload_n 0, 1) := by decide +kernel
theorem dX8_worstWith_43 : decode cX8_worstWith 43 = .ok (.getfield 33, 3) := by decide +kernel
theorem dX8_worstWith_46 : decode cX8_worstWith 46 = .ok (.aload_n 0, 1) := by decide +kernel
theorem dX8_worstWith_47 : decode cX8_worstWith 47 = .ok (.getfield 16, 3) := by decide +kernel
theorem dX8_worstWith_50 : decode cX8_worstWith 50 = .ok (.invokevirtual 256, 3) := by decide +kernel
theorem dX8_worstWith_53 : decode cX8_worstWith 53 = .ok (.aload_n 0, 1) := by decide +kernel
theorem dX8_worstWith_54 : decode cX8_worstWith 54 = .ok (.getfield 33, 3) := by decide +kernel
theorem dX8_worstWith_57 : decode cX8_worstWith 57 = .ok (.getfield 139, 3) := by decide +kernel
theorem dX8_worstWith_60 : decode cX8_worstWith 60 = .ok (.ireturn, 1) := by decide +kernel
set_option maxRecDepth 20000 in
theorem ggX8_bestWorst_X8_best : GoodIn wsX8_bestWorst wsX8_best := goodIn_r _ [6, 7, 8, 9, 10, 11, 12, 13, 14, 15, 16, 17, 18, 19, 20, 21, 22, 23, 24, 25, 26, 27, 28, 29, 30, 31, 32, 33, 34, 35, 36, 37, 38, 39, 40, 41, 42, 43, 44, 45, 46, 47, 48, 49, 50, 51, 52, 53, 54, 55, 5, 56, 57, 58, 59, 60, 61, 62, 63, 64, 65, 66, 67, 68, 69, 70, 71, 72, 73, 74, 75, 76, 77, 78, 79, 80, 81, 82, 83, 84, 85, 86, 87, 88, 89, 90, 91, 92, 93, 94, 95, 96, 97, 98, 99, 100, 101, 102, 103, 104, 105, 106, 107, 108, 109, 110, 111, 112, 113, 114, 115, 116, 117, 118, 119, 120, 121, 122, 123, 124, 125, 126, 127, 128, 129, 130, 131, 132, 133, 134, 135, 136, 137, 145, 146, 147, 148, 149, 150, 151, 152, 153, 154, 155, 156, 157, 158, 138, 139, 140, 141, 142, 143, 144, 159, 160, 161, 162, 163, 164, 165, 166, 167, 168, 169, 170, 171, 172, 173, 174, 175, 176, 177, 178, 179, 180, 181, 182, 183, 184, 185] (by decide +kernel) (by decide +kernel)
set_option maxRecDepth 20000 in
theorem gX8_bestWorst_X8_best : GoodIn wsX8_bestWorst (wsV RX8 259 RX8 yX8_best wsX8_best) := goodIn_app (goodIn_of _ (by decide +kernel)) ggX8_bestWorst_X8_best
theorem dX8_bestWorst_0 : decode cX8_bestWorst 0 = .ok (.aload_n 0, 1) := by decide +kernel
theorem dX8_bestWorst_1 : decode cX8_bestWorst 1 = .ok (.invokevirtual 259, 3) := by decide +kernel
theorem dX8_bestWorst_4 : decode cX8_bestWorst 4 = .ok (.getfield 263, 3) := by decide +kernel
theorem dX8_bestWorst_7 : decode cX8_bestWorst 7 = .ok (.ireturn, 1) := by decide +kernel
set_option maxRecDepth 20000 in
theorem ggX8_bestCrossings_X8_best : GoodIn wsX8_bestCrossings wsX8_best := goodIn_r _ [6, 7, 8, 9, 10, 11, 12, 13, 14, 15, 16, 17, 18, 19, 20, 21, 22, 23, 24, 25, 26, 27, 28, 29, 30, 31, 32, 33, 34, 35, 36, 37, 38, 39, 40, 41, 42, 43, 44, 45, 46, 47, 48, 49, 50, 51, 52, 53, 54, 55, 5, 56, 57, 58, 59, 60, 61, 62, 63, 64, 65, 66, 67, 68, 69, 70, 71, 72, 73, 74, 75, 76, 77, 78, 79, 80, 81, 82, 83, 84, 85, 86, 87, 88, 89, 90, 91, 92, 93, 94, 95, 96, 97, 98, 99, 100, 101, 102, 103, 104, 105, 106, 107, 108, 109, 110, 111, 112, 113, 114, 115, 116, 117, 118, 119, 120, 121, 122, 123, 124, 125, 126, 127, 128, 129, 130, 131, 132, 133, 134, 135, 136, 137, 145, 146, 147, 148, 149, 150, 151, 152, 153, 154, 155, 156, 157, 158, 138, 139, 140, 141, 142, 143, 144, 159, 160, 161, 162, 163, 164, 165, 166, 167, 168, 169, 170, 171, 172, 173, 174, 175, 176, 177, 178, 179, 180, 181, 182, 183, 184, 185] (by decide +kernel) (by decide +kernel)
set_option maxRecDepth 20000 in
theorem gX8_bestCrossings_X8_best : GoodIn wsX8_bestCrossings (wsV RX8 259 RX8 yX8_best wsX8_best) := goodIn_app (goodIn_of _ (by decide +kernel)) ggX8_bestCrossings_X8_best
theorem dX8_bestCrossings_0 : decode cX8_bestCrossings 0 = .ok (.aload_n 0, 1) := by decide +kernel
theorem dX8_bestCrossings_1 : decode cX8_bestCrossings 1 = .ok (.invokevirtual 259, 3) := by decide +kernel
theorem dX8_bestCrossings_4 : decode cX8_bestCrossings 4 = .ok (.getfield 264, 3) := by decide +kernel
theorem dX8_bestCrossings_7 : decode cX8_bestCrossings 7 = .ok (.ireturn, 1) := by decide +kernel
set_option maxRecDepth 20000 in
theorem ggX8_bestPhase_X8_needGuard : GoodIn wsX8_bestPhase wsX8_needGuard := goodIn_ca (goodIn_r _ [6, 7, 8, 9, 10, 11, 12, 13, 14, 15, 152, 153, 154, 155, 156, 157, 158, 159, 160, 161, 162, 163, 164, 165, 166, 167, 168, 169, 170, 171, 172, 173, 174, 175, 176, 177, 178, 179, 180, 181, 182, 183, 184] (by decide +kernel) (by decide +kernel)) (goodIn_sub (fun _ h => List.mem_cons_of_mem _ (List.mem_append_right _ h)) (by decide +kernel))
set_option maxRecDepth 20000 in
theorem gX8_bestPhase_X8_needGuard : GoodIn wsX8_bestPhase (wsV RX8 209 RX8 yX8_needGuard wsX8_needGuard) := goodIn_app (goodIn_of _ (by decide +kernel)) ggX8_bestPhase_X8_needGuard
set_option maxRecDepth 20000 in
theorem ggX8_bestPhase_X8_best : GoodIn wsX8_bestPhase wsX8_best := goodIn_r _ [19, 20, 21, 9, 22, 23, 24, 25, 26, 27, 28, 29, 30, 31, 32, 33, 13, 34, 35, 36, 15, 37, 38, 39, 40, 41, 42, 43, 44, 45, 46, 47, 48, 49, 50, 51, 52, 53, 54, 55, 56, 57, 58, 59, 60, 61, 62, 63, 64, 65, 5, 66, 67, 68, 69, 70, 71, 72, 73, 74, 75, 76, 77, 78, 79, 80, 81, 82, 83, 84, 85, 86, 87, 88, 89, 90, 91, 92, 93, 94, 95, 96, 97, 98, 99, 100, 101, 102, 103, 104, 105, 106, 107, 108, 109, 110, 111, 112, 113, 114, 115, 116, 11, 12, 14, 117, 118, 119, 120, 121, 122, 123, 124, 125, 126, 127, 128, 129, 130, 131, 132, 133, 134, 135, 136, 137, 138, 139, 140, 141, 142, 143, 144, 152, 153, 154, 155, 156, 157, 158, 159, 160, 161, 162, 163, 164, 165, 145, 146, 147, 148, 149, 150, 151, 166, 167, 168, 169, 170, 171, 172, 173, 174, 175, 176, 177, 178, 179, 180, 181, 182, 183, 184, 185, 186, 187, 188, 189, 190, 191, 192] (by decide +kernel) (by decide +kernel)
set_option maxRecDepth 20000 in
theorem gX8_bestPhase_X8_best : GoodIn wsX8_bestPhase (wsV RX8 259 RX8 yX8_best wsX8_best) := goodIn_app (goodIn_of _ (by decide +kernel)) ggX8_bestPhase_X8_best
theorem dX8_bestPhase_0 : decode cX8_bestPhase 0 = .ok (.aload_n 0, 1) := by decide +kernel
theorem dX8_bestPhase_1 : decode cX8_bestPhase 1 = .ok (.iload_n 1, 1) := by decide +kernel
theorem dX8_bestPhase_2 : decode cX8_bestPhase 2 = .ok (.invokevirtual 209, 3) := by decide +kernel
theorem dX8_bestPhase_5 : decode cX8_bestPhase 5 = .ok (.aload_n 0, 1) := by decide +kernel
theorem dX8_bestPhase_6 : decode cX8_bestPhase 6 = .ok (.invokevirtual 259, 3) := by decide +kernel
theorem dX8_bestPhase_9 : decode cX8_bestPhase 9 = .ok (.getfield 267, 3) := by decide +kernel
theorem dX8_bestPhase_12 : decode cX8_bestPhase 12 = .ok (.iload_n 1, 1) := by decide +kernel
theorem dX8_bestPhase_13 : decode cX8_bestPhase 13 = .ok (.iaload, 1) := by decide +kernel
theorem dX8_bestPhase_14 : decode cX8_bestPhase 14 = .ok (.ireturn, 1) := by decide +kernel
set_option maxRecDepth 20000 in
theorem ggX8_arrival_X8_needRoom : GoodIn wsX8_arrival wsX8_needRoom := goodIn_ca (goodIn_r _ [8, 9, 10, 3, 11, 12, 13, 14, 15, 16, 69, 70, 71, 72, 73, 74, 75, 76, 77, 78, 79, 80, 81, 82, 83, 84, 85, 86, 87, 88, 89, 90, 91, 92, 93, 94, 95, 96, 97, 98, 99, 100, 101] (by decide +kernel) (by decide +kernel)) (goodIn_sub (fun _ h => List.mem_cons_of_mem _ (List.mem_append_left _ (List.mem_append_right _ h))) (by decide +kernel))
set_option maxRecDepth 20000 in
theorem gX8_arrival_X8_needRoom : GoodIn wsX8_arrival (wsV RX8 180 RX8 yX8_needRoom wsX8_needRoom) := goodIn_app (goodIn_of _ (by decide +kernel)) ggX8_arrival_X8_needRoom
set_option maxRecDepth 20000 in
theorem ggX8_arrival_X8_needRange : GoodIn wsX8_arrival wsX8_needRange := goodIn_ca (goodIn_r _ [19, 20, 21] (by decide +kernel) (by decide +kernel)) (goodIn_sub (fun _ h => List.mem_cons_of_mem _ (List.mem_append_right _ h)) (by decide +kernel))
set_option maxRecDepth 20000 in
theorem gX8_arrival_X8_needRange : GoodIn wsX8_arrival (va_wsS RX8 97 yX8_needRange wsX8_needRange) := goodIn_app (goodIn_of _ (by decide +kernel)) ggX8_arrival_X8_needRange
set_option maxRecDepth 20000 in
theorem ggX8_arrival_X4_firstArrival : GoodIn wsX8_arrival wsX4_firstArrival := goodIn_r _ [26, 27, 28, 29, 30, 14, 31, 32, 33, 34, 7, 35, 36, 37, 38, 39, 40, 41, 42, 43, 44, 45, 46, 47, 48, 49, 50, 51, 52, 53, 54, 55, 56, 57, 58, 25, 59, 60, 61, 62, 63, 64, 65, 66, 67, 68, 102, 103, 83, 84, 85, 86, 87, 88, 89, 90, 91, 92, 93, 94, 95, 96, 97, 98, 99, 100, 101] (by decide +kernel) (by decide +kernel)
set_option maxRecDepth 20000 in
theorem gX8_arrival_X4_firstArrival : GoodIn wsX8_arrival (wsV RX8 268 RX4 yX4_firstArrival wsX4_firstArrival) := goodIn_app (goodIn_of _ (by decide +kernel)) ggX8_arrival_X4_firstArrival
theorem dX8_arrival_0 : decode cX8_arrival 0 = .ok (.aload_n 0, 1) := by decide +kernel
theorem dX8_arrival_1 : decode cX8_arrival 1 = .ok (.iload_n 1, 1) := by decide +kernel
theorem dX8_arrival_2 : decode cX8_arrival 2 = .ok (.invokevirtual 180, 3) := by decide +kernel
theorem dX8_arrival_5 : decode cX8_arrival 5 = .ok (.aload_n 0, 1) := by decide +kernel
theorem dX8_arrival_6 : decode cX8_arrival 6 = .ok (.iload_n 2, 1) := by decide +kernel
theorem dX8_arrival_7 : decode cX8_arrival 7 = .ok (.invokevirtual 180, 3) := by decide +kernel
theorem dX8_arrival_10 : decode cX8_arrival 10 = .ok (.iload_n 3, 1) := by decide +kernel
theorem dX8_arrival_11 : decode cX8_arrival 11 = .ok (.iconst 0, 1) := by decide +kernel
theorem dX8_arrival_12 : decode cX8_arrival 12 = .ok (.ldc 241, 2) := by decide +kernel
theorem dX8_arrival_14 : decode cX8_arrival 14 = .ok (.invokestatic 97, 3) := by decide +kernel
theorem dX8_arrival_17 : decode cX8_arrival 17 = .ok (.aload_n 0, 1) := by decide +kernel
theorem dX8_arrival_18 : decode cX8_arrival 18 = .ok (.getfield 46, 3) := by decide +kernel
theorem dX8_arrival_21 : decode cX8_arrival 21 = .ok (.aload_n 0, 1) := by decide +kernel
theorem dX8_arrival_22 : decode cX8_arrival 22 = .ok (.getfield 10, 3) := by decide +kernel
theorem dX8_arrival_25 : decode cX8_arrival 25 = .ok (.iload_n 1, 1) := by decide +kernel
theorem dX8_arrival_26 : decode cX8_arrival 26 = .ok (.iload_n 2, 1) := by decide +kernel
theorem dX8_arrival_27 : decode cX8_arrival 27 = .ok (.iload_n 3, 1) := by decide +kernel
theorem dX8_arrival_28 : decode cX8_arrival 28 = .ok (.invokevirtual 268, 3) := by decide +kernel
theorem dX8_arrival_31 : decode cX8_arrival 31 = .ok (.ireturn, 1) := by decide +kernel
set_option maxRecDepth 20000 in
theorem ggX8_hiding_X8_needRoom : GoodIn wsX8_hiding wsX8_needRoom := goodIn_ca (goodIn_r _ [8, 9, 10, 3, 11, 12, 13, 14, 15, 16, 62, 63, 64, 65, 66, 67, 68, 69, 70, 71, 72, 73, 74, 75, 76, 77, 78, 79, 80, 81, 82, 83, 84, 85, 86, 87, 88, 89, 90, 91, 92, 93, 94] (by decide +kernel) (by decide +kernel)) (goodIn_sub (fun _ h => List.mem_cons_of_mem _ (List.mem_append_left _ (List.mem_append_right _ h))) (by decide +kernel))
set_option maxRecDepth 20000 in
theorem gX8_hiding_X8_needRoom : GoodIn wsX8_hiding (wsV RX8 180 RX8 yX8_needRoom wsX8_needRoom) := goodIn_app (goodIn_of _ (by decide +kernel)) ggX8_hiding_X8_needRoom
set_option maxRecDepth 20000 in
theorem ggX8_hiding_X8_needRange : GoodIn wsX8_hiding wsX8_needRange := goodIn_ca (goodIn_r _ [19, 20, 21] (by decide +kernel) (by decide +kernel)) (goodIn_sub (fun _ h => List.mem_cons_of_mem _ (List.mem_append_right _ h)) (by decide +kernel))
set_option maxRecDepth 20000 in
theorem gX8_hiding_X8_needRange : GoodIn wsX8_hiding (va_wsS RX8 97 yX8_needRange wsX8_needRange) := goodIn_app (goodIn_of _ (by decide +kernel)) ggX8_hiding_X8_needRange
set_option maxRecDepth 20000 in
theorem ggX8_hiding_X4_roomsAfter : GoodIn wsX8_hiding wsX4_roomsAfter := goodIn_r _ [26, 27, 28, 29, 14, 30, 31, 32, 33, 34, 35, 36, 37, 38, 39, 40, 41, 42, 43, 44, 45, 25, 46, 47, 48, 49, 50, 51, 52, 53, 54, 55, 56, 57, 58, 59, 60, 7, 61, 76, 77, 78, 79, 80, 81, 82, 83, 84, 85, 86, 87, 88, 89, 90, 91, 92, 93, 94, 95, 96] (by decide +kernel) (by decide +kernel)
set_option maxRecDepth 20000 in
theorem gX8_hiding_X4_roomsAfter : GoodIn wsX8_hiding (wsV RX8 272 RX4 yX4_roomsAfter wsX4_roomsAfter) := goodIn_app (goodIn_of _ (by decide +kernel)) ggX8_hiding_X4_roomsAfter
theorem dX8_hiding_0 : decode cX8_hiding 0 = .ok (.aload_n 0, 1) := by decide +kernel
theorem dX8_hiding_1 : decode cX8_hiding 1 = .ok (.iload_n 1, 1) := by decide +kernel
theorem dX8_hiding_2 : decode cX8_hiding 2 = .ok (.invokevirtual 180, 3) := by decide +kernel
theorem dX8_hiding_5 : decode cX8_hiding 5 = .ok (.iload_n 2, 1) := by decide +kernel
theorem dX8_hiding_6 : decode cX8_hiding 6 = .ok (.iconst 0, 1) := by decide +kernel
theorem dX8_hiding_7 : decode cX8_hiding 7 = .ok (.ldc 241, 2) := by decide +kernel
theorem dX8_hiding_9 : decode cX8_hiding 9 = .ok (.invokestatic 97, 3) := by decide +kernel
theorem dX8_hiding_12 : decode cX8_hiding 12 = .ok (.iload_n 3, 1) := by decide +kernel
theorem dX8_hiding_13 : decode cX8_hiding 13 = .ok (.iconst 0, 1) := by decide +kernel
theorem dX8_hiding_14 : decode cX8_hiding 14 = .ok (.bipush 100, 2) := by decide +kernel
theorem dX8_hiding_16 : decode cX8_hiding 16 = .ok (.invokestatic 97, 3) := by decide +kernel
theorem dX8_hiding_19 : decode cX8_hiding 19 = .ok (.aload_n 0, 1) := by decide +kernel
theorem dX8_hiding_20 : decode cX8_hiding 20 = .ok (.getfield 46, 3) := by decide +kernel
theorem dX8_hiding_23 : decode cX8_hiding 23 = .ok (.aload_n 0, 1) := by decide +kernel
theorem dX8_hiding_24 : decode cX8_hiding 24 = .ok (.getfield 10, 3) := by decide +kernel
theorem dX8_hiding_27 : decode cX8_hiding 27 = .ok (.iload_n 1, 1) := by decide +kernel
theorem dX8_hiding_28 : decode cX8_hiding 28 = .ok (.iload_n 2, 1) := by decide +kernel
theorem dX8_hiding_29 : decode cX8_hiding 29 = .ok (.iload_n 3, 1) := by decide +kernel
theorem dX8_hiding_30 : decode cX8_hiding 30 = .ok (.invokevirtual 272, 3) := by decide +kernel
theorem dX8_hiding_33 : decode cX8_hiding 33 = .ok (.ireturn, 1) := by decide +kernel
set_option maxRecDepth 20000 in
theorem ggX8_pass_X8_needRange : GoodIn wsX8_pass wsX8_needRange := goodIn_ca (goodIn_r _ [8, 9, 10] (by decide +kernel) (by decide +kernel)) (goodIn_sub (fun _ h => List.mem_cons_of_mem _ (List.mem_append_right _ h)) (by decide +kernel))
set_option maxRecDepth 20000 in
theorem gX8_pass_X8_needRange : GoodIn wsX8_pass (va_wsS RX8 97 yX8_needRange wsX8_needRange) := goodIn_app (goodIn_of _ (by decide +kernel)) ggX8_pass_X8_needRange
set_option maxRecDepth 20000 in
theorem ggX8_pass_X1_record : GoodIn wsX8_pass wsX1_record := goodIn_r _ [15, 16, 17, 18, 19, 20, 21, 22, 23, 24, 25, 26, 27, 28, 29, 30, 31, 32, 33, 34, 35, 36, 37, 38, 39, 40, 41, 42, 43, 44, 45, 46, 47, 48, 49, 50, 112, 113, 114, 115, 116, 93, 94, 95, 96, 97, 98, 99, 100, 101, 102, 103, 104, 105, 106, 107, 108, 109, 110, 111] (by decide +kernel) (by decide +kernel)
set_option maxRecDepth 20000 in
theorem gX8_pass_X1_record : GoodIn wsX8_pass (wsV RX8 282 RX1 yX1_record wsX1_record) := goodIn_app (goodIn_of _ (by decide +kernel)) ggX8_pass_X1_record
set_option maxRecDepth 20000 in
theorem ggX8_pass_X2_passMinute : GoodIn wsX8_pass wsX2_passMinute := goodIn_r _ [54, 31, 28, 47, 48, 49, 50, 55, 56, 21, 57, 58, 59, 60, 26, 61, 30, 62, 63, 64, 65, 43, 44, 45, 66, 67, 68, 69, 70, 7, 71, 72, 73, 74, 75, 76, 77, 78, 93, 94, 95, 96, 97, 98, 99, 100, 101, 102, 103, 104, 105, 106, 107, 108, 109, 110, 111] (by decide +kernel) (by decide +kernel)
set_option maxRecDepth 20000 in
theorem gX8_pass_X2_passMinute : GoodIn wsX8_pass (wsV RX8 285 RX2 yX2_passMinute wsX2_passMinute) := goodIn_app (goodIn_of _ (by decide +kernel)) ggX8_pass_X2_passMinute
theorem dX8_pass_0 : decode cX8_pass 0 = .ok (.iload_n 1, 1) := by decide +kernel
theorem dX8_pass_1 : decode cX8_pass 1 = .ok (.iconst 1, 1) := by decide +kernel
theorem dX8_pass_2 : decode cX8_pass 2 = .ok (.sipush 500, 3) := by decide +kernel
theorem dX8_pass_5 : decode cX8_pass 5 = .ok (.invokestatic 97, 3) := by decide +kernel
theorem dX8_pass_8 : decode cX8_pass 8 = .ok (.aload_n 0, 1) := by decide +kernel
theorem dX8_pass_9 : decode cX8_pass 9 = .ok (.getfield 10, 3) := by decide +kernel
theorem dX8_pass_12 : decode cX8_pass 12 = .ok (.getfield 132, 3) := by decide +kernel
theorem dX8_pass_15 : decode cX8_pass 15 = .ok (.iload_n 1, 1) := by decide +kernel
theorem dX8_pass_16 : decode cX8_pass 16 = .ok (.iadd, 1) := by decide +kernel
theorem dX8_pass_17 : decode cX8_pass 17 = .ok (.ldc_w 281, 3) := by decide +kernel
theorem dX8_pass_20 : decode cX8_pass 20 = .ok (.if_icmp .le 6, 3) := by decide +kernel
theorem dX8_pass_23 : decode cX8_pass 23 = .ok (.bipush (-2), 2) := by decide +kernel
theorem dX8_pass_25 : decode cX8_pass 25 = .ok (.ireturn, 1) := by decide +kernel
theorem dX8_pass_26 : decode cX8_pass 26 = .ok (.aload_n 0, 1) := by decide +kernel
theorem dX8_pass_27 : decode cX8_pass 27 = .ok (.getfield 22, 3) := by decide +kernel
theorem dX8_pass_30 : decode cX8_pass 30 = .ok (.aload_n 0, 1) := by decide +kernel
theorem dX8_pass_31 : decode cX8_pass 31 = .ok (.getfield 10, 3) := by decide +kernel
theorem dX8_pass_34 : decode cX8_pass 34 = .ok (.invokevirtual 282, 3) := by decide +kernel
theorem dX8_pass_37 : decode cX8_pass 37 = .ok (.iconst 0, 1) := by decide +kernel
theorem dX8_pass_38 : decode cX8_pass 38 = .ok (.istore_n 2, 1) := by decide +kernel
theorem dX8_pass_39 : decode cX8_pass 39 = .ok (.iconst 0, 1) := by decide +kernel
theorem dX8_pass_40 : decode cX8_pass 40 = .ok (.istore_n 3, 1) := by decide +kernel
theorem dX8_pass_41 : decode cX8_pass 41 = .ok (.iload_n 3, 1) := by decide +kernel
theorem dX8_pass_42 : decode cX8_pass 42 = .ok (.iload_n 1, 1) := by decide +kernel
theorem dX8_pass_43 : decode cX8_pass 43 = .ok (.if_icmp .ge 19, 3) := by decide +kernel
theorem dX8_pass_46 : decode cX8_pass 46 = .ok (.iload_n 2, 1) := by decide +kernel
theorem dX8_pass_47 : decode cX8_pass 47 = .ok (.aload_n 0, 1) := by decide +kernel
theorem dX8_pass_48 : decode cX8_pass 48 = .ok (.getfield 10, 3) := by decide +kernel
theorem dX8_pass_51 : decode cX8_pass 51 = .ok (.invokevirtual 285, 3) := by decide +kernel
theorem dX8_pass_54 : decode cX8_pass 54 = .ok (.iadd, 1) := by decide +kernel
theorem dX8_pass_55 : decode cX8_pass 55 = .ok (.istore_n 2, 1) := by decide +kernel
theorem dX8_pass_56 : decode cX8_pass 56 = .ok (.iinc 3 1, 3) := by decide +kernel
theorem dX8_pass_59 : decode cX8_pass 59 = .ok (.goto (-18), 3) := by decide +kernel
theorem dX8_pass_62 : decode cX8_pass 62 = .ok (.iload_n 2, 1) := by decide +kernel
theorem dX8_pass_63 : decode cX8_pass 63 = .ok (.ireturn, 1) := by decide +kernel
set_option maxRecDepth 20000 in
theorem ggX8_shift_X8_needGuard : GoodIn wsX8_shift wsX8_needGuard := goodIn_ca (goodIn_r _ [10, 11, 12, 1, 13, 14, 15, 16, 17, 18, 123, 124, 125, 126, 127, 128, 129, 130, 131, 132, 133, 134, 135, 136, 137, 138, 139, 140, 141, 142, 143, 144, 145, 146, 147, 148, 149, 150, 151, 152, 153, 154, 155] (by decide +kernel) (by decide +kernel)) (goodIn_sub (fun _ h => List.mem_cons_of_mem _ (List.mem_append_left _ (List.mem_append_right _ h))) (by decide +kernel))
set_option maxRecDepth 20000 in
theorem gX8_shift_X8_needGuard : GoodIn wsX8_shift (wsV RX8 209 RX8 yX8_needGuard wsX8_needGuard) := goodIn_app (goodIn_of _ (by decide +kernel)) ggX8_shift_X8_needGuard
set_option maxRecDepth 20000 in
theorem ggX8_shift_X8_needRange : GoodIn wsX8_shift wsX8_needRange := goodIn_ca (goodIn_r _ [21, 22, 23] (by decide +kernel) (by decide +kernel)) (goodIn_sub (fun _ h => List.mem_cons_of_mem _ (List.mem_append_right _ h)) (by decide +kernel))
set_option maxRecDepth 20000 in
theorem gX8_shift_X8_needRange : GoodIn wsX8_shift (va_wsS RX8 97 yX8_needRange wsX8_needRange) := goodIn_app (goodIn_of _ (by decide +kernel)) ggX8_shift_X8_needRange
set_option maxRecDepth 20000 in
theorem ggX8_shift_X1_record : GoodIn wsX8_shift wsX1_record := goodIn_r _ [28, 29, 30, 31, 32, 33, 34, 35, 36, 37, 38, 16, 39, 40, 41, 18, 42, 43, 44, 45, 46, 47, 48, 49, 50, 51, 52, 53, 54, 55, 56, 57, 58, 59, 60, 61, 164, 165, 166, 167, 168, 137, 138, 139, 140, 141, 142, 143, 144, 145, 146, 147, 148, 149, 150, 151, 152, 153, 154, 155] (by decide +kernel) (by decide +kernel)
set_option maxRecDepth 20000 in
theorem gX8_shift_X1_record : GoodIn wsX8_shift (wsV RX8 282 RX1 yX1_record wsX1_record) := goodIn_app (goodIn_of _ (by decide +kernel)) ggX8_shift_X1_record
set_option maxRecDepth 20000 in
theorem ggX8_shift_X8_markPhasesChanged : GoodIn wsX8_shift wsX8_markPhasesChanged := goodIn_r _ [65, 66, 1, 67, 123, 124, 125, 126, 127, 128, 129, 130, 131, 132, 133, 134, 135, 136, 137, 138, 139, 140, 141, 142, 143, 144, 145, 146, 147, 148, 149, 150, 151, 152, 153, 154, 155] (by decide +kernel) (by decide +kernel)
set_option maxRecDepth 20000 in
theorem gX8_shift_X8_markPhasesChanged : GoodIn wsX8_shift (wsV RX8 288 RX8 yX8_markPhasesChanged wsX8_markPhasesChanged) := goodIn_app (goodIn_of _ (by decide +kernel)) ggX8_shift_X8_markPhasesChanged
set_option maxRecDepth 20000 in
theorem ggX8_shift_X8_measured : GoodIn wsX8_shift wsX8_measured := goodIn_r _ [71, 72, 73, 1, 67, 74, 75, 76, 77, 78, 79, 80, 81, 82, 83, 84, 85, 86, 48, 49, 50, 87, 88, 89, 90, 34, 91, 92, 93, 94, 95, 96, 97, 98, 99, 100, 16, 101, 18, 54, 102, 9, 103, 104, 105, 106, 107, 108, 109, 110, 111, 112, 113, 56, 114, 14, 15, 17, 115, 116, 117, 118, 119, 120, 121, 122, 123, 124, 125, 126, 127, 128, 129, 130, 131, 132, 133, 134, 135, 136, 156, 157, 158, 159, 160, 161, 162, 163, 137, 138, 139, 140, 141, 142, 143, 144, 145, 146, 147, 148, 149, 150, 151, 152, 153, 154, 155] (by decide +kernel) (by decide +kernel)
set_option maxRecDepth 20000 in
theorem gX8_shift_X8_measured : GoodIn wsX8_shift (wsV RX8 135 RX8 yX8_measured wsX8_measured) := goodIn_app (goodIn_of _ (by decide +kernel)) ggX8_shift_X8_measured
theorem dX8_shift_0 : decode cX8_shift 0 = .ok (.aload_n 0, 1) := by decide +kernel
theorem dX8_shift_1 : decode cX8_shift 1 = .ok (.iload_n 1, 1) := by decide +kernel
theorem dX8_shift_2 : decode cX8_shift 2 = .ok (.invokevirtual 209, 3) := by decide +kernel
theorem dX8_shift_5 : decode cX8_shift 5 = .ok (.iload_n 2, 1) := by decide +kernel
theorem dX8_shift_6 : decode cX8_shift 6 = .ok (.iconst 0, 1) := by decide +kernel
theorem dX8_shift_7 : decode cX8_shift 7 = .ok (.aload_n 0, 1) := by decide +kernel
theorem dX8_shift_8 : decode cX8_shift 8 = .ok (.getfield 10, 3) := by decide +kernel
theorem dX8_shift_11 : decode cX8_shift 11 = .ok (.getfield 212, 3) := by decide +kernel
theorem dX8_shift_14 : decode cX8_shift 14 = .ok (.iload_n 1, 1) := by decide +kernel
theorem dX8_shift_15 : decode cX8_shift 15 = .ok (.iaload, 1) := by decide +kernel
theorem dX8_shift_16 : decode cX8_shift 16 = .ok (.iconst 1, 1) := by decide +kernel
theorem dX8_shift_17 : decode cX8_shift 17 = .ok (.isub, 1) := by decide +kernel
theorem dX8_shift_18 : decode cX8_shift 18 = .ok (.invokestatic 97, 3) := by decide +kernel
theorem dX8_shift_21 : decode cX8_shift 21 = .ok (.aload_n 0, 1) := by decide +kernel
theorem dX8_shift_22 : decode cX8_shift 22 = .ok (.getfield 22, 3) := by decide +kernel
theorem dX8_shift_25 : decode cX8_shift 25 = .ok (.aload_n 0, 1) := by decide +kernel
theorem dX8_shift_26 : decode cX8_shift 26 = .ok (.getfield 10, 3) := by decide +kernel
theorem dX8_shift_29 : decode cX8_shift 29 = .ok (.invokevirtual 282, 3) := by decide +kernel
theorem dX8_shift_32 : decode cX8_shift 32 = .ok (.aload_n 0, 1) := by decide +kernel
theorem dX8_shift_33 : decode cX8_shift 33 = .ok (.getfield 10, 3) := by decide +kernel
theorem dX8_shift_36 : decode cX8_shift 36 = .ok (.getfield 215, 3) := by decide +kernel
theorem dX8_shift_39 : decode cX8_shift 39 = .ok (.iload_n 1, 1) := by decide +kernel
theorem dX8_shift_40 : decode cX8_shift 40 = .ok (.iload_n 2, 1) := by decide +kernel
theorem dX8_shift_41 : decode cX8_shift 41 = .ok (.iastore, 1) := by decide +kernel
theorem dX8_shift_42 : decode cX8_shift 42 = .ok (.aload_n 0, 1) := by decide +kernel
theorem dX8_shift_43 : decode cX8_shift 43 = .ok (.invokevirtual 288, 3) := by decide +kernel
theorem dX8_shift_46 : decode cX8_shift 46 = .ok (.aload_n 0, 1) := by decide +kernel
theorem dX8_shift_47 : decode cX8_shift 47 = .ok (.invokevirtual 135, 3) := by decide +kernel
theorem dX8_shift_50 : decode cX8_shift 50 = .ok (.getfield 139, 3) := by decide +kernel
theorem dX8_shift_53 : decode cX8_shift 53 = .ok (.ireturn, 1) := by decide +kernel
set_option maxRecDepth 20000 in
theorem ggX8_adopt_X8_best : GoodIn wsX8_adopt wsX8_best := goodIn_r _ [10, 11, 12, 2, 13, 14, 15, 16, 17, 18, 19, 20, 21, 22, 23, 24, 25, 26, 27, 28, 29, 30, 31, 32, 33, 34, 35, 36, 37, 38, 39, 40, 41, 42, 43, 44, 45, 46, 47, 48, 49, 50, 51, 52, 53, 54, 55, 56, 57, 58, 9, 59, 60, 61, 62, 63, 64, 65, 66, 67, 68, 69, 70, 71, 72, 73, 74, 75, 76, 77, 78, 79, 80, 81, 82, 83, 84, 85, 86, 87, 88, 89, 90, 91, 92, 93, 94, 95, 96, 97, 98, 99, 100, 101, 102, 103, 104, 105, 106, 107, 108, 109, 110, 111, 112, 113, 114, 115, 116, 117, 118, 119, 120, 121, 122, 123, 124, 125, 126, 127, 128, 129, 130, 131, 132, 133, 134, 135, 136, 137, 138, 139, 140, 157, 158, 159, 160, 161, 162, 163, 164, 165, 166, 167, 168, 169, 170, 190, 191, 192, 193, 194, 195, 196, 171, 172, 173, 174, 175, 176, 177, 178, 179, 180, 181, 182, 183, 184, 185, 186, 187, 188, 189, 197, 198, 199, 200, 201, 202, 203, 204] (by decide +kernel) (by decide +kernel)
set_option maxRecDepth 20000 in
theorem gX8_adopt_X8_best : GoodIn wsX8_adopt (wsV RX8 259 RX8 yX8_best wsX8_best) := goodIn_app (goodIn_of _ (by decide +kernel)) ggX8_adopt_X8_best
set_option maxRecDepth 20000 in
theorem ggX8_adopt_X1_record : GoodIn wsX8_adopt wsX1_record := goodIn_r _ [145, 146, 147, 148, 149, 139, 87, 140, 150, 23, 24, 25, 26, 27, 28, 29, 30, 31, 32, 33, 34, 35, 36, 37, 38, 39, 40, 41, 42, 43, 44, 45, 46, 47, 48, 49, 205, 206, 207, 208, 209, 171, 172, 173, 174, 175, 176, 177, 178, 179, 180, 181, 182, 183, 184, 185, 186, 187, 188, 189] (by decide +kernel) (by decide +kernel)
set_option maxRecDepth 20000 in
theorem gX8_adopt_X1_record : GoodIn wsX8_adopt (wsV RX8 282 RX1 yX1_record wsX1_record) := goodIn_app (goodIn_of _ (by decide +kernel)) ggX8_adopt_X1_record
set_option maxRecDepth 20000 in
theorem ggX8_adopt_X8_markPhasesChanged : GoodIn wsX8_adopt wsX8_markPhasesChanged := goodIn_r _ [154, 155, 2, 156, 157, 158, 159, 160, 161, 162, 163, 164, 165, 166, 167, 168, 169, 170, 171, 172, 173, 174, 175, 176, 177, 178, 179, 180, 181, 182, 183, 184, 185, 186, 187, 188, 189] (by decide +kernel) (by decide +kernel)
set_option maxRecDepth 20000 in
theorem gX8_adopt_X8_markPhasesChanged : GoodIn wsX8_adopt (wsV RX8 288 RX8 yX8_markPhasesChanged wsX8_markPhasesChanged) := goodIn_app (goodIn_of _ (by decide +kernel)) ggX8_adopt_X8_markPhasesChanged
theorem dX8_adopt_0 : decode cX8_adopt 0 = .ok (.aload_n 0, 1) := by decide +kernel
theorem dX8_adopt_1 : decode cX8_adopt 1 = .ok (.invokevirtual 259, 3) := by decide +kernel
theorem dX8_adopt_4 : decode cX8_adopt 4 = .ok (.astore_n 1, 1) := by decide +kernel
theorem dX8_adopt_5 : decode cX8_adopt 5 = .ok (.aload_n 0, 1) := by decide +kernel

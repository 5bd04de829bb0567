theorem dX2_countPair_24 : decode cX2_countPair 24 = .ok (.aload_n 0, 1) := by decide +kernel
theorem dX2_countPair_25 : decode cX2_countPair 25 = .ok (.iload_n 2, 1) := by decide +kernel
theorem dX2_countPair_26 : decode cX2_countPair 26 = .ok (.iconst 0, 1) := by decide +kernel
theorem dX2_countPair_27 : decode cX2_countPair 27 = .ok (.invokevirtual 130, 3) := by decide +kernel
theorem dX2_countPair_30 : decode cX2_countPair 30 = .ok (.istore 8, 2) := by decide +kernel
theorem dX2_countPair_32 : decode cX2_countPair 32 = .ok (.iconst 1, 1) := by decide +kernel
theorem dX2_countPair_33 : decode cX2_countPair 33 = .ok (.istore 9, 2) := by decide +kernel
theorem dX2_countPair_35 : decode cX2_countPair 35 = .ok (.iload 9, 2) := by decide +kernel
theorem dX2_countPair_37 : decode cX2_countPair 37 = .ok (.iload 5, 2) := by decide +kernel
theorem dX2_countPair_39 : decode cX2_countPair 39 = .ok (.if_icmp .gt 72, 3) := by decide +kernel
theorem dX2_countPair_42 : decode cX2_countPair 42 = .ok (.aload_n 0, 1) := by decide +kernel
theorem dX2_countPair_43 : decode cX2_countPair 43 = .ok (.iload_n 1, 1) := by decide +kernel
theorem dX2_countPair_44 : decode cX2_countPair 44 = .ok (.iload 9, 2) := by decide +kernel
theorem dX2_countPair_46 : decode cX2_countPair 46 = .ok (.invokevirtual 130, 3) := by decide +kernel
theorem dX2_countPair_49 : decode cX2_countPair 49 = .ok (.istore 10, 2) := by decide +kernel
theorem dX2_countPair_51 : decode cX2_countPair 51 = .ok (.aload_n 0, 1) := by decide +kernel
theorem dX2_countPair_52 : decode cX2_countPair 52 = .ok (.iload_n 2, 1) := by decide +kernel
theorem dX2_countPair_53 : decode cX2_countPair 53 = .ok (.iload 9, 2) := by decide +kernel
theorem dX2_countPair_55 : decode cX2_countPair 55 = .ok (.invokevirtual 130, 3) := by decide +kernel
theorem dX2_countPair_58 : decode cX2_countPair 58 = .ok (.istore 11, 2) := by decide +kernel
theorem dX2_countPair_60 : decode cX2_countPair 60 = .ok (.iload 7, 2) := by decide +kernel
theorem dX2_countPair_62 : decode cX2_countPair 62 = .ok (.iload 8, 2) := by decide +kernel
theorem dX2_countPair_64 : decode cX2_countPair 64 = .ok (.if_icmp .ne 12, 3) := by decide +kernel
theorem dX2_countPair_67 : decode cX2_countPair 67 = .ok (.iload 6, 2) := by decide +kernel
theorem dX2_countPair_69 : decode cX2_countPair 69 = .ok (.iload_n 3, 1) := by decide +kernel
theorem dX2_countPair_70 : decode cX2_countPair 70 = .ok (.iadd, 1) := by decide +kernel
theorem dX2_countPair_71 : decode cX2_countPair 71 = .ok (.istore 6, 2) := by decide +kernel
theorem dX2_countPair_73 : decode cX2_countPair 73 = .ok (.goto 24, 3) := by decide +kernel
theorem dX2_countPair_76 : decode cX2_countPair 76 = .ok (.iload 7, 2) := by decide +kernel
theorem dX2_countPair_78 : decode cX2_countPair 78 = .ok (.iload 11, 2) := by decide +kernel
theorem dX2_countPair_80 : decode cX2_countPair 80 = .ok (.if_icmp .ne 17, 3) := by decide +kernel
theorem dX2_countPair_83 : decode cX2_countPair 83 = .ok (.iload 8, 2) := by decide +kernel
theorem dX2_countPair_85 : decode cX2_countPair 85 = .ok (.iload 10, 2) := by decide +kernel
theorem dX2_countPair_87 : decode cX2_countPair 87 = .ok (.if_icmp .ne 10, 3) := by decide +kernel
theorem dX2_countPair_90 : decode cX2_countPair 90 = .ok (.iload 6, 2) := by decide +kernel
theorem dX2_countPair_92 : decode cX2_countPair 92 = .ok (.iload 4, 2) := by decide +kernel
theorem dX2_countPair_94 : decode cX2_countPair 94 = .ok (.iadd, 1) := by decide +kernel
theorem dX2_countPair_95 : decode cX2_countPair 95 = .ok (.istore 6, 2) := by decide +kernel
theorem dX2_countPair_97 : decode cX2_countPair 97 = .ok (.iload 10, 2) := by decide +kernel
theorem dX2_countPair_99 : decode cX2_countPair 99 = .ok (.istore 7, 2) := by decide +kernel
theorem dX2_countPair_101 : decode cX2_countPair 101 = .ok (.iload 11, 2) := by decide +kernel
theorem dX2_countPair_103 : decode cX2_countPair 103 = .ok (.istore 8, 2) := by decide +kernel
theorem dX2_countPair_105 : decode cX2_countPair 105 = .ok (.iinc 9 1, 3) := by decide +kernel
theorem dX2_countPair_108 : decode cX2_countPair 108 = .ok (.goto (-73), 3) := by decide +kernel
theorem dX2_countPair_111 : decode cX2_countPair 111 = .ok (.iload 6, 2) := by decide +kernel
theorem dX2_countPair_113 : decode cX2_countPair 113 = .ok (.ireturn, 1) := by decide +kernel
set_option maxRecDepth 20000 in
theorem ggX2_countCrossings_X2_countPair : GoodIn wsX2_countCrossings wsX2_countPair := goodIn_r _ [6, 7, 8, 9, 5, 10, 1, 11, 12, 13, 14, 15, 16, 17, 18, 19, 20, 21, 22, 23, 24, 25, 26, 27, 28, 29, 30, 31, 32, 33, 34, 35, 36, 37, 38, 39, 40, 41, 42, 43] (by decide +kernel) (by decide +kernel)
set_option maxRecDepth 20000 in
theorem gX2_countCrossings_X2_countPair : GoodIn wsX2_countCrossings (wsV RX2 137 RX2 yX2_countPair wsX2_countPair) := goodIn_app (goodIn_of _ (by decide +kernel)) ggX2_countCrossings_X2_countPair
theorem dX2_countCrossings_0 : decode cX2_countCrossings 0 = .ok (.iconst 0, 1) := by decide +kernel
theorem dX2_countCrossings_1 : decode cX2_countCrossings 1 = .ok (.istore_n 1, 1) := by decide +kernel
theorem dX2_countCrossings_2 : decode cX2_countCrossings 2 = .ok (.iconst 0, 1) := by decide +kernel
theorem dX2_countCrossings_3 : decode cX2_countCrossings 3 = .ok (.istore_n 2, 1) := by decide +kernel
theorem dX2_countCrossings_4 : decode cX2_countCrossings 4 = .ok (.iload_n 2, 1) := by decide +kernel
theorem dX2_countCrossings_5 : decode cX2_countCrossings 5 = .ok (.aload_n 0, 1) := by decide +kernel
theorem dX2_countCrossings_6 : decode cX2_countCrossings 6 = .ok (.getfield 18, 3) := by decide +kernel
theorem dX2_countCrossings_9 : decode cX2_countCrossings 9 = .ok (.if_icmp .ge 38, 3) := by decide +kernel
theorem dX2_countCrossings_12 : decode cX2_countCrossings 12 = .ok (.iload_n 2, 1) := by decide +kernel
theorem dX2_countCrossings_13 : decode cX2_countCrossings 13 = .ok (.iconst 1, 1) := by decide +kernel
theorem dX2_countCrossings_14 : decode cX2_countCrossings 14 = .ok (.iadd, 1) := by decide +kernel
theorem dX2_countCrossings_15 : decode cX2_countCrossings 15 = .ok (.istore_n 3, 1) := by decide +kernel
theorem dX2_countCrossings_16 : decode cX2_countCrossings 16 = .ok (.iload_n 3, 1) := by decide +kernel
theorem dX2_countCrossings_17 : decode cX2_countCrossings 17 = .ok (.aload_n 0, 1) := by decide +kernel
theorem dX2_countCrossings_18 : decode cX2_countCrossings 18 = .ok (.getfield 18, 3) := by decide +kernel
theorem dX2_countCrossings_21 : decode cX2_countCrossings 21 = .ok (.if_icmp .ge 20, 3) := by decide +kernel
theorem dX2_countCrossings_24 : decode cX2_countCrossings 24 = .ok (.iload_n 1, 1) := by decide +kernel
theorem dX2_countCrossings_25 : decode cX2_countCrossings 25 = .ok (.aload_n 0, 1) := by decide +kernel
theorem dX2_countCrossings_26 : decode cX2_countCrossings 26 = .ok (.iload_n 2, 1) := by decide +kernel
theorem dX2_countCrossings_27 : decode cX2_countCrossings 27 = .ok (.iload_n 3, 1) := by decide +kernel
theorem dX2_countCrossings_28 : decode cX2_countCrossings 28 = .ok (.iconst 1, 1) := by decide +kernel
theorem dX2_countCrossings_29 : decode cX2_countCrossings 29 = .ok (.iconst 1, 1) := by decide +kernel
theorem dX2_countCrossings_30 : decode cX2_countCrossings 30 = .ok (.invokevirtual 137, 3) := by decide +kernel
theorem dX2_countCrossings_33 : decode cX2_countCrossings 33 = .ok (.iadd, 1) := by decide +kernel
theorem dX2_countCrossings_34 : decode cX2_countCrossings 34 = .ok (.istore_n 1, 1) := by decide +kernel
theorem dX2_countCrossings_35 : decode cX2_countCrossings 35 = .ok (.iinc 3 1, 3) := by decide +kernel
theorem dX2_countCrossings_38 : decode cX2_countCrossings 38 = .ok (.goto (-22), 3) := by decide +kernel
theorem dX2_countCrossings_41 : decode cX2_countCrossings 41 = .ok (.iinc 2 1, 3) := by decide +kernel
theorem dX2_countCrossings_44 : decode cX2_countCrossings 44 = .ok (.goto (-40), 3) := by decide +kernel
theorem dX2_countCrossings_47 : decode cX2_countCrossings 47 = .ok (.iload_n 1, 1) := by decide +kernel
theorem dX2_countCrossings_48 : decode cX2_countCrossings 48 = .ok (.ireturn, 1) := by decide +kernel
set_option maxRecDepth 20000 in
theorem ggX2_passMinute_X2_roomsSeenAt : GoodIn wsX2_passMinute wsX2_roomsSeenAt := goodIn_r _ [15, 16, 17, 18, 19, 14, 20, 21, 22, 23, 24, 25, 26, 27, 38, 39, 40, 41, 42, 43, 44, 45, 46, 47, 48, 49, 50, 51, 52, 53, 54, 55, 56] (by decide +kernel) (by decide +kernel)
set_option maxRecDepth 20000 in
theorem gX2_passMinute_X2_roomsSeenAt : GoodIn wsX2_passMinute (wsV RX2 141 RX2 yX2_roomsSeenAt wsX2_roomsSeenAt) := goodIn_app (goodIn_of _ (by decide +kernel)) ggX2_passMinute_X2_roomsSeenAt
set_option maxRecDepth 20000 in
theorem ggX2_passMinute_X8_has : GoodIn wsX2_passMinute wsX8_has := goodIn_r _ [30] (by decide +kernel) (by decide +kernel)
set_option maxRecDepth 20000 in
theorem gX2_passMinute_X8_has_n86 : GoodIn wsX2_passMinute (wsX8_has) := ggX2_passMinute_X8_has
set_option maxRecDepth 20000 in
theorem ggX2_passMinute_J6_bitCount_0f7a4 : GoodIn wsX2_passMinute wsJ6_bitCount_0f7a4 := goodIn_r _ [34, 35, 36, 37] (by decide +kernel) (by decide +kernel)
set_option maxRecDepth 20000 in
theorem gX2_passMinute_J6_bitCount_0f7a4 : GoodIn wsX2_passMinute (va_wsS RX2 101 yJ6_bitCount_0f7a4 wsJ6_bitCount_0f7a4) := goodIn_app (goodIn_of _ (by decide +kernel)) ggX2_passMinute_J6_bitCount_0f7a4
theorem dX2_passMinute_0 : decode cX2_passMinute 0 = .ok (.aload_n 0, 1) := by decide +kernel
theorem dX2_passMinute_1 : decode cX2_passMinute 1 = .ok (.aload_n 0, 1) := by decide +kernel
theorem dX2_passMinute_2 : decode cX2_passMinute 2 = .ok (.getfield 21, 3) := by decide +kernel
theorem dX2_passMinute_5 : decode cX2_passMinute 5 = .ok (.invokevirtual 141, 3) := by decide +kernel
theorem dX2_passMinute_8 : decode cX2_passMinute 8 = .ok (.istore_n 1, 1) := by decide +kernel
theorem dX2_passMinute_9 : decode cX2_passMinute 9 = .ok (.iconst 0, 1) := by decide +kernel
theorem dX2_passMinute_10 : decode cX2_passMinute 10 = .ok (.istore_n 2, 1) := by decide +kernel
theorem dX2_passMinute_11 : decode cX2_passMinute 11 = .ok (.iload_n 2, 1) := by decide +kernel
theorem dX2_passMinute_12 : decode cX2_passMinute 12 = .ok (.aload_n 0, 1) := by decide +kernel
theorem dX2_passMinute_13 : decode cX2_passMinute 13 = .ok (.getfield 9, 3) := by decide +kernel
theorem dX2_passMinute_16 : decode cX2_passMinute 16 = .ok (.if_icmp .ge 84, 3) := by decide +kernel
theorem dX2_passMinute_19 : decode cX2_passMinute 19 = .ok (.iload_n 2, 1) := by decide +kernel
theorem dX2_passMinute_20 : decode cX2_passMinute 20 = .ok (.bipush 12, 2) := by decide +kernel
theorem dX2_passMinute_22 : decode cX2_passMinute 22 = .ok (.if_icmp .ge 78, 3) := by decide +kernel
theorem dX2_passMinute_25 : decode cX2_passMinute 25 = .ok (.iload_n 1, 1) := by decide +kernel
theorem dX2_passMinute_26 : decode cX2_passMinute 26 = .ok (.iload_n 2, 1) := by decide +kernel
theorem dX2_passMinute_27 : decode cX2_passMinute 27 = .ok (.invokestatic 86, 3) := by decide +kernel
theorem dX2_passMinute_30 : decode cX2_passMinute 30 = .ok (.ifCond .eq 33, 3) := by decide +kernel
theorem dX2_passMinute_33 : decode cX2_passMinute 33 = .ok (.aload_n 0, 1) := by decide +kernel
theorem dX2_passMinute_34 : decode cX2_passMinute 34 = .ok (.getfield 58, 3) := by decide +kernel
theorem dX2_passMinute_37 : decode cX2_passMinute 37 = .ok (.iload_n 2, 1) := by decide +kernel
theorem dX2_passMinute_38 : decode cX2_passMinute 38 = .ok (.dup2, 1) := by decide +kernel
theorem dX2_passMinute_39 : decode cX2_passMinute 39 = .ok (.iaload, 1) := by decide +kernel
theorem dX2_passMinute_40 : decode cX2_passMinute 40 = .ok (.iconst 1, 1) := by decide +kernel
theorem dX2_passMinute_41 : decode cX2_passMinute 41 = .ok (.iadd, 1) := by decide +kernel
theorem dX2_passMinute_42 : decode cX2_passMinute 42 = .ok (.iastore, 1) := by decide +kernel
theorem dX2_passMinute_43 : decode cX2_passMinute 43 = .ok (.aload_n 0, 1) := by decide +kernel
theorem dX2_passMinute_44 : decode cX2_passMinute 44 = .ok (.getfield 61, 3) := by decide +kernel
theorem dX2_passMinute_47 : decode cX2_passMinute 47 = .ok (.iload_n 2, 1) := by decide +kernel
theorem dX2_passMinute_48 : decode cX2_passMinute 48 = .ok (.aload_n 0, 1) := by decide +kernel
theorem dX2_passMinute_49 : decode cX2_passMinute 49 = .ok (.getfield 21, 3) := by decide +kernel
theorem dX2_passMinute_52 : decode cX2_passMinute 52 = .ok (.iastore, 1) := by decide +kernel
theorem dX2_passMinute_53 : decode cX2_passMinute 53 = .ok (.aload_n 0, 1) := by decide +kernel
theorem dX2_passMinute_54 : decode cX2_passMinute 54 = .ok (.getfield 64, 3) := by decide +kernel
theorem dX2_passMinute_57 : decode cX2_passMinute 57 = .ok (.iload_n 2, 1) := by decide +kernel
theorem dX2_passMinute_58 : decode cX2_passMinute 58 = .ok (.iconst 0, 1) := by decide +kernel
theorem dX2_passMinute_59 : decode cX2_passMinute 59 = .ok (.iastore, 1) := by decide +kernel
theorem dX2_passMinute_60 : decode cX2_passMinute 60 = .ok (.goto 34, 3) := by decide +kernel
theorem dX2_passMinute_63 : decode cX2_passMinute 63 = .ok (.aload_n 0, 1) := by decide +kernel
theorem dX2_passMinute_64 : decode cX2_passMinute 64 = .ok (.getfield 64, 3) := by decide +kernel
theorem dX2_passMinute_67 : decode cX2_passMinute 67 = .ok (.iload_n 2, 1) := by decide +kernel
theorem dX2_passMinute_68 : decode cX2_passMinute 68 = .ok (.dup2, 1) := by decide +kernel
theorem dX2_passMinute_69 : decode cX2_passMinute 69 = .ok (.iaload, 1) := by decide +kernel
theorem dX2_passMinute_70 : decode cX2_passMinute 70 = .ok (.iconst 1, 1) := by decide +kernel
theorem dX2_passMinute_71 : decode cX2_passMinute 71 = .ok (.iadd, 1) := by decide +kernel
theorem dX2_passMinute_72 : decode cX2_passMinute 72 = .ok (.iastore, 1) := by decide +kernel
theorem dX2_passMinute_73 : decode cX2_passMinute 73 = .ok (.aload_n 0, 1) := by decide +kernel
theorem dX2_passMinute_74 : decode cX2_passMinute 74 = .ok (.getfield 67, 3) := by decide +kernel
theorem dX2_passMinute_77 : decode cX2_passMinute 77 = .ok (.iload_n 2, 1) := by decide +kernel
theorem dX2_passMinute_78 : decode cX2_passMinute 78 = .ok (.aload_n 0, 1) := by decide +kernel
theorem dX2_passMinute_79 : decode cX2_passMinute 79 = .ok (.getfield 67, 3) := by decide +kernel
theorem dX2_passMinute_82 : decode cX2_passMinute 82 = .ok (.iload_n 2, 1) := by decide +kernel
theorem dX2_passMinute_83 : decode cX2_passMinute 83 = .ok (.iaload, 1) := by decide +kernel
theorem dX2_passMinute_84 : decode cX2_passMinute 84 = .ok (.aload_n 0, 1) := by decide +kernel
theorem dX2_passMinute_85 : decode cX2_passMinute 85 = .ok (.getfield 64, 3) := by decide +kernel
theorem dX2_passMinute_88 : decode cX2_passMinute 88 = .ok (.iload_n 2, 1) := by decide +kernel
theorem dX2_passMinute_89 : decode cX2_passMinute 89 = .ok (.iaload, 1) := by decide +kernel
theorem dX2_passMinute_90 : decode cX2_passMinute 90 = .ok (.invokestatic 144, 3) := by decide +kernel
theorem dX2_passMinute_93 : decode cX2_passMinute 93 = .ok (.iastore, 1) := by decide +kernel
theorem dX2_passMinute_94 : decode cX2_passMinute 94 = .ok (.iinc 2 1, 3) := by decide +kernel
theorem dX2_passMinute_97 : decode cX2_passMinute 97 = .ok (.goto (-86), 3) := by decide +kernel
theorem dX2_passMinute_100 : decode cX2_passMinute 100 = .ok (.aload_n 0, 1) := by decide +kernel
theorem dX2_passMinute_101 : decode cX2_passMinute 101 = .ok (.dup, 1) := by decide +kernel
theorem dX2_passMinute_102 : decode cX2_passMinute 102 = .ok (.getfield 21, 3) := by decide +kernel
theorem dX2_passMinute_105 : decode cX2_passMinute 105 = .ok (.iconst 1, 1) := by decide +kernel
theorem dX2_passMinute_106 : decode cX2_passMinute 106 = .ok (.iadd, 1) := by decide +kernel
theorem dX2_passMinute_107 : decode cX2_passMinute 107 = .ok (.putfield 21, 3) := by decide +kernel
theorem dX2_passMinute_110 : decode cX2_passMinute 110 = .ok (.iload_n 1, 1) := by decide +kernel
theorem dX2_passMinute_111 : decode cX2_passMinute 111 = .ok (.invokestatic 101, 3) := by decide +kernel
theorem dX2_passMinute_114 : decode cX2_passMinute 114 = .ok (.ireturn, 1) := by decide +kernel
theorem dX2_countSightings_0 : decode cX2_countSightings 0 = .ok (.iconst 0, 1) := by decide +kernel
theorem dX2_countSightings_1 : decode cX2_countSightings 1 = .ok (.istore_n 1, 1) := by decide +kernel
theorem dX2_countSightings_2 : decode cX2_countSightings 2 = .ok (.iconst 0, 1) := by decide +kernel
theorem dX2_countSightings_3 : decode cX2_countSightings 3 = .ok (.istore_n 2, 1) := by decide +kernel
theorem dX2_countSightings_4 : decode cX2_countSightings 4 = .ok (.iload_n 2, 1) := by decide +kernel
theorem dX2_countSightings_5 : decode cX2_countSightings 5 = .ok (.aload_n 0, 1) := by decide +kernel
theorem dX2_countSightings_6 : decode cX2_countSightings 6 = .ok (.getfield 9, 3) := by decide +kernel
theorem dX2_countSightings_9 : decode cX2_countSightings 9 = .ok (.if_icmp .ge 24, 3) := by decide +kernel
theorem dX2_countSightings_12 : decode cX2_countSightings 12 = .ok (.iload_n 2, 1) := by decide +kernel
theorem dX2_countSightings_13 : decode cX2_countSightings 13 = .ok (.bipush 12, 2) := by decide +kernel
theorem dX2_countSightings_15 : decode cX2_countSightings 15 = .ok (.if_icmp .ge 18, 3) := by decide +kernel
theorem dX2_countSightings_18 : decode cX2_countSightings 18 = .ok (.iload_n 1, 1) := by decide +kernel
theorem dX2_countSightings_19 : decode cX2_countSightings 19 = .ok (.aload_n 0, 1) := by decide +kernel
theorem dX2_countSightings_20 : decode cX2_countSightings 20 = .ok (.getfield 58, 3) := by decide +kernel
theorem dX2_countSightings_23 : decode cX2_countSightings 23 = .ok (.iload_n 2, 1) := by decide +kernel
theorem dX2_countSightings_24 : decode cX2_countSightings 24 = .ok (.iaload, 1) := by decide +kernel
theorem dX2_countSightings_25 : decode cX2_countSightings 25 = .ok (.iadd, 1) := by decide +kernel
theorem dX2_countSightings_26 : decode cX2_countSightings 26 = .ok (.istore_n 1, 1) := by decide +kernel
theorem dX2_countSightings_27 : decode cX2_countSightings 27 = .ok (.iinc 2 1, 3) := by decide +kernel
theorem dX2_countSightings_30 : decode cX2_countSightings 30 = .ok (.goto (-26), 3) := by decide +kernel
theorem dX2_countSightings_33 : decode cX2_countSightings 33 = .ok (.iload_n 1, 1) := by decide +kernel
theorem dX2_countSightings_34 : decode cX2_countSightings 34 = .ok (.ireturn, 1) := by decide +kernel
theorem dX3_init_0 : decode cX3_init 0 = .ok (.aload_n 0, 1) := by decide +kernel
theorem dX3_init_1 : decode cX3_init 1 = .ok (.invokespecial 3, 3) := by decide +kernel
theorem dX3_init_4 : decode cX3_init 4 = .ok (.aload_n 0, 1) := by decide +kernel
theorem dX3_init_5 : decode cX3_init 5 = .ok (.aload_n 1, 1) := by decide +kernel
theorem dX3_init_6 : decode cX3_init 6 = .ok (.putfield 9, 3) := by decide +kernel
theorem dX3_init_9 : decode cX3_init 9 = .ok (.return_, 1) := by decide +kernel
set_option maxRecDepth 20000 in
theorem ggX3_readHouse_X7_isWord : GoodIn wsX3_readHouse wsX7_isWord := goodIn_r _ [7, 8, 9, 10, 11, 12, 13, 14, 15, 16, 17, 18, 19, 20, 21, 22, 23, 24, 25, 26, 27, 28, 29, 30, 31, 32, 33, 34, 35, 36, 37, 38, 39, 40, 41, 42, 43, 44, 45, 46, 47, 48, 49, 50, 51, 52, 53, 54, 55, 56, 57, 58, 59, 60, 201, 202, 203, 204, 205, 206, 207] (by decide +kernel) (by decide +kernel)
set_option maxRecDepth 20000 in
theorem gX3_readHouse_X7_isWord : GoodIn wsX3_readHouse (wsV RX3 17 RX7 yX7_isWord wsX7_isWord) := goodIn_app (goodIn_of _ (by decide +kernel)) ggX3_readHouse_X7_isWord
set_option maxRecDepth 20000 in
theorem ggX3_readHouse_X7_advance : GoodIn wsX3_readHouse wsX7_advance := goodIn_r _ [64, 9, 65, 11, 10, 66, 8, 67, 68, 6, 69, 201, 202, 203, 204, 205, 206, 207] (by decide +kernel) (by decide +kernel)
set_option maxRecDepth 20000 in
theorem gX3_readHouse_X7_advance : GoodIn wsX3_readHouse (wsV RX3 23 RX7 yX7_advance wsX7_advance) := goodIn_app (goodIn_of _ (by decide +kernel)) ggX3_readHouse_X7_advance
set_option maxRecDepth 20000 in
theorem ggX3_readHouse_X7_numberCode : GoodIn wsX3_readHouse wsX7_numberCode := goodIn_r _ [73, 8, 66, 201, 202, 203, 204, 205, 206, 207] (by decide +kernel) (by decide +kernel)
set_option maxRecDepth 20000 in
theorem gX3_readHouse_X7_numberCode : GoodIn wsX3_readHouse (wsV RX3 26 RX7 yX7_numberCode wsX7_numberCode) := goodIn_app (goodIn_of _ (by decide +kernel)) ggX3_readHouse_X7_numberCode
set_option maxRecDepth 20000 in
theorem ggX3_readHouse_X2_begin : GoodIn wsX3_readHouse wsX2_begin := goodIn_r _ [78, 79, 80, 81, 82, 83, 84, 85, 86, 87, 88, 89, 90, 91, 92, 93, 208, 209, 210, 211, 212, 213, 214, 215, 216, 217, 218, 219, 220, 221, 222, 223, 224, 225, 226] (by decide +kernel) (by decide +kernel)
set_option maxRecDepth 20000 in
theorem gX3_readHouse_X2_begin : GoodIn wsX3_readHouse (wsV RX3 34 RX2 yX2_begin wsX2_begin) := goodIn_app (goodIn_of _ (by decide +kernel)) ggX3_readHouse_X2_begin
set_option maxRecDepth 20000 in
theorem ggX3_readHouse_X3_readSemicolon : GoodIn wsX3_readHouse wsX3_readSemicolon := goodIn_r _ [98, 1, 99, 100, 101, 6, 102, 8, 10, 11, 61, 62, 63, 64, 9, 65, 66, 67, 68, 69, 200, 201, 202, 203, 204, 205, 206, 207] (by decide +kernel) (by decide +kernel)
set_option maxRecDepth 20000 in
theorem gX3_readHouse_X3_readSemicolon : GoodIn wsX3_readHouse (wsV RX3 40 RX3 yX3_readSemicolon wsX3_readSemicolon) := goodIn_app (goodIn_of _ (by decide +kernel)) ggX3_readHouse_X3_readSemicolon
set_option maxRecDepth 20000 in
theorem ggX3_readHouse_X7_isEnd : GoodIn wsX3_readHouse wsX7_isEnd := goodIn_r _ [106, 8, 201, 202, 203, 204, 205, 206, 207] (by decide +kernel) (by decide +kernel)
set_option maxRecDepth 20000 in
theorem gX3_readHouse_X7_isEnd : GoodIn wsX3_readHouse (wsV RX3 44 RX7 yX7_isEnd wsX7_isEnd) := goodIn_app (goodIn_of _ (by decide +kernel)) ggX3_readHouse_X7_isEnd
set_option maxRecDepth 20000 in
theorem ggX3_readHouse_X3_readClause : GoodIn wsX3_readHouse wsX3_readClause := goodIn_r _ [110, 1, 111, 112, 3, 4, 5, 6, 7, 8, 9, 10, 11, 12, 13, 14, 15, 16, 17, 18, 19, 20, 21, 22, 23, 24, 25, 26, 27, 28, 29, 30, 31, 32, 33, 34, 35, 36, 37, 38, 39, 40, 41, 42, 43, 44, 45, 46, 47, 48, 49, 50, 51, 52, 53, 54, 55, 56, 57, 58, 59, 60, 113, 114, 115, 97, 116, 117, 2, 61, 62, 63, 64, 65, 66, 67, 68, 69, 70, 71, 72, 73, 118, 119, 120, 77, 121, 80, 122, 123, 124, 125, 126, 127, 83, 84, 90, 91, 92, 93, 128, 129, 130, 131, 132, 133, 134, 135, 136, 137, 138, 139, 140, 141, 142, 79, 94, 95, 96, 98, 99, 100, 101, 102, 143, 144, 145, 146, 147, 148, 149, 150, 151, 152, 153, 154, 155, 156, 81, 157, 158, 159, 160, 161, 162, 163, 164, 165, 166, 167, 168, 169, 170, 171, 172, 173, 174, 175, 176, 177, 178, 179, 180, 181, 182, 183, 184, 185, 186, 187, 188, 189, 103, 104, 105, 106, 190, 191, 192, 193, 194, 195, 196, 197, 198, 199, 200, 208, 209, 210, 211, 212, 213, 214, 215, 216, 217, 218, 219, 220, 221, 222, 223, 224, 225, 226, 201, 202, 203, 204, 205, 206, 207] (by decide +kernel) (by decide +kernel)
set_option maxRecDepth 20000 in
theorem gX3_readHouse_X3_readClause : GoodIn wsX3_readHouse (wsV RX3 48 RX3 yX3_readClause wsX3_readClause) := goodIn_app (goodIn_of _ (by decide +kernel)) ggX3_readHouse_X3_readClause
theorem dX3_readHouse_0 : decode cX3_readHouse 0 = .ok (.aload_n 0, 1) := by decide +kernel
theorem dX3_readHouse_1 : decode cX3_readHouse 1 = .ok (.getfield 9, 3) := by decide +kernel
theorem dX3_readHouse_4 : decode cX3_readHouse 4 = .ok (.ldc 15, 2) := by decide +kernel
theorem dX3_readHouse_6 : decode cX3_readHouse 6 = .ok (.invokevirtual 17, 3) := by decide +kernel
theorem dX3_readHouse_9 : decode cX3_readHouse 9 = .ok (.ifCond .ne 5, 3) := by decide +kernel
theorem dX3_readHouse_12 : decode cX3_readHouse 12 = .ok (.iconst 1, 1) := by decide +kernel
theorem dX3_readHouse_13 : decode cX3_readHouse 13 = .ok (.ireturn, 1) := by decide +kernel
theorem dX3_readHouse_14 : decode cX3_readHouse 14 = .ok (.aload_n 0, 1) := by decide +kernel
theorem dX3_readHouse_15 : decode cX3_readHouse 15 = .ok (.getfield 9, 3) := by decide +kernel
theorem dX3_readHouse_18 : decode cX3_readHouse 18 = .ok (.invokevirtual 23, 3) := by decide +kernel
theorem dX3_readHouse_21 : decode cX3_readHouse 21 = .ok (.aload_n 0, 1) := by decide +kernel
theorem dX3_readHouse_22 : decode cX3_readHouse 22 = .ok (.getfield 9, 3) := by decide +kernel
theorem dX3_readHouse_25 : decode cX3_readHouse 25 = .ok (.iconst 1, 1) := by decide +kernel
theorem dX3_readHouse_26 : decode cX3_readHouse 26 = .ok (.bipush 12, 2) := by decide +kernel
theorem dX3_readHouse_28 : decode cX3_readHouse 28 = .ok (.invokevirtual 26, 3) := by decide +kernel
theorem dX3_readHouse_31 : decode cX3_readHouse 31 = .ok (.istore_n 2, 1) := by decide +kernel
theorem dX3_readHouse_32 : decode cX3_readHouse 32 = .ok (.iload_n 2, 1) := by decide +kernel
theorem dX3_readHouse_33 : decode cX3_readHouse 33 = .ok (.ifCond .eq 5, 3) := by decide +kernel
theorem dX3_readHouse_36 : decode cX3_readHouse 36 = .ok (.iload_n 2, 1) := by decide +kernel
theorem dX3_readHouse_37 : decode cX3_readHouse 37 = .ok (.ireturn, 1) := by decide +kernel
theorem dX3_readHouse_38 : decode cX3_readHouse 38 = .ok (.aload_n 1, 1) := by decide +kernel
theorem dX3_readHouse_39 : decode cX3_readHouse 39 = .ok (.aload_n 0, 1) := by decide +kernel
theorem dX3_readHouse_40 : decode cX3_readHouse 40 = .ok (.getfield 9, 3) := by decide +kernel
theorem dX3_readHouse_43 : decode cX3_readHouse 43 = .ok (.getfield 30, 3) := by decide +kernel
theorem dX3_readHouse_46 : decode cX3_readHouse 46 = .ok (.invokevirtual 34, 3) := by decide +kernel
theorem dX3_readHouse_49 : decode cX3_readHouse 49 = .ok (.aload_n 0, 1) := by decide +kernel
theorem dX3_readHouse_50 : decode cX3_readHouse 50 = .ok (.getfield 9, 3) := by decide +kernel
theorem dX3_readHouse_53 : decode cX3_readHouse 53 = .ok (.invokevirtual 23, 3) := by decide +kernel
theorem dX3_readHouse_56 : decode cX3_readHouse 56 = .ok (.aload_n 0, 1) := by decide +kernel
theorem dX3_readHouse_57 : decode cX3_readHouse 57 = .ok (.invokevirtual 40, 3) := by decide +kernel
theorem dX3_readHouse_60 : decode cX3_readHouse 60 = .ok (.istore_n 2, 1) := by decide +kernel
theorem dX3_readHouse_61 : decode cX3_readHouse 61 = .ok (.iconst 0, 1) := by decide +kernel
theorem dX3_readHouse_62 : decode cX3_readHouse 62 = .ok (.istore_n 3, 1) := by decide +kernel
theorem dX3_readHouse_63 : decode cX3_readHouse 63 = .ok (.iload_n 3, 1) := by decide +kernel
theorem dX3_readHouse_64 : decode cX3_readHouse 64 = .ok (.sipush 600, 3) := by decide +kernel
theorem dX3_readHouse_67 : decode cX3_readHouse 67 = .ok (.if_icmp .ge 29, 3) := by decide +kernel
theorem dX3_readHouse_70 : decode cX3_readHouse 70 = .ok (.iload_n 2, 1) := by decide +kernel
theorem dX3_readHouse_71 : decode cX3_readHouse 71 = .ok (.ifCond .ne 25, 3) := by decide +kernel
theorem dX3_readHouse_74 : decode cX3_readHouse 74 = .ok (.aload_n 0, 1) := by decide +kernel
theorem dX3_readHouse_75 : decode cX3_readHouse 75 = .ok (.getfield 9, 3) := by decide +kernel
theorem dX3_readHouse_78 : decode cX3_readHouse 78 = .ok (.invokevirtual 44, 3) := by decide +kernel
theorem dX3_readHouse_81 : decode cX3_readHouse 81 = .ok (.ifCond .ne 15, 3) := by decide +kernel
theorem dX3_readHouse_84 : decode cX3_readHouse 84 = .ok (.aload_n 0, 1) := by decide +kernel
theorem dX3_readHouse_85 : decode cX3_readHouse 85 = .ok (.aload_n 1, 1) := by decide +kernel
theorem dX3_readHouse_86 : decode cX3_readHouse 86 = .ok (.invokevirtual 48, 3) := by decide +kernel
theorem dX3_readHouse_89 : decode cX3_readHouse 89 = .ok (.istore_n 2, 1) := by decide +kernel
theorem dX3_readHouse_90 : decode cX3_readHouse 90 = .ok (.iinc 3 1, 3) := by decide +kernel
theorem dX3_readHouse_93 : decode cX3_readHouse 93 = .ok (.goto (-30), 3) := by decide +kernel
theorem dX3_readHouse_96 : decode cX3_readHouse 96 = .ok (.iload_n 2, 1) := by decide +kernel
theorem dX3_readHouse_97 : decode cX3_readHouse 97 = .ok (.ireturn, 1) := by decide +kernel
set_option maxRecDepth 20000 in
theorem ggX3_readChange_X7_isWord : GoodIn wsX3_readChange wsX7_isWord := goodIn_r _ [8, 9, 10, 11, 12, 13, 14, 15, 16, 17, 18, 19, 20, 21, 22, 23, 24, 25, 26, 27, 28, 29, 30, 31, 32, 33, 34, 35, 36, 37, 38, 39, 40, 41, 42, 43, 44, 45, 46, 47, 48, 49, 50, 51, 52, 53, 54, 55, 56, 57, 58, 59, 60, 61, 163, 164, 165, 166, 167, 168, 169] (by decide +kernel) (by decide +kernel)
set_option maxRecDepth 20000 in
theorem gX3_readChange_X7_isWord : GoodIn wsX3_readChange (wsV RX3 17 RX7 yX7_isWord wsX7_isWord) := goodIn_app (goodIn_of _ (by decide +kernel)) ggX3_readChange_X7_isWord
set_option maxRecDepth 20000 in
theorem ggX3_readChange_X7_advance : GoodIn wsX3_readChange wsX7_advance := goodIn_r _ [65, 10, 66, 12, 11, 67, 9, 68, 69, 7, 70, 163, 164, 165, 166, 167, 168, 169] (by decide +kernel) (by decide +kernel)
set_option maxRecDepth 20000 in
theorem gX3_readChange_X7_advance : GoodIn wsX3_readChange (wsV RX3 23 RX7 yX7_advance wsX7_advance) := goodIn_app (goodIn_of _ (by decide +kernel)) ggX3_readChange_X7_advance
set_option maxRecDepth 20000 in
theorem ggX3_readChange_X7_numberCode : GoodIn wsX3_readChange wsX7_numberCode := goodIn_r _ [74, 9, 67, 163, 164, 165, 166, 167, 168, 169] (by decide +kernel) (by decide +kernel)
set_option maxRecDepth 20000 in
theorem gX3_readChange_X7_numberCode : GoodIn wsX3_readChange (wsV RX3 26 RX7 yX7_numberCode wsX7_numberCode) := goodIn_app (goodIn_of _ (by decide +kernel)) ggX3_readChange_X7_numberCode
set_option maxRecDepth 20000 in
theorem ggX3_readChange_X3_readWalk : GoodIn wsX3_readChange wsX3_readWalk := goodIn_r _ [79, 1, 80, 3, 81, 82, 83, 84, 85, 86, 87, 88, 89, 90, 91, 92, 93, 94, 95, 96, 71, 72, 73, 7, 74, 9, 67, 97, 98, 99, 100, 101, 102, 103, 78, 104, 105, 106, 107, 108, 109, 110, 111, 112, 113, 114, 115, 116, 117, 118, 119, 120, 121, 122, 123, 124, 125, 126, 62, 63, 64, 65, 10, 66, 12, 11, 68, 69, 70, 127, 128, 129, 130, 131, 132, 133, 134, 135, 136, 137, 138, 4, 5, 6, 8, 13, 14, 15, 16, 17, 18, 19, 20, 21, 22, 23, 24, 25, 26, 27, 28, 29, 30, 31, 32, 33, 34, 35, 36, 37, 38, 39, 40, 41, 42, 43, 44, 45, 46, 47, 48, 49, 50, 51, 52, 53, 54, 55, 56, 57, 58, 59, 60, 61, 139, 140, 141, 142, 143, 144, 145, 146, 147, 148, 149, 150, 151, 152, 153, 154, 155, 156, 157, 158, 159, 160, 161, 162, 163, 164, 165, 166, 167, 168, 169] (by decide +kernel) (by decide +kernel)
set_option maxRecDepth 20000 in
theorem gX3_readChange_X3_readWalk : GoodIn wsX3_readChange (wsV RX3 57 RX3 yX3_readWalk wsX3_readWalk) := goodIn_app (goodIn_of _ (by decide +kernel)) ggX3_readChange_X3_readWalk
set_option maxRecDepth 20000 in
theorem ggX3_readChange_X7_isEnd : GoodIn wsX3_readChange wsX7_isEnd := goodIn_r _ [134, 9, 163, 164, 165, 166, 167, 168, 169] (by decide +kernel) (by decide +kernel)
set_option maxRecDepth 20000 in
theorem gX3_readChange_X7_isEnd : GoodIn wsX3_readChange (wsV RX3 44 RX7 yX7_isEnd wsX7_isEnd) := goodIn_app (goodIn_of _ (by decide +kernel)) ggX3_readChange_X7_isEnd
theorem dX3_readChange_0 : decode cX3_readChange 0 = .ok (.aload_n 0, 1) := by decide +kernel
theorem dX3_readChange_1 : decode cX3_readChange 1 = .ok (.getfield 9, 3) := by decide +kernel
theorem dX3_readChange_4 : decode cX3_readChange 4 = .ok (.ldc 52, 2) := by decide +kernel
theorem dX3_readChange_6 : decode cX3_readChange 6 = .ok (.invokevirtual 17, 3) := by decide +kernel
theorem dX3_readChange_9 : decode cX3_readChange 9 = .ok (.ifCond .ne 5, 3) := by decide +kernel
theorem dX3_readChange_12 : decode cX3_readChange 12 = .ok (.iconst 1, 1) := by decide +kernel
theorem dX3_readChange_13 : decode cX3_readChange 13 = .ok (.ireturn, 1) := by decide +kernel
theorem dX3_readChange_14 : decode cX3_readChange 14 = .ok (.aload_n 0, 1) := by decide +kernel
theorem dX3_readChange_15 : decode cX3_readChange 15 = .ok (.getfield 9, 3) := by decide +kernel
theorem dX3_readChange_18 : decode cX3_readChange 18 = .ok (.invokevirtual 23, 3) := by decide +kernel
theorem dX3_readChange_21 : decode cX3_readChange 21 = .ok (.aload_n 0, 1) := by decide +kernel
theorem dX3_readChange_22 : decode cX3_readChange 22 = .ok (.getfield 9, 3) := by decide +kernel
theorem dX3_readChange_25 : decode cX3_readChange 25 = .ok (.iconst 0, 1) := by decide +kernel
theorem dX3_readChange_26 : decode cX3_readChange 26 = .ok (.aload_n 1, 1) := by decide +kernel
theorem dX3_readChange_27 : decode cX3_readChange 27 = .ok (.getfield 54, 3) := by decide +kernel
theorem dX3_readChange_30 : decode cX3_readChange 30 = .ok (.iconst 1, 1) := by decide +kernel
theorem dX3_readChange_31 : decode cX3_readChange 31 = .ok (.isub, 1) := by decide +kernel
theorem dX3_readChange_32 : decode cX3_readChange 32 = .ok (.invokevirtual 26, 3) := by decide +kernel
theorem dX3_readChange_35 : decode cX3_readChange 35 = .ok (.istore_n 2, 1) := by decide +kernel
theorem dX3_readChange_36 : decode cX3_readChange 36 = .ok (.iload_n 2, 1) := by decide +kernel
theorem dX3_readChange_37 : decode cX3_readChange 37 = .ok (.ifCond .eq 5, 3) := by decide +kernel
theorem dX3_readChange_40 : decode cX3_readChange 40 = .ok (.iload_n 2, 1) := by decide +kernel
theorem dX3_readChange_41 : decode cX3_readChange 41 = .ok (.ireturn, 1) := by decide +kernel
theorem dX3_readChange_42 : decode cX3_readChange 42 = .ok (.aload_n 0, 1) := by decide +kernel
theorem dX3_readChange_43 : decode cX3_readChange 43 = .ok (.getfield 9, 3) := by decide +kernel
theorem dX3_readChange_46 : decode cX3_readChange 46 = .ok (.getfield 30, 3) := by decide +kernel
theorem dX3_readChange_49 : decode cX3_readChange 49 = .ok (.istore_n 3, 1) := by decide +kernel
theorem dX3_readChange_50 : decode cX3_readChange 50 = .ok (.aload_n 0, 1) := by decide +kernel
theorem dX3_readChange_51 : decode cX3_readChange 51 = .ok (.getfield 9, 3) := by decide +kernel
theorem dX3_readChange_54 : decode cX3_readChange 54 = .ok (.invokevirtual 23, 3) := by decide +kernel
theorem dX3_readChange_57 : decode cX3_readChange 57 = .ok (.aload_n 0, 1) := by decide +kernel
theorem dX3_readChange_58 : decode cX3_readChange 58 = .ok (.aload_n 1, 1) := by decide +kernel
theorem dX3_readChange_59 : decode cX3_readChange 59 = .ok (.iload_n 3, 1) := by decide +kernel
theorem dX3_readChange_60 : decode cX3_readChange 60 = .ok (.iconst 1, 1) := by decide +kernel
theorem dX3_readChange_61 : decode cX3_readChange 61 = .ok (.invokevirtual 57, 3) := by decide +kernel
theorem dX3_readChange_64 : decode cX3_readChange 64 = .ok (.istore_n 2, 1) := by decide +kernel
theorem dX3_readChange_65 : decode cX3_readChange 65 = .ok (.iload_n 2, 1) := by decide +kernel
theorem dX3_readChange_66 : decode cX3_readChange 66 = .ok (.ifCond .eq 5, 3) := by decide +kernel
theorem dX3_readChange_69 : decode cX3_readChange 69 = .ok (.iload_n 2, 1) := by decide +kernel
theorem dX3_readChange_70 : decode cX3_readChange 70 = .ok (.ireturn, 1) := by decide +kernel
theorem dX3_readChange_71 : decode cX3_readChange 71 = .ok (.aload_n 0, 1) := by decide +kernel
theorem dX3_readChange_72 : decode cX3_readChange 72 = .ok (.getfield 9, 3) := by decide +kernel
theorem dX3_readChange_75 : decode cX3_readChange 75 = .ok (.invokevirtual 44, 3) := by decide +kernel
theorem dX3_readChange_78 : decode cX3_readChange 78 = .ok (.ifCond .eq 7, 3) := by decide +kernel
theorem dX3_readChange_81 : decode cX3_readChange 81 = .ok (.iconst 0, 1) := by decide +kernel
theorem dX3_readChange_82 : decode cX3_readChange 82 = .ok (.goto 4, 3) := by decide +kernel
theorem dX3_readChange_85 : decode cX3_readChange 85 = .ok (.iconst 1, 1) := by decide +kernel
theorem dX3_readChange_86 : decode cX3_readChange 86 = .ok (.ireturn, 1) := by decide +kernel
set_option maxRecDepth 20000 in
theorem ggX3_readClause_X7_isWord : GoodIn wsX3_readClause wsX7_isWord := goodIn_r _ [8, 9, 10, 11, 12, 13, 14, 15, 16, 17, 18, 19, 20, 21, 22, 23, 24, 25, 26, 27, 28, 29, 30, 31, 32, 33, 34, 35, 36, 37, 38, 39, 40, 41, 42, 43, 44, 45, 46, 47, 48, 49, 50, 51, 52, 53, 54, 55, 56, 57, 58, 59, 60, 61, 206, 207, 208, 209, 210, 211, 212] (by decide +kernel) (by decide +kernel)
set_option maxRecDepth 20000 in
theorem gX3_readClause_X7_isWord : GoodIn wsX3_readClause (wsV RX3 17 RX7 yX7_isWord wsX7_isWord) := goodIn_app (goodIn_of _ (by decide +kernel)) ggX3_readClause_X7_isWord
set_option maxRecDepth 20000 in
theorem ggX3_readClause_X3_readDoor : GoodIn wsX3_readClause wsX3_readDoor := goodIn_r _ [66, 1, 67, 68, 69, 70, 71, 7, 72, 10, 73, 12, 11, 74, 9, 75, 76, 77, 78, 79, 80, 81, 4, 5, 6, 8, 13, 14, 15, 16, 17, 18, 19, 20, 21, 22, 23, 24, 25, 26, 27, 28, 29, 30, 31, 32, 33, 34, 35, 36, 37, 38, 39, 40, 41, 42, 43, 44, 45, 46, 47, 48, 49, 50, 51, 52, 53, 54, 55, 56, 57, 58, 59, 60, 61, 82, 83, 84, 85, 86, 87, 88, 89, 90, 91, 92, 93, 94, 95, 96, 97, 98, 99, 100, 101, 102, 103, 104, 105, 106, 107, 108, 109, 110, 111, 112, 113, 114, 115, 116, 117, 118, 65, 119, 120, 121, 122, 123, 186, 187, 188, 189, 190, 191, 192, 193, 194, 195, 196, 197, 198, 199, 200, 201, 202, 203, 204, 205, 206, 207, 208, 209, 210, 211, 212] (by decide +kernel) (by decide +kernel)
set_option maxRecDepth 20000 in
theorem gX3_readClause_X3_readDoor : GoodIn wsX3_readClause (wsV RX3 66 RX3 yX3_readDoor wsX3_readDoor) := goodIn_app (goodIn_of _ (by decide +kernel)) ggX3_readClause_X3_readDoor
set_option maxRecDepth 20000 in
theorem ggX3_readClause_X3_readGuard : GoodIn wsX3_readClause wsX3_readGuard := goodIn_r _ [127, 1, 3, 69, 70, 71, 7, 72, 10, 73, 12, 11, 74, 9, 75, 76, 77, 128, 129, 130, 65, 131, 67, 68, 132, 133, 134, 135, 136, 85, 137, 138, 139, 140, 141, 142, 143, 144, 145, 146, 78, 79, 80, 81, 147, 148, 149, 150, 151, 152, 153, 154, 155, 156, 157, 158, 159, 160, 161, 162, 163, 95, 111, 112, 113, 114, 115, 104, 105, 106, 164, 165, 166, 167, 168, 169, 170, 171, 172, 173, 174, 175, 120, 121, 122, 123, 4, 5, 6, 8, 13, 14, 15, 16, 17, 18, 19, 20, 21, 22, 23, 24, 25, 26, 27, 28, 29, 30, 31, 32, 33, 34, 35, 36, 37, 38, 39, 40, 41, 42, 43, 44, 45, 46, 47, 48, 49, 50, 51, 52, 53, 54, 55, 56, 57, 58, 59, 60, 61, 176, 177, 178, 179, 116, 117, 118, 119, 186, 187, 188, 189, 190, 191, 192, 193, 194, 195, 196, 197, 198, 199, 200, 201, 202, 203, 204, 205, 206, 207, 208, 209, 210, 211, 212] (by decide +kernel) (by decide +kernel)
set_option maxRecDepth 20000 in
theorem gX3_readClause_X3_readGuard : GoodIn wsX3_readClause (wsV RX3 71 RX3 yX3_readGuard wsX3_readGuard) := goodIn_app (goodIn_of _ (by decide +kernel)) ggX3_readClause_X3_readGuard
set_option maxRecDepth 20000 in
theorem ggX3_readClause_X3_readLimit : GoodIn wsX3_readClause wsX3_readLimit := goodIn_r _ [183, 1, 67, 68, 184, 69, 70, 71, 7, 72, 10, 73, 12, 11, 74, 9, 75, 76, 77, 78, 79, 80, 81, 185, 112, 113, 85, 114, 115, 116, 117, 118, 65, 119, 120, 121, 122, 123, 186, 187, 188, 189, 190, 191, 192, 193, 194, 195, 196, 197, 198, 199, 200, 201, 202, 203, 204, 205, 206, 207, 208, 209, 210, 211, 212] (by decide +kernel) (by decide +kernel)
set_option maxRecDepth 20000 in
theorem gX3_readClause_X3_readLimit : GoodIn wsX3_readClause (wsV RX3 76 RX3 yX3_readLimit wsX3_readLimit) := goodIn_app (goodIn_of _ (by decide +kernel)) ggX3_readClause_X3_readLimit
theorem dX3_readClause_0 : decode cX3_readClause 0 = .ok (.aload_n 0, 1) := by decide +kernel
theorem dX3_readClause_1 : decode cX3_readClause 1 = .ok (.getfield 9, 3) := by decide +kernel
theorem dX3_readClause_4 : decode cX3_readClause 4 = .ok (.ldc 61, 2) := by decide +kernel
theorem dX3_readClause_6 : decode cX3_readClause 6 = .ok (.invokevirtual 17, 3) := by decide +kernel
theorem dX3_readClause_9 : decode cX3_readClause 9 = .ok (.ifCond .eq 22, 3) := by decide +kernel
theorem dX3_readClause_12 : decode cX3_readClause 12 = .ok (.aload_n 1, 1) := by decide +kernel
theorem dX3_readClause_13 : decode cX3_readClause 13 = .ok (.getfield 63, 3) := by decide +kernel
theorem dX3_readClause_16 : decode cX3_readClause 16 = .ok (.bipush 20, 2) := by decide +kernel
theorem dX3_readClause_18 : decode cX3_readClause 18 = .ok (.if_icmp .ge 11, 3) := by decide +kernel
theorem dX3_readClause_21 : decode cX3_readClause 21 = .ok (.aload_n 0, 1) := by decide +kernel
theorem dX3_readClause_22 : decode cX3_readClause 22 = .ok (.aload_n 1, 1) := by decide +kernel
theorem dX3_readClause_23 : decode cX3_readClause 23 = .ok (.invokevirtual 66, 3) := by decide +kernel
theorem dX3_readClause_26 : decode cX3_readClause 26 = .ok (.goto 4, 3) := by decide +kernel
theorem dX3_readClause_29 : decode cX3_readClause 29 = .ok (.iconst 3, 1) := by decide +kernel
theorem dX3_readClause_30 : decode cX3_readClause 30 = .ok (.ireturn, 1) := by decide +kernel
theorem dX3_readClause_31 : decode cX3_readClause 31 = .ok (.aload_n 0, 1) := by decide +kernel
theorem dX3_readClause_32 : decode cX3_readClause 32 = .ok (.getfield 9, 3) := by decide +kernel
theorem dX3_readClause_35 : decode cX3_readClause 35 = .ok (.ldc 69, 2) := by decide +kernel
theorem dX3_readClause_37 : decode cX3_readClause 37 = .ok (.invokevirtual 17, 3) := by decide +kernel
theorem dX3_readClause_40 : decode cX3_readClause 40 = .ok (.ifCond .eq 21, 3) := by decide +kernel
theorem dX3_readClause_43 : decode cX3_readClause 43 = .ok (.aload_n 1, 1) := by decide +kernel
theorem dX3_readClause_44 : decode cX3_readClause 44 = .ok (.getfield 54, 3) := by decide +kernel
theorem dX3_readClause_47 : decode cX3_readClause 47 = .ok (.iconst 4, 1) := by decide +kernel
theorem dX3_readClause_48 : decode cX3_readClause 48 = .ok (.if_icmp .ge 11, 3) := by decide +kernel
theorem dX3_readClause_51 : decode cX3_readClause 51 = .ok (.aload_n 0, 1) := by decide +kernel
theorem dX3_readClause_52 : decode cX3_readClause 52 = .ok (.aload_n 1, 1) := by decide +kernel
theorem dX3_readClause_53 : decode cX3_readClause 53 = .ok (.invokevirtual 71, 3) := by decide +kernel
theorem dX3_readClause_56 : decode cX3_readClause 56 = .ok (.goto 4, 3) := by decide +kernel
theorem dX3_readClause_59 : decode cX3_readClause 59 = .ok (.iconst 3, 1) := by decide +kernel
theorem dX3_readClause_60 : decode cX3_readClause 60 = .ok (.ireturn, 1) := by decide +kernel
theorem dX3_readClause_61 : decode cX3_readClause 61 = .ok (.aload_n 0, 1) := by decide +kernel
theorem dX3_readClause_62 : decode cX3_readClause 62 = .ok (.getfield 9, 3) := by decide +kernel
theorem dX3_readClause_65 : decode cX3_readClause 65 = .ok (.ldc 74, 2) := by decide +kernel
theorem dX3_readClause_67 : decode cX3_readClause 67 = .ok (.invokevirtual 17, 3) := by decide +kernel
theorem dX3_readClause_70 : decode cX3_readClause 70 = .ok (.ifCond .eq 11, 3) := by decide +kernel
theorem dX3_readClause_73 : decode cX3_readClause 73 = .ok (.aload_n 0, 1) := by decide +kernel
theorem dX3_readClause_74 : decode cX3_readClause 74 = .ok (.aload_n 1, 1) := by decide +kernel
theorem dX3_readClause_75 : decode cX3_readClause 75 = .ok (.invokevirtual 76, 3) := by decide +kernel
theorem dX3_readClause_78 : decode cX3_readClause 78 = .ok (.goto 4, 3) := by decide +kernel
theorem dX3_readClause_81 : decode cX3_readClause 81 = .ok (.iconst 1, 1) := by decide +kernel
theorem dX3_readClause_82 : decode cX3_readClause 82 = .ok (.ireturn, 1) := by decide +kernel
set_option maxRecDepth 20000 in
theorem ggX3_readSemicolon_X7_isSign : GoodIn wsX3_readSemicolon wsX7_isSign := goodIn_r _ [6, 7, 8, 9, 21, 22, 23, 24, 25, 26, 27] (by decide +kernel) (by decide +kernel)
set_option maxRecDepth 20000 in
theorem gX3_readSemicolon_X7_isSign : GoodIn wsX3_readSemicolon (wsV RX3 79 RX7 yX7_isSign wsX7_isSign) := goodIn_app (goodIn_of _ (by decide +kernel)) ggX3_readSemicolon_X7_isSign
set_option maxRecDepth 20000 in
theorem ggX3_readSemicolon_X7_advance : GoodIn wsX3_readSemicolon wsX7_advance := goodIn_r _ [13, 14, 15, 9, 8, 16, 7, 17, 18, 5, 19, 21, 22, 23, 24, 25, 26, 27] (by decide +kernel) (by decide +kernel)
set_option maxRecDepth 20000 in
theorem gX3_readSemicolon_X7_advance : GoodIn wsX3_readSemicolon (wsV RX3 23 RX7 yX7_advance wsX7_advance) := goodIn_app (goodIn_of _ (by decide +kernel)) ggX3_readSemicolon_X7_advance
theorem dX3_readSemicolon_0 : decode cX3_readSemicolon 0 = .ok (.aload_n 0, 1) := by decide +kernel
theorem dX3_readSemicolon_1 : decode cX3_readSemicolon 1 = .ok (.getfield 9, 3) := by decide +kernel
theorem dX3_readSemicolon_4 : decode cX3_readSemicolon 4 = .ok (.bipush 59, 2) := by decide +kernel
theorem dX3_readSemicolon_6 : decode cX3_readSemicolon 6 = .ok (.invokevirtual 79, 3) := by decide +kernel
theorem dX3_readSemicolon_9 : decode cX3_readSemicolon 9 = .ok (.ifCond .ne 5, 3) := by decide +kernel
theorem dX3_readSemicolon_12 : decode cX3_readSemicolon 12 = .ok (.iconst 1, 1) := by decide +kernel
theorem dX3_readSemicolon_13 : decode cX3_readSemicolon 13 = .ok (.ireturn, 1) := by decide +kernel
theorem dX3_readSemicolon_14 : decode cX3_readSemicolon 14 = .ok (.aload_n 0, 1) := by decide +kernel
theorem dX3_readSemicolon_15 : decode cX3_readSemicolon 15 = .ok (.getfield 9, 3) := by decide +kernel
theorem dX3_readSemicolon_18 : decode cX3_readSemicolon 18 = .ok (.invokevirtual 23, 3) := by decide +kernel
theorem dX3_readSemicolon_21 : decode cX3_readSemicolon 21 = .ok (.iconst 0, 1) := by decide +kernel
theorem dX3_readSemicolon_22 : decode cX3_readSemicolon 22 = .ok (.ireturn, 1) := by decide +kernel
set_option maxRecDepth 20000 in
theorem ggX3_readDoor_X7_advance : GoodIn wsX3_readDoor wsX7_advance := goodIn_r _ [8, 9, 10, 11, 12, 13, 14, 15, 16, 7, 17, 138, 139, 140, 141, 142, 143, 144] (by decide +kernel) (by decide +kernel)
set_option maxRecDepth 20000 in
theorem gX3_readDoor_X7_advance : GoodIn wsX3_readDoor (wsV RX3 23 RX7 yX7_advance wsX7_advance) := goodIn_app (goodIn_of _ (by decide +kernel)) ggX3_readDoor_X7_advance
set_option maxRecDepth 20000 in
theorem ggX3_readDoor_X7_numberCode : GoodIn wsX3_readDoor wsX7_numberCode := goodIn_r _ [21, 14, 13, 138, 139, 140, 141, 142, 143, 144] (by decide +kernel) (by decide +kernel)
set_option maxRecDepth 20000 in
theorem gX3_readDoor_X7_numberCode : GoodIn wsX3_readDoor (wsV RX3 26 RX7 yX7_numberCode wsX7_numberCode) := goodIn_app (goodIn_of _ (by decide +kernel)) ggX3_readDoor_X7_numberCode
set_option maxRecDepth 20000 in
theorem ggX3_readDoor_X7_isWord : GoodIn wsX3_readDoor wsX7_isWord := goodIn_r _ [25, 14, 9, 12, 11, 26, 27, 28, 29, 30, 31, 32, 33, 34, 35, 36, 37, 38, 39, 40, 41, 42, 43, 44, 45, 46, 47, 48, 49, 50, 51, 52, 53, 54, 55, 56, 57, 58, 59, 60, 61, 62, 63, 64, 65, 66, 67, 68, 69, 70, 71, 72, 73, 74, 138, 139, 140, 141, 142, 143, 144] (by decide +kernel) (by decide +kernel)
set_option maxRecDepth 20000 in
theorem gX3_readDoor_X7_isWord : GoodIn wsX3_readDoor (wsV RX3 17 RX7 yX7_isWord wsX7_isWord) := goodIn_app (goodIn_of _ (by decide +kernel)) ggX3_readDoor_X7_isWord
set_option maxRecDepth 20000 in
theorem ggX3_readDoor_X2_addDoor : GoodIn wsX3_readDoor wsX2_addDoor := goodIn_r _ [79, 80, 81, 82, 83, 84, 85, 78, 86, 87, 88, 89, 90, 91, 92, 93, 94, 95, 96, 97, 98, 99, 100, 101, 102, 103, 104, 105, 106, 107, 108, 119, 120, 121, 122, 123, 124, 125, 126, 127, 128, 129, 130, 131, 132, 133, 134, 135, 136, 137] (by decide +kernel) (by decide +kernel)
set_option maxRecDepth 20000 in
theorem gX3_readDoor_X2_addDoor : GoodIn wsX3_readDoor (wsV RX3 88 RX2 yX2_addDoor wsX2_addDoor) := goodIn_app (goodIn_of _ (by decide +kernel)) ggX3_readDoor_X2_addDoor
set_option maxRecDepth 20000 in
theorem ggX3_readDoor_X3_readSemicolon : GoodIn wsX3_readDoor wsX3_readSemicolon := goodIn_r _ [113, 1, 114, 115, 116, 7, 117, 14, 12, 11, 4, 5, 6, 8, 9, 10, 13, 15, 16, 17, 118, 138, 139, 140, 141, 142, 143, 144] (by decide +kernel) (by decide +kernel)
set_option maxRecDepth 20000 in
theorem gX3_readDoor_X3_readSemicolon : GoodIn wsX3_readDoor (wsV RX3 40 RX3 yX3_readSemicolon wsX3_readSemicolon) := goodIn_app (goodIn_of _ (by decide +kernel)) ggX3_readDoor_X3_readSemicolon
theorem dX3_readDoor_0 : decode cX3_readDoor 0 = .ok (.aload_n 0, 1) := by decide +kernel
theorem dX3_readDoor_1 : decode cX3_readDoor 1 = .ok (.getfield 9, 3) := by decide +kernel
theorem dX3_readDoor_4 : decode cX3_readDoor 4 = .ok (.invokevirtual 23, 3) := by decide +kernel
theorem dX3_readDoor_7 : decode cX3_readDoor 7 = .ok (.aload_n 0, 1) := by decide +kernel
theorem dX3_readDoor_8 : decode cX3_readDoor 8 = .ok (.getfield 9, 3) := by decide +kernel
theorem dX3_readDoor_11 : decode cX3_readDoor 11 = .ok (.iconst 0, 1) := by decide +kernel
theorem dX3_readDoor_12 : decode cX3_readDoor 12 = .ok (.aload_n 1, 1) := by decide +kernel
theorem dX3_readDoor_13 : decode cX3_readDoor 13 = .ok (.getfield 83, 3) := by decide +kernel
theorem dX3_readDoor_16 : decode cX3_readDoor 16 = .ok (.iconst 1, 1) := by decide +kernel
theorem dX3_readDoor_17 : decode cX3_readDoor 17 = .ok (.isub, 1) := by decide +kernel
theorem dX3_readDoor_18 : decode cX3_readDoor 18 = .ok (.invokevirtual 26, 3) := by decide +kernel
theorem dX3_readDoor_21 : decode cX3_readDoor 21 = .ok (.istore_n 2, 1) := by decide +kernel
theorem dX3_readDoor_22 : decode cX3_readDoor 22 = .ok (.iload_n 2, 1) := by decide +kernel
theorem dX3_readDoor_23 : decode cX3_readDoor 23 = .ok (.ifCond .eq 5, 3) := by decide +kernel
theorem dX3_readDoor_26 : decode cX3_readDoor 26 = .ok (.iload_n 2, 1) := by decide +kernel
theorem dX3_readDoor_27 : decode cX3_readDoor 27 = .ok (.ireturn, 1) := by decide +kernel
theorem dX3_readDoor_28 : decode cX3_readDoor 28 = .ok (.aload_n 0, 1) := by decide +kernel
theorem dX3_readDoor_29 : decode cX3_readDoor 29 = .ok (.getfield 9, 3) := by decide +kernel
theorem dX3_readDoor_32 : decode cX3_readDoor 32 = .ok (.getfield 30, 3) := by decide +kernel
theorem dX3_readDoor_35 : decode cX3_readDoor 35 = .ok (.istore_n 3, 1) := by decide +kernel
theorem dX3_readDoor_36 : decode cX3_readDoor 36 = .ok (.aload_n 0, 1) := by decide +kernel
theorem dX3_readDoor_37 : decode cX3_readDoor 37 = .ok (.getfield 9, 3) := by decide +kernel
theorem dX3_readDoor_40 : decode cX3_readDoor 40 = .ok (.invokevirtual 23, 3) := by decide +kernel
theorem dX3_readDoor_43 : decode cX3_readDoor 43 = .ok (.aload_n 0, 1) := by decide +kernel
theorem dX3_readDoor_44 : decode cX3_readDoor 44 = .ok (.getfield 9, 3) := by decide +kernel
theorem dX3_readDoor_47 : decode cX3_readDoor 47 = .ok (.iconst 0, 1) := by decide +kernel
theorem dX3_readDoor_48 : decode cX3_readDoor 48 = .ok (.aload_n 1, 1) := by decide +kernel
theorem dX3_readDoor_49 : decode cX3_readDoor 49 = .ok (.getfield 83, 3) := by decide +kernel
theorem dX3_readDoor_52 : decode cX3_readDoor 52 = .ok (.iconst 1, 1) := by decide +kernel
theorem dX3_readDoor_53 : decode cX3_readDoor 53 = .ok (.isub, 1) := by decide +kernel
theorem dX3_readDoor_54 : decode cX3_readDoor 54 = .ok (.invokevirtual 26, 3) := by decide +kernel
theorem dX3_readDoor_57 : decode cX3_readDoor 57 = .ok (.istore_n 2, 1) := by decide +kernel
theorem dX3_readDoor_58 : decode cX3_readDoor 58 = .ok (.iload_n 2, 1) := by decide +kernel
theorem dX3_readDoor_59 : decode cX3_readDoor 59 = .ok (.ifCond .eq 5, 3) := by decide +kernel
theorem dX3_readDoor_62 : decode cX3_readDoor 62 = .ok (.iload_n 2, 1) := by decide +kernel
theorem dX3_readDoor_63 : decode cX3_readDoor 63 = .ok (.ireturn, 1) := by decide +kernel
theorem dX3_readDoor_64 : decode cX3_readDoor 64 = .ok (.aload_n 0, 1) := by decide +kernel
theorem dX3_readDoor_65 : decode cX3_readDoor 65 = .ok (.getfield 9, 3) := by decide +kernel
theorem dX3_readDoor_68 : decode cX3_readDoor 68 = .ok (.getfield 30, 3) := by decide +kernel
theorem dX3_readDoor_71 : decode cX3_readDoor 71 = .ok (.istore 4, 2) := by decide +kernel
theorem dX3_readDoor_73 : decode cX3_readDoor 73 = .ok (.iload 4, 2) := by decide +kernel
theorem dX3_readDoor_75 : decode cX3_readDoor 75 = .ok (.iload_n 3, 1) := by decide +kernel
theorem dX3_readDoor_76 : decode cX3_readDoor 76 = .ok (.if_icmp .ne 5, 3) := by decide +kernel
theorem dX3_readDoor_79 : decode cX3_readDoor 79 = .ok (.iconst 4, 1) := by decide +kernel
theorem dX3_readDoor_80 : decode cX3_readDoor 80 = .ok (.ireturn, 1) := by decide +kernel
theorem dX3_readDoor_81 : decode cX3_readDoor 81 = .ok (.aload_n 0, 1) := by decide +kernel
theorem dX3_readDoor_82 : decode cX3_readDoor 82 = .ok (.getfield 9, 3) := by decide +kernel
theorem dX3_readDoor_85 : decode cX3_readDoor 85 = .ok (.invokevirtual 23, 3) := by decide +kernel
theorem dX3_readDoor_88 : decode cX3_readDoor 88 = .ok (.aload_n 0, 1) := by decide +kernel
theorem dX3_readDoor_89 : decode cX3_readDoor 89 = .ok (.getfield 9, 3) := by decide +kernel
theorem dX3_readDoor_92 : decode cX3_readDoor 92 = .ok (.ldc 86, 2) := by decide +kernel
theorem dX3_readDoor_94 : decode cX3_readDoor 94 = .ok (.invokevirtual 17, 3) := by decide +kernel
theorem dX3_readDoor_97 : decode cX3_readDoor 97 = .ok (.istore 5, 2) := by decide +kernel
theorem dX3_readDoor_99 : decode cX3_readDoor 99 = .ok (.iload 5, 2) := by decide +kernel
theorem dX3_readDoor_101 : decode cX3_readDoor 101 = .ok (.ifCond .eq 10, 3) := by decide +kernel
theorem dX3_readDoor_104 : decode cX3_readDoor 104 = .ok (.aload_n 0, 1) := by decide +kernel
theorem dX3_readDoor_105 : decode cX3_readDoor 105 = .ok (.getfield 9, 3) := by decide +kernel
theorem dX3_readDoor_108 : decode cX3_readDoor 108 = .ok (.invokevirtual 23, 3) := by decide +kernel
theorem dX3_readDoor_111 : decode cX3_readDoor 111 = .ok (.aload_n 1, 1) := by decide +kernel
theorem dX3_readDoor_112 : decode cX3_readDoor 112 = .ok (.iload_n 3, 1) := by decide +kernel
theorem dX3_readDoor_113 : decode cX3_readDoor 113 = .ok (.iload 4, 2) := by decide +kernel
theorem dX3_readDoor_115 : decode cX3_readDoor 115 = .ok (.iload 5, 2) := by decide +kernel
theorem dX3_readDoor_117 : decode cX3_readDoor 117 = .ok (.ifCond .ne 7, 3) := by decide +kernel
theorem dX3_readDoor_120 : decode cX3_readDoor 120 = .ok (.iconst 1, 1) := by decide +kernel
theorem dX3_readDoor_121 : decode cX3_readDoor 121 = .ok (.goto 4, 3) := by decide +kernel
theorem dX3_readDoor_124 : decode cX3_readDoor 124 = .ok (.iconst 0, 1) := by decide +kernel
theorem dX3_readDoor_125 : decode cX3_readDoor 125 = .ok (.invokevirtual 88, 3) := by decide +kernel
theorem dX3_readDoor_128 : decode cX3_readDoor 128 = .ok (.aload_n 0, 1) := by decide +kernel
theorem dX3_readDoor_129 : decode cX3_readDoor 129 = .ok (.invokevirtual 40, 3) := by decide +kernel
theorem dX3_readDoor_132 : decode cX3_readDoor 132 = .ok (.ireturn, 1) := by decide +kernel
set_option maxRecDepth 20000 in
theorem ggX3_readLimit_X7_advance : GoodIn wsX3_readLimit wsX7_advance := goodIn_r _ [9, 10, 11, 12, 13, 14, 15, 16, 17, 8, 18, 58, 59, 60, 61, 62, 63, 64] (by decide +kernel) (by decide +kernel)
set_option maxRecDepth 20000 in
theorem gX3_readLimit_X7_advance : GoodIn wsX3_readLimit (wsV RX3 23 RX7 yX7_advance wsX7_advance) := goodIn_app (goodIn_of _ (by decide +kernel)) ggX3_readLimit_X7_advance
set_option maxRecDepth 20000 in
theorem ggX3_readLimit_X7_numberCode : GoodIn wsX3_readLimit wsX7_numberCode := goodIn_r _ [22, 15, 14, 58, 59, 60, 61, 62, 63, 64] (by decide +kernel) (by decide +kernel)
set_option maxRecDepth 20000 in
theorem gX3_readLimit_X7_numberCode : GoodIn wsX3_readLimit (wsV RX3 26 RX7 yX7_numberCode wsX7_numberCode) := goodIn_app (goodIn_of _ (by decide +kernel)) ggX3_readLimit_X7_numberCode
set_option maxRecDepth 20000 in
theorem ggX3_readLimit_X2_hasRoom : GoodIn wsX3_readLimit wsX2_hasRoom := goodIn_r _ [27, 28, 39, 40, 41, 42, 43, 44, 45, 46, 47, 48, 49, 50, 51, 52, 53, 54, 55, 56, 57] (by decide +kernel) (by decide +kernel)
set_option maxRecDepth 20000 in
theorem gX3_readLimit_X2_hasRoom : GoodIn wsX3_readLimit (wsV RX3 92 RX2 yX2_hasRoom wsX2_hasRoom) := goodIn_app (goodIn_of _ (by decide +kernel)) ggX3_readLimit_X2_hasRoom
set_option maxRecDepth 20000 in
theorem ggX3_readLimit_X3_readSemicolon : GoodIn wsX3_readLimit wsX3_readSemicolon := goodIn_r _ [33, 1, 34, 35, 36, 8, 37, 15, 13, 12, 5, 6, 7, 9, 10, 11, 14, 16, 17, 18, 38, 58, 59, 60, 61, 62, 63, 64] (by decide +kernel) (by decide +kernel)
set_option maxRecDepth 20000 in
theorem gX3_readLimit_X3_readSemicolon : GoodIn wsX3_readLimit (wsV RX3 40 RX3 yX3_readSemicolon wsX3_readSemicolon) := goodIn_app (goodIn_of _ (by decide +kernel)) ggX3_readLimit_X3_readSemicolon
theorem dX3_readLimit_0 : decode cX3_readLimit 0 = .ok (.aload_n 0, 1) := by decide +kernel
theorem dX3_readLimit_1 : decode cX3_readLimit 1 = .ok (.getfield 9, 3) := by decide +kernel
theorem dX3_readLimit_4 : decode cX3_readLimit 4 = .ok (.invokevirtual 23, 3) := by decide +kernel
theorem dX3_readLimit_7 : decode cX3_readLimit 7 = .ok (.aload_n 0, 1) := by decide +kernel
theorem dX3_readLimit_8 : decode cX3_readLimit 8 = .ok (.getfield 9, 3) := by decide +kernel
theorem dX3_readLimit_11 : decode cX3_readLimit 11 = .ok (.iconst 0, 1) := by decide +kernel
theorem dX3_readLimit_12 : decode cX3_readLimit 12 = .ok (.aload_n 1, 1) := by decide +kernel
theorem dX3_readLimit_13 : decode cX3_readLimit 13 = .ok (.getfield 83, 3) := by decide +kernel
theorem dX3_readLimit_16 : decode cX3_readLimit 16 = .ok (.iconst 1, 1) := by decide +kernel
theorem dX3_readLimit_17 : decode cX3_readLimit 17 = .ok (.isub, 1) := by decide +kernel
theorem dX3_readLimit_18 : decode cX3_readLimit 18 = .ok (.invokevirtual 26, 3) := by decide +kernel
theorem dX3_readLimit_21 : decode cX3_readLimit 21 = .ok (.istore_n 2, 1) := by decide +kernel
theorem dX3_readLimit_22 : decode cX3_readLimit 22 = .ok (.iload_n 2, 1) := by decide +kernel
theorem dX3_readLimit_23 : decode cX3_readLimit 23 = .ok (.ifCond .eq 5, 3) := by decide +kernel
theorem dX3_readLimit_26 : decode cX3_readLimit 26 = .ok (.iload_n 2, 1) := by decide +kernel
theorem dX3_readLimit_27 : decode cX3_readLimit 27 = .ok (.ireturn, 1) := by decide +kernel
theorem dX3_readLimit_28 : decode cX3_readLimit 28 = .ok (.aload_n 0, 1) := by decide +kernel
theorem dX3_readLimit_29 : decode cX3_readLimit 29 = .ok (.getfield 9, 3) := by decide +kernel
theorem dX3_readLimit_32 : decode cX3_readLimit 32 = .ok (.getfield 30, 3) := by decide +kernel
theorem dX3_readLimit_35 : decode cX3_readLimit 35 = .ok (.istore_n 3, 1) := by decide +kernel
theorem dX3_readLimit_36 : decode cX3_readLimit 36 = .ok (.aload_n 0, 1) := by decide +kernel
theorem dX3_readLimit_37 : decode cX3_readLimit 37 = .ok (.getfield 9, 3) := by decide +kernel
theorem dX3_readLimit_40 : decode cX3_readLimit 40 = .ok (.invokevirtual 23, 3) := by decide +kernel
theorem dX3_readLimit_43 : decode cX3_readLimit 43 = .ok (.aload_n 0, 1) := by decide +kernel
theorem dX3_readLimit_44 : decode cX3_readLimit 44 = .ok (.getfield 9, 3) := by decide +kernel
theorem dX3_readLimit_47 : decode cX3_readLimit 47 = .ok (.iconst 0, 1) := by decide +kernel
theorem dX3_readLimit_48 : decode cX3_readLimit 48 = .ok (.bipush 99, 2) := by decide +kernel
theorem dX3_readLimit_50 : decode cX3_readLimit 50 = .ok (.invokevirtual 26, 3) := by decide +kernel
theorem dX3_readLimit_53 : decode cX3_readLimit 53 = .ok (.istore_n 2, 1) := by decide +kernel
theorem dX3_readLimit_54 : decode cX3_readLimit 54 = .ok (.iload_n 2, 1) := by decide +kernel
theorem dX3_readLimit_55 : decode cX3_readLimit 55 = .ok (.ifCond .eq 5, 3) := by decide +kernel
theorem dX3_readLimit_58 : decode cX3_readLimit 58 = .ok (.iload_n 2, 1) := by decide +kernel
theorem dX3_readLimit_59 : decode cX3_readLimit 59 = .ok (.ireturn, 1) := by decide +kernel
theorem dX3_readLimit_60 : decode cX3_readLimit 60 = .ok (.aload_n 1, 1) := by decide +kernel
theorem dX3_readLimit_61 : decode cX3_readLimit 61 = .ok (.iload_n 3, 1) := by decide +kernel
theorem dX3_readLimit_62 : decode cX3_readLimit 62 = .ok (.invokevirtual 92, 3) := by decide +kernel
theorem dX3_readLimit_65 : decode cX3_readLimit 65 = .ok (.ifCond .eq 16, 3) := by decide +kernel
theorem dX3_readLimit_68 : decode cX3_readLimit 68 = .ok (.aload_n 1, 1) := by decide +kernel
theorem dX3_readLimit_69 : decode cX3_readLimit 69 = .ok (.getfield 96, 3) := by decide +kernel
theorem dX3_readLimit_72 : decode cX3_readLimit 72 = .ok (.iload_n 3, 1) := by decide +kernel
theorem dX3_readLimit_73 : decode cX3_readLimit 73 = .ok (.aload_n 0, 1) := by decide +kernel
theorem dX3_readLimit_74 : decode cX3_readLimit 74 = .ok (.getfield 9, 3) := by decide +kernel
theorem dX3_readLimit_77 : decode cX3_readLimit 77 = .ok (.getfield 30, 3) := by decide +kernel
theorem dX3_readLimit_80 : decode cX3_readLimit 80 = .ok (.iastore, 1) := by decide +kernel
theorem dX3_readLimit_81 : decode cX3_readLimit 81 = .ok (.aload_n 0, 1) := by decide +kernel
theorem dX3_readLimit_82 : decode cX3_readLimit 82 = .ok (.getfield 9, 3) := by decide +kernel
theorem dX3_readLimit_85 : decode cX3_readLimit 85 = .ok (.invokevirtual 23, 3) := by decide +kernel
theorem dX3_readLimit_88 : decode cX3_readLimit 88 = .ok (.aload_n 0, 1) := by decide +kernel
theorem dX3_readLimit_89 : decode cX3_readLimit 89 = .ok (.invokevirtual 40, 3) := by decide +kernel
theorem dX3_readLimit_92 : decode cX3_readLimit 92 = .ok (.ireturn, 1) := by decide +kernel
set_option maxRecDepth 20000 in
theorem ggX3_readGuard_X7_advance : GoodIn wsX3_readGuard wsX7_advance := goodIn_r _ [7, 8, 9, 10, 11, 12, 13, 14, 15, 6, 16, 167, 168, 169, 170, 171, 172, 173] (by decide +kernel) (by decide +kernel)
set_option maxRecDepth 20000 in
theorem gX3_readGuard_X7_advance : GoodIn wsX3_readGuard (wsV RX3 23 RX7 yX7_advance wsX7_advance) := goodIn_app (goodIn_of _ (by decide +kernel)) ggX3_readGuard_X7_advance
set_option maxRecDepth 20000 in
theorem ggX3_readGuard_X3_readWalk : GoodIn wsX3_readGuard wsX3_readWalk := goodIn_r _ [21, 1, 22, 23, 24, 25, 26, 27, 28, 29, 30, 31, 32, 33, 34, 35, 36, 37, 38, 39, 40, 41, 42, 6, 43, 13, 12, 44, 45, 46, 47, 48, 49, 50, 20, 51, 52, 53, 54, 55, 56, 57, 58, 59, 60, 61, 62, 63, 64, 65, 66, 67, 68, 69, 70, 71, 72, 73, 3, 4, 5, 7, 8, 9, 10, 11, 14, 15, 16, 74, 75, 76, 77, 78, 79, 80, 81, 82, 83, 84, 85, 86, 87, 88, 89, 90, 91, 92, 93, 94, 95, 96, 97, 98, 99, 100, 101, 102, 103, 104, 105, 106, 107, 108, 109, 110, 111, 112, 113, 114, 115, 116, 117, 118, 119, 120, 121, 122, 123, 124, 125, 126, 127, 128, 129, 130, 131, 132, 133, 134, 135, 136, 137, 138, 139, 140, 141, 142, 147, 148, 149, 150, 151, 152, 153, 154, 155, 156, 157, 158, 159, 160, 161, 162, 163, 164, 165, 166, 167, 168, 169, 170, 171, 172, 173] (by decide +kernel) (by decide +kernel)
set_option maxRecDepth 20000 in
theorem gX3_readGuard_X3_readWalk : GoodIn wsX3_readGuard (wsV RX3 57 RX3 yX3_readWalk wsX3_readWalk) := goodIn_app (goodIn_of _ (by decide +kernel)) ggX3_readGuard_X3_readWalk
set_option maxRecDepth 20000 in
theorem ggX3_readGuard_X3_readSemicolon : GoodIn wsX3_readGuard wsX3_readSemicolon := goodIn_r _ [146, 1, 82, 83, 84, 6, 85, 13, 11, 10, 3, 4, 5, 7, 8, 9, 12, 14, 15, 16, 147, 167, 168, 169, 170, 171, 172, 173] (by decide +kernel) (by decide +kernel)
set_option maxRecDepth 20000 in
theorem gX3_readGuard_X3_readSemicolon : GoodIn wsX3_readGuard (wsV RX3 40 RX3 yX3_readSemicolon wsX3_readSemicolon) := goodIn_app (goodIn_of _ (by decide +kernel)) ggX3_readGuard_X3_readSemicolon
theorem dX3_readGuard_0 : decode cX3_readGuard 0 = .ok (.aload_n 0, 1) := by decide +kernel
theorem dX3_readGuard_1 : decode cX3_readGuard 1 = .ok (.getfield 9, 3) := by decide +kernel
theorem dX3_readGuard_4 : decode cX3_readGuard 4 = .ok (.invokevirtual 23, 3) := by decide +kernel
theorem dX3_readGuard_7 : decode cX3_readGuard 7 = .ok (.aload_n 1, 1) := by decide +kernel
theorem dX3_readGuard_8 : decode cX3_readGuard 8 = .ok (.getfield 54, 3) := by decide +kernel
theorem dX3_readGuard_11 : decode cX3_readGuard 11 = .ok (.istore_n 2, 1) := by decide +kernel
theorem dX3_readGuard_12 : decode cX3_readGuard 12 = .ok (.aload_n 1, 1) := by decide +kernel
theorem dX3_readGuard_13 : decode cX3_readGuard 13 = .ok (.dup, 1) := by decide +kernel
theorem dX3_readGuard_14 : decode cX3_readGuard 14 = .ok (.getfield 54, 3) := by decide +kernel
theorem dX3_readGuard_17 : decode cX3_readGuard 17 = .ok (.iconst 1, 1) := by decide +kernel
theorem dX3_readGuard_18 : decode cX3_readGuard 18 = .ok (.iadd, 1) := by decide +kernel
theorem dX3_readGuard_19 : decode cX3_readGuard 19 = .ok (.putfield 54, 3) := by decide +kernel
theorem dX3_readGuard_22 : decode cX3_readGuard 22 = .ok (.aload_n 0, 1) := by decide +kernel
theorem dX3_readGuard_23 : decode cX3_readGuard 23 = .ok (.aload_n 1, 1) := by decide +kernel
theorem dX3_readGuard_24 : decode cX3_readGuard 24 = .ok (.iload_n 2, 1) := by decide +kernel
theorem dX3_readGuard_25 : decode cX3_readGuard 25 = .ok (.iconst 0, 1) := by decide +kernel
theorem dX3_readGuard_26 : decode cX3_readGuard 26 = .ok (.invokevirtual 57, 3) := by decide +kernel
theorem dX3_readGuard_29 : decode cX3_readGuard 29 = .ok (.istore_n 3, 1) := by decide +kernel
theorem dX3_readGuard_30 : decode cX3_readGuard 30 = .ok (.iload_n 3, 1) := by decide +kernel
theorem dX3_readGuard_31 : decode cX3_readGuard 31 = .ok (.ifCond .ne 10, 3) := by decide +kernel
theorem dX3_readGuard_34 : decode cX3_readGuard 34 = .ok (.aload_n 0, 1) := by decide +kernel
theorem dX3_readGuard_35 : decode cX3_readGuard 35 = .ok (.invokevirtual 40, 3) := by decide +kernel
theorem dX3_readGuard_38 : decode cX3_readGuard 38 = .ok (.goto 4, 3) := by decide +kernel
theorem dX3_readGuard_41 : decode cX3_readGuard 41 = .ok (.iload_n 3, 1) := by decide +kernel
theorem dX3_readGuard_42 : decode cX3_readGuard 42 = .ok (.ireturn, 1) := by decide +kernel
set_option maxRecDepth 20000 in
theorem ggX3_readWalk_X2_hasGuard : GoodIn wsX3_readWalk wsX2_hasGuard := goodIn_r _ [10, 11, 139, 140, 141, 142, 143, 144, 145, 146, 147, 148, 149, 150, 151, 152, 153, 154, 155, 156, 157] (by decide +kernel) (by decide +kernel)
set_option maxRecDepth 20000 in
theorem gX3_readWalk_X2_hasGuard : GoodIn wsX3_readWalk (wsV RX3 100 RX2 yX2_hasGuard wsX2_hasGuard) := goodIn_app (goodIn_of _ (by decide +kernel)) ggX3_readWalk_X2_hasGuard
set_option maxRecDepth 20000 in
theorem ggX3_readWalk_X2_emptyWalk : GoodIn wsX3_readWalk wsX2_emptyWalk := goodIn_r _ [15, 16, 17, 18, 19, 7, 8, 9, 10, 11, 139, 140, 141, 142, 143, 144, 145, 146, 147, 148, 149, 150, 151, 152, 153, 154, 155, 156, 157] (by decide +kernel) (by decide +kernel)
set_option maxRecDepth 20000 in
theorem gX3_readWalk_X2_emptyWalk : GoodIn wsX3_readWalk (wsV RX3 103 RX2 yX2_emptyWalk wsX2_emptyWalk) := goodIn_app (goodIn_of _ (by decide +kernel)) ggX3_readWalk_X2_emptyWalk
set_option maxRecDepth 20000 in
theorem ggX3_readWalk_X7_numberCode : GoodIn wsX3_readWalk wsX7_numberCode := goodIn_r _ [24, 25, 26, 158, 159, 160, 161, 162, 163, 164] (by decide +kernel) (by decide +kernel)
set_option maxRecDepth 20000 in
theorem gX3_readWalk_X7_numberCode : GoodIn wsX3_readWalk (wsV RX3 26 RX7 yX7_numberCode wsX7_numberCode) := goodIn_app (goodIn_of _ (by decide +kernel)) ggX3_readWalk_X7_numberCode
set_option maxRecDepth 20000 in
theorem ggX3_readWalk_X7_isNumber : GoodIn wsX3_readWalk wsX7_isNumber := goodIn_r _ [30, 25, 158, 159, 160, 161, 162, 163, 164] (by decide +kernel) (by decide +kernel)
set_option maxRecDepth 20000 in
theorem gX3_readWalk_X7_isNumber : GoodIn wsX3_readWalk (wsV RX3 106 RX7 yX7_isNumber wsX7_isNumber) := goodIn_app (goodIn_of _ (by decide +kernel)) ggX3_readWalk_X7_isNumber
set_option maxRecDepth 20000 in
theorem ggX3_readWalk_X3_stepCode : GoodIn wsX3_readWalk wsX3_stepCode := goodIn_r _ [35, 1, 2, 4, 3, 20, 21, 22, 23, 24, 25, 26, 6, 7, 8, 9, 10, 11, 36, 37, 38, 39, 16, 40, 19, 41, 42, 43, 44, 45, 46, 47, 48, 49, 50, 51, 52, 53, 138, 139, 140, 141, 142, 143, 144, 145, 146, 147, 148, 149, 150, 151, 152, 153, 154, 155, 156, 157, 158, 159, 160, 161, 162, 163, 164] (by decide +kernel) (by decide +kernel)
set_option maxRecDepth 20000 in
theorem gX3_readWalk_X3_stepCode : GoodIn wsX3_readWalk (wsV RX3 109 RX3 yX3_stepCode wsX3_stepCode) := goodIn_app (goodIn_of _ (by decide +kernel)) ggX3_readWalk_X3_stepCode
set_option maxRecDepth 20000 in
theorem ggX3_readWalk_X2_addStep : GoodIn wsX3_readWalk wsX2_addStep := goodIn_r _ [57, 16, 40, 18, 19, 7, 8, 9, 10, 11, 139, 140, 141, 142, 143, 144, 145, 146, 147, 148, 149, 150, 151, 152, 153, 154, 155, 156, 157] (by decide +kernel) (by decide +kernel)
set_option maxRecDepth 20000 in
theorem gX3_readWalk_X2_addStep : GoodIn wsX3_readWalk (wsV RX3 113 RX2 yX2_addStep wsX2_addStep) := goodIn_app (goodIn_of _ (by decide +kernel)) ggX3_readWalk_X2_addStep
set_option maxRecDepth 20000 in
theorem ggX3_readWalk_X7_advance : GoodIn wsX3_readWalk wsX7_advance := goodIn_r _ [61, 62, 63, 64, 65, 26, 25, 66, 67, 23, 68, 158, 159, 160, 161, 162, 163, 164] (by decide +kernel) (by decide +kernel)
set_option maxRecDepth 20000 in
theorem gX3_readWalk_X7_advance : GoodIn wsX3_readWalk (wsV RX3 23 RX7 yX7_advance wsX7_advance) := goodIn_app (goodIn_of _ (by decide +kernel)) ggX3_readWalk_X7_advance
set_option maxRecDepth 20000 in
theorem ggX3_readWalk_X3_endOfRoomsCode : GoodIn wsX3_readWalk wsX3_endOfRoomsCode := goodIn_r _ [72, 1, 73, 74, 75, 23, 76, 25, 77, 78, 79, 80, 65, 64, 81, 82, 83, 84, 62, 85, 86, 87, 88, 89, 90, 91, 92, 93, 94, 95, 96, 97, 98, 99, 100, 101, 102, 103, 104, 105, 106, 107, 108, 109, 110, 111, 112, 113, 114, 115, 116, 117, 118, 119, 120, 121, 122, 123, 124, 125, 126, 127, 128, 129, 130, 131, 132, 133, 36, 37, 38, 9, 39, 16, 40, 19, 7, 8, 10, 11, 134, 135, 136, 137, 41, 42, 43, 44, 45, 46, 47, 48, 49, 50, 51, 52, 53, 138, 158, 159, 160, 161, 162, 163, 164, 139, 140, 141, 142, 143, 144, 145, 146, 147, 148, 149, 150, 151, 152, 153, 154, 155, 156, 157] (by decide +kernel) (by decide +kernel)
set_option maxRecDepth 20000 in
theorem gX3_readWalk_X3_endOfRoomsCode : GoodIn wsX3_readWalk (wsV RX3 117 RX3 yX3_endOfRoomsCode wsX3_endOfRoomsCode) := goodIn_app (goodIn_of _ (by decide +kernel)) ggX3_readWalk_X3_endOfRoomsCode
set_option maxRecDepth 20000 in
theorem ggX3_readWalk_X7_isWord : GoodIn wsX3_readWalk wsX7_isWord := goodIn_r _ [84, 25, 62, 65, 64, 85, 86, 87, 88, 89, 90, 91, 92, 93, 94, 95, 96, 97, 98, 99, 100, 101, 102, 103, 104, 105, 106, 107, 108, 109, 110, 111, 112, 113, 114, 115, 116, 117, 118, 119, 120, 121, 122, 123, 124, 125, 126, 127, 128, 129, 130, 131, 132, 133, 158, 159, 160, 161, 162, 163, 164] (by decide +kernel) (by decide +kernel)
set_option maxRecDepth 20000 in
theorem gX3_readWalk_X7_isWord : GoodIn wsX3_readWalk (wsV RX3 17 RX7 yX7_isWord wsX7_isWord) := goodIn_app (goodIn_of _ (by decide +kernel)) ggX3_readWalk_X7_isWord
theorem dX3_readWalk_0 : decode cX3_readWalk 0 = .ok (.aload_n 1, 1) := by decide +kernel
theorem dX3_readWalk_1 : decode cX3_readWalk 1 = .ok (.iload_n 2, 1) := by decide +kernel
theorem dX3_readWalk_2 : decode cX3_readWalk 2 = .ok (.invokevirtual 100, 3) := by decide +kernel
theorem dX3_readWalk_5 : decode cX3_readWalk 5 = .ok (.ifCond .ne 5, 3) := by decide +kernel
theorem dX3_readWalk_8 : decode cX3_readWalk 8 = .ok (.iconst 2, 1) := by decide +kernel
theorem dX3_readWalk_9 : decode cX3_readWalk 9 = .ok (.ireturn, 1) := by decide +kernel
theorem dX3_readWalk_10 : decode cX3_readWalk 10 = .ok (.aload_n 1, 1) := by decide +kernel
theorem dX3_readWalk_11 : decode cX3_readWalk 11 = .ok (.iload_n 2, 1) := by decide +kernel
theorem dX3_readWalk_12 : decode cX3_readWalk 12 = .ok (.invokevirtual 103, 3) := by decide +kernel
theorem dX3_readWalk_15 : decode cX3_readWalk 15 = .ok (.aload_n 0, 1) := by decide +kernel
theorem dX3_readWalk_16 : decode cX3_readWalk 16 = .ok (.getfield 9, 3) := by decide +kernel
theorem dX3_readWalk_19 : decode cX3_readWalk 19 = .ok (.iconst 0, 1) := by decide +kernel
theorem dX3_readWalk_20 : decode cX3_readWalk 20 = .ok (.aload_n 1, 1) := by decide +kernel
theorem dX3_readWalk_21 : decode cX3_readWalk 21 = .ok (.getfield 83, 3) := by decide +kernel
theorem dX3_readWalk_24 : decode cX3_readWalk 24 = .ok (.iconst 1, 1) := by decide +kernel
theorem dX3_readWalk_25 : decode cX3_readWalk 25 = .ok (.isub, 1) := by decide +kernel
theorem dX3_readWalk_26 : decode cX3_readWalk 26 = .ok (.invokevirtual 26, 3) := by decide +kernel
theorem dX3_readWalk_29 : decode cX3_readWalk 29 = .ok (.istore 4, 2) := by decide +kernel
theorem dX3_readWalk_31 : decode cX3_readWalk 31 = .ok (.iconst 0, 1) := by decide +kernel
theorem dX3_readWalk_32 : decode cX3_readWalk 32 = .ok (.istore 5, 2) := by decide +kernel
theorem dX3_readWalk_34 : decode cX3_readWalk 34 = .ok (.iload 5, 2) := by decide +kernel
theorem dX3_readWalk_36 : decode cX3_readWalk 36 = .ok (.bipush 10, 2) := by decide +kernel
theorem dX3_readWalk_38 : decode cX3_readWalk 38 = .ok (.if_icmp .gt 56, 3) := by decide +kernel
theorem dX3_readWalk_41 : decode cX3_readWalk 41 = .ok (.iload 4, 2) := by decide +kernel
theorem dX3_readWalk_43 : decode cX3_readWalk 43 = .ok (.ifCond .ne 51, 3) := by decide +kernel
theorem dX3_readWalk_46 : decode cX3_readWalk 46 = .ok (.aload_n 0, 1) := by decide +kernel
theorem dX3_readWalk_47 : decode cX3_readWalk 47 = .ok (.getfield 9, 3) := by decide +kernel
theorem dX3_readWalk_50 : decode cX3_readWalk 50 = .ok (.invokevirtual 106, 3) := by decide +kernel
theorem dX3_readWalk_53 : decode cX3_readWalk 53 = .ok (.ifCond .eq 41, 3) := by decide +kernel
theorem dX3_readWalk_56 : decode cX3_readWalk 56 = .ok (.aload_n 0, 1) := by decide +kernel
theorem dX3_readWalk_57 : decode cX3_readWalk 57 = .ok (.aload_n 1, 1) := by decide +kernel
theorem dX3_readWalk_58 : decode cX3_readWalk 58 = .ok (.iload_n 2, 1) := by decide +kernel
theorem dX3_readWalk_59 : decode cX3_readWalk 59 = .ok (.invokevirtual 109, 3) := by decide +kernel
theorem dX3_readWalk_62 : decode cX3_readWalk 62 = .ok (.istore 4, 2) := by decide +kernel
theorem dX3_readWalk_64 : decode cX3_readWalk 64 = .ok (.iload 4, 2) := by decide +kernel
theorem dX3_readWalk_66 : decode cX3_readWalk 66 = .ok (.ifCond .ne 22, 3) := by decide +kernel
theorem dX3_readWalk_69 : decode cX3_readWalk 69 = .ok (.aload_n 1, 1) := by decide +kernel
theorem dX3_readWalk_70 : decode cX3_readWalk 70 = .ok (.iload_n 2, 1) := by decide +kernel
theorem dX3_readWalk_71 : decode cX3_readWalk 71 = .ok (.aload_n 0, 1) := by decide +kernel
theorem dX3_readWalk_72 : decode cX3_readWalk 72 = .ok (.getfield 9, 3) := by decide +kernel
theorem dX3_readWalk_75 : decode cX3_readWalk 75 = .ok (.getfield 30, 3) := by decide +kernel
theorem dX3_readWalk_78 : decode cX3_readWalk 78 = .ok (.invokevirtual 113, 3) := by decide +kernel
theorem dX3_readWalk_81 : decode cX3_readWalk 81 = .ok (.aload_n 0, 1) := by decide +kernel
theorem dX3_readWalk_82 : decode cX3_readWalk 82 = .ok (.getfield 9, 3) := by decide +kernel
theorem dX3_readWalk_85 : decode cX3_readWalk 85 = .ok (.invokevirtual 23, 3) := by decide +kernel
theorem dX3_readWalk_88 : decode cX3_readWalk 88 = .ok (.iinc 5 1, 3) := by decide +kernel
theorem dX3_readWalk_91 : decode cX3_readWalk 91 = .ok (.goto (-57), 3) := by decide +kernel
theorem dX3_readWalk_94 : decode cX3_readWalk 94 = .ok (.iload 4, 2) := by decide +kernel
theorem dX3_readWalk_96 : decode cX3_readWalk 96 = .ok (.ifCond .ne 12, 3) := by decide +kernel
theorem dX3_readWalk_99 : decode cX3_readWalk 99 = .ok (.aload_n 0, 1) := by decide +kernel
theorem dX3_readWalk_100 : decode cX3_readWalk 100 = .ok (.aload_n 1, 1) := by decide +kernel
theorem dX3_readWalk_101 : decode cX3_readWalk 101 = .ok (.iload_n 2, 1) := by decide +kernel
theorem dX3_readWalk_102 : decode cX3_readWalk 102 = .ok (.iload_n 3, 1) := by decide +kernel
theorem dX3_readWalk_103 : decode cX3_readWalk 103 = .ok (.invokevirtual 117, 3) := by decide +kernel
theorem dX3_readWalk_106 : decode cX3_readWalk 106 = .ok (.istore 4, 2) := by decide +kernel
theorem dX3_readWalk_108 : decode cX3_readWalk 108 = .ok (.iload 4, 2) := by decide +kernel
theorem dX3_readWalk_110 : decode cX3_readWalk 110 = .ok (.ifCond .ne 15, 3) := by decide +kernel
theorem dX3_readWalk_113 : decode cX3_readWalk 113 = .ok (.aload_n 0, 1) := by decide +kernel
theorem dX3_readWalk_114 : decode cX3_readWalk 114 = .ok (.getfield 9, 3) := by decide +kernel
theorem dX3_readWalk_117 : decode cX3_readWalk 117 = .ok (.ldc 120, 2) := by decide +kernel
theorem dX3_readWalk_119 : decode cX3_readWalk 119 = .ok (.invokevirtual 17, 3) := by decide +kernel
theorem dX3_readWalk_122 : decode cX3_readWalk 122 = .ok (.ifCond .ne 6, 3) := by decide +kernel
theorem dX3_readWalk_125 : decode cX3_readWalk 125 = .ok (.iload 4, 2) := by decide +kernel
theorem dX3_readWalk_127 : decode cX3_readWalk 127 = .ok (.ireturn, 1) := by decide +kernel
theorem dX3_readWalk_128 : decode cX3_readWalk 128 = .ok (.aload_n 0, 1) := by decide +kernel
theorem dX3_readWalk_129 : decode cX3_readWalk 129 = .ok (.getfield 9, 3) := by decide +kernel
theorem dX3_readWalk_132 : decode cX3_readWalk 132 = .ok (.invokevirtual 23, 3) := by decide +kernel
theorem dX3_readWalk_135 : decode cX3_readWalk 135 = .ok (.aload_n 0, 1) := by decide +kernel
theorem dX3_readWalk_136 : decode cX3_readWalk 136 = .ok (.getfield 9, 3) := by decide +kernel
theorem dX3_readWalk_139 : decode cX3_readWalk 139 = .ok (.iconst 0, 1) := by decide +kernel
theorem dX3_readWalk_140 : decode cX3_readWalk 140 = .ok (.aload_n 1, 1) := by decide +kernel
theorem dX3_readWalk_141 : decode cX3_readWalk 141 = .ok (.getfield 122, 3) := by decide +kernel
theorem dX3_readWalk_144 : decode cX3_readWalk 144 = .ok (.iload_n 2, 1) := by decide +kernel
theorem dX3_readWalk_145 : decode cX3_readWalk 145 = .ok (.iaload, 1) := by decide +kernel
theorem dX3_readWalk_146 : decode cX3_readWalk 146 = .ok (.iconst 1, 1) := by decide +kernel
theorem dX3_readWalk_147 : decode cX3_readWalk 147 = .ok (.isub, 1) := by decide +kernel
theorem dX3_readWalk_148 : decode cX3_readWalk 148 = .ok (.invokevirtual 26, 3) := by decide +kernel
theorem dX3_readWalk_151 : decode cX3_readWalk 151 = .ok (.istore 4, 2) := by decide +kernel
theorem dX3_readWalk_153 : decode cX3_readWalk 153 = .ok (.iload 4, 2) := by decide +kernel
theorem dX3_readWalk_155 : decode cX3_readWalk 155 = .ok (.ifCond .ne 23, 3) := by decide +kernel
theorem dX3_readWalk_158 : decode cX3_readWalk 158 = .ok (.aload_n 1, 1) := by decide +kernel
theorem dX3_readWalk_159 : decode cX3_readWalk 159 = .ok (.getfield 125, 3) := by decide +kernel
theorem dX3_readWalk_162 : decode cX3_readWalk 162 = .ok (.iload_n 2, 1) := by decide +kernel
theorem dX3_readWalk_163 : decode cX3_readWalk 163 = .ok (.aload_n 0, 1) := by decide +kernel
theorem dX3_readWalk_164 : decode cX3_readWalk 164 = .ok (.getfield 9, 3) := by decide +kernel
theorem dX3_readWalk_167 : decode cX3_readWalk 167 = .ok (.getfield 30, 3) := by decide +kernel
theorem dX3_readWalk_170 : decode cX3_readWalk 170 = .ok (.iastore, 1) := by decide +kernel
theorem dX3_readWalk_171 : decode cX3_readWalk 171 = .ok (.aload_n 0, 1) := by decide +kernel
theorem dX3_readWalk_172 : decode cX3_readWalk 172 = .ok (.getfield 9, 3) := by decide +kernel
theorem dX3_readWalk_175 : decode cX3_readWalk 175 = .ok (.invokevirtual 23, 3) := by decide +kernel
theorem dX3_readWalk_178 : decode cX3_readWalk 178 = .ok (.iload 4, 2) := by decide +kernel
theorem dX3_readWalk_180 : decode cX3_readWalk 180 = .ok (.ireturn, 1) := by decide +kernel
set_option maxRecDepth 20000 in
theorem ggX3_stepCode_X7_numberCode : GoodIn wsX3_stepCode wsX7_numberCode := goodIn_r _ [9, 10, 11, 58, 59, 60, 61, 62, 63, 64] (by decide +kernel) (by decide +kernel)
set_option maxRecDepth 20000 in
theorem gX3_stepCode_X7_numberCode : GoodIn wsX3_stepCode (wsV RX3 26 RX7 yX7_numberCode wsX7_numberCode) := goodIn_app (goodIn_of _ (by decide +kernel)) ggX3_stepCode_X7_numberCode
set_option maxRecDepth 20000 in
theorem ggX3_stepCode_X2_hasGuard : GoodIn wsX3_stepCode wsX2_hasGuard := goodIn_r _ [16, 17, 39, 40, 41, 42, 43, 44, 45, 46, 47, 48, 49, 50, 51, 52, 53, 54, 55, 56, 57] (by decide +kernel) (by decide +kernel)
set_option maxRecDepth 20000 in
theorem gX3_stepCode_X2_hasGuard : GoodIn wsX3_stepCode (wsV RX3 100 RX2 yX2_hasGuard wsX2_hasGuard) := goodIn_app (goodIn_of _ (by decide +kernel)) ggX3_stepCode_X2_hasGuard
set_option maxRecDepth 20000 in
theorem ggX3_stepCode_X2_lastRoom : GoodIn wsX3_stepCode wsX2_lastRoom := goodIn_r _ [21, 22, 23, 24, 13, 14, 15, 16, 17, 39, 40, 41, 42, 43, 44, 45, 46, 47, 48, 49, 50, 51, 52, 53, 54, 55, 56, 57] (by decide +kernel) (by decide +kernel)
set_option maxRecDepth 20000 in
theorem gX3_stepCode_X2_lastRoom : GoodIn wsX3_stepCode (wsV RX3 128 RX2 yX2_lastRoom wsX2_lastRoom) := goodIn_app (goodIn_of _ (by decide +kernel)) ggX3_stepCode_X2_lastRoom
set_option maxRecDepth 20000 in
theorem ggX3_stepCode_X2_canGo : GoodIn wsX3_stepCode wsX2_canGo := goodIn_r _ [28, 29, 30, 31, 32, 15, 33, 34, 35, 36, 37, 39, 40, 41, 42, 43, 44, 45, 46, 47, 48, 49, 50, 51, 52, 53, 54, 55, 56, 57] (by decide +kernel) (by decide +kernel)
set_option maxRecDepth 20000 in
theorem gX3_stepCode_X2_canGo : GoodIn wsX3_stepCode (wsV RX3 132 RX2 yX2_canGo wsX2_canGo) := goodIn_app (goodIn_of _ (by decide +kernel)) ggX3_stepCode_X2_canGo
theorem dX3_stepCode_0 : decode cX3_stepCode 0 = .ok (.aload_n 0, 1) := by decide +kernel
theorem dX3_stepCode_1 : decode cX3_stepCode 1 = .ok (.getfield 9, 3) := by decide +kernel
theorem dX3_stepCode_4 : decode cX3_stepCode 4 = .ok (.iconst 0, 1) := by decide +kernel
theorem dX3_stepCode_5 : decode cX3_stepCode 5 = .ok (.aload_n 1, 1) := by decide +kernel
theorem dX3_stepCode_6 : decode cX3_stepCode 6 = .ok (.getfield 83, 3) := by decide +kernel
theorem dX3_stepCode_9 : decode cX3_stepCode 9 = .ok (.iconst 1, 1) := by decide +kernel
theorem dX3_stepCode_10 : decode cX3_stepCode 10 = .ok (.isub, 1) := by decide +kernel
theorem dX3_stepCode_11 : decode cX3_stepCode 11 = .ok (.invokevirtual 26, 3) := by decide +kernel
theorem dX3_stepCode_14 : decode cX3_stepCode 14 = .ok (.istore_n 3, 1) := by decide +kernel
theorem dX3_stepCode_15 : decode cX3_stepCode 15 = .ok (.iload_n 3, 1) := by decide +kernel
theorem dX3_stepCode_16 : decode cX3_stepCode 16 = .ok (.ifCond .eq 5, 3) := by decide +kernel
theorem dX3_stepCode_19 : decode cX3_stepCode 19 = .ok (.iload_n 3, 1) := by decide +kernel
theorem dX3_stepCode_20 : decode cX3_stepCode 20 = .ok (.ireturn, 1) := by decide +kernel
theorem dX3_stepCode_21 : decode cX3_stepCode 21 = .ok (.aload_n 1, 1) := by decide +kernel
theorem dX3_stepCode_22 : decode cX3_stepCode 22 = .ok (.iload_n 2, 1) := by decide +kernel
theorem dX3_stepCode_23 : decode cX3_stepCode 23 = .ok (.invokevirtual 100, 3) := by decide +kernel
theorem dX3_stepCode_26 : decode cX3_stepCode 26 = .ok (.ifCond .eq 16, 3) := by decide +kernel
theorem dX3_stepCode_29 : decode cX3_stepCode 29 = .ok (.aload_n 1, 1) := by decide +kernel
theorem dX3_stepCode_30 : decode cX3_stepCode 30 = .ok (.getfield 122, 3) := by decide +kernel
theorem dX3_stepCode_33 : decode cX3_stepCode 33 = .ok (.iload_n 2, 1) := by decide +kernel
theorem dX3_stepCode_34 : decode cX3_stepCode 34 = .ok (.iaload, 1) := by decide +kernel
theorem dX3_stepCode_35 : decode cX3_stepCode 35 = .ok (.bipush 10, 2) := by decide +kernel
theorem dX3_stepCode_37 : decode cX3_stepCode 37 = .ok (.if_icmp .lt 5, 3) := by decide +kernel
theorem dX3_stepCode_40 : decode cX3_stepCode 40 = .ok (.iconst 3, 1) := by decide +kernel
theorem dX3_stepCode_41 : decode cX3_stepCode 41 = .ok (.ireturn, 1) := by decide +kernel
theorem dX3_stepCode_42 : decode cX3_stepCode 42 = .ok (.aload_n 1, 1) := by decide +kernel
theorem dX3_stepCode_43 : decode cX3_stepCode 43 = .ok (.aload_n 1, 1) := by decide +kernel
theorem dX3_stepCode_44 : decode cX3_stepCode 44 = .ok (.iload_n 2, 1) := by decide +kernel
theorem dX3_stepCode_45 : decode cX3_stepCode 45 = .ok (.invokevirtual 128, 3) := by decide +kernel
theorem dX3_stepCode_48 : decode cX3_stepCode 48 = .ok (.aload_n 0, 1) := by decide +kernel
theorem dX3_stepCode_49 : decode cX3_stepCode 49 = .ok (.getfield 9, 3) := by decide +kernel
theorem dX3_stepCode_52 : decode cX3_stepCode 52 = .ok (.getfield 30, 3) := by decide +kernel
theorem dX3_stepCode_55 : decode cX3_stepCode 55 = .ok (.invokevirtual 132, 3) := by decide +kernel
theorem dX3_stepCode_58 : decode cX3_stepCode 58 = .ok (.ifCond .eq 7, 3) := by decide +kernel
theorem dX3_stepCode_61 : decode cX3_stepCode 61 = .ok (.iconst 0, 1) := by decide +kernel
theorem dX3_stepCode_62 : decode cX3_stepCode 62 = .ok (.goto 4, 3) := by decide +kernel
theorem dX3_stepCode_65 : decode cX3_stepCode 65 = .ok (.iconst 4, 1) := by decide +kernel
theorem dX3_stepCode_66 : decode cX3_stepCode 66 = .ok (.ireturn, 1) := by decide +kernel
set_option maxRecDepth 20000 in
theorem ggX3_endOfRoomsCode_X7_isEnd : GoodIn wsX3_endOfRoomsCode wsX7_isEnd := goodIn_r _ [6, 7, 98, 99, 100, 101, 102, 103, 104] (by decide +kernel) (by decide +kernel)
set_option maxRecDepth 20000 in
theorem gX3_endOfRoomsCode_X7_isEnd : GoodIn wsX3_endOfRoomsCode (wsV RX3 44 RX7 yX7_isEnd wsX7_isEnd) := goodIn_app (goodIn_of _ (by decide +kernel)) ggX3_endOfRoomsCode_X7_isEnd
set_option maxRecDepth 20000 in
theorem ggX3_endOfRoomsCode_X7_isSign : GoodIn wsX3_endOfRoomsCode wsX7_isSign := goodIn_r _ [11, 7, 12, 13, 98, 99, 100, 101, 102, 103, 104] (by decide +kernel) (by decide +kernel)
set_option maxRecDepth 20000 in
theorem gX3_endOfRoomsCode_X7_isSign : GoodIn wsX3_endOfRoomsCode (wsV RX3 79 RX7 yX7_isSign wsX7_isSign) := goodIn_app (goodIn_of _ (by decide +kernel)) ggX3_endOfRoomsCode_X7_isSign
set_option maxRecDepth 20000 in
theorem ggX3_endOfRoomsCode_X7_isWord : GoodIn wsX3_endOfRoomsCode wsX7_isWord := goodIn_r _ [17, 7, 18, 12, 13, 19, 20, 21, 22, 23, 24, 25, 26, 27, 28, 29, 30, 31, 32, 33, 34, 35, 36, 37, 38, 39, 40, 41, 42, 43, 44, 45, 46, 47, 48, 49, 50, 51, 52, 53, 54, 55, 56, 57, 58, 59, 60, 61, 62, 63, 64, 65, 66, 67, 98, 99, 100, 101, 102, 103, 104] (by decide +kernel) (by decide +kernel)
set_option maxRecDepth 20000 in
theorem gX3_endOfRoomsCode_X7_isWord : GoodIn wsX3_endOfRoomsCode (wsV RX3 17 RX7 yX7_isWord wsX7_isWord) := goodIn_app (goodIn_of _ (by decide +kernel)) ggX3_endOfRoomsCode_X7_isWord
set_option maxRecDepth 20000 in
theorem ggX3_endOfRoomsCode_X2_lastRoom : GoodIn wsX3_endOfRoomsCode wsX2_lastRoom := goodIn_r _ [72, 73, 74, 75, 76, 77, 71, 78, 79, 105, 106, 107, 108, 109, 110, 111, 112, 113, 114, 115, 116, 117, 118, 119, 120, 121, 122, 123] (by decide +kernel) (by decide +kernel)
set_option maxRecDepth 20000 in
theorem gX3_endOfRoomsCode_X2_lastRoom : GoodIn wsX3_endOfRoomsCode (wsV RX3 128 RX2 yX2_lastRoom wsX2_lastRoom) := goodIn_app (goodIn_of _ (by decide +kernel)) ggX3_endOfRoomsCode_X2_lastRoom
set_option maxRecDepth 20000 in
theorem ggX3_endOfRoomsCode_X2_walkRoom : GoodIn wsX3_endOfRoomsCode wsX2_walkRoom := goodIn_r _ [83, 73, 74, 75, 76, 77, 71, 78, 79, 105, 106, 107, 108, 109, 110, 111, 112, 113, 114, 115, 116, 117, 118, 119, 120, 121, 122, 123] (by decide +kernel) (by decide +kernel)
set_option maxRecDepth 20000 in
theorem gX3_endOfRoomsCode_X2_walkRoom : GoodIn wsX3_endOfRoomsCode (wsV RX3 136 RX2 yX2_walkRoom wsX2_walkRoom) := goodIn_app (goodIn_of _ (by decide +kernel)) ggX3_endOfRoomsCode_X2_walkRoom
set_option maxRecDepth 20000 in
theorem ggX3_endOfRoomsCode_X2_canGo : GoodIn wsX3_endOfRoomsCode wsX2_canGo := goodIn_r _ [87, 88, 89, 90, 91, 71, 92, 93, 94, 95, 96, 105, 106, 107, 108, 109, 110, 111, 112, 113, 114, 115, 116, 117, 118, 119, 120, 121, 122, 123] (by decide +kernel) (by decide +kernel)
set_option maxRecDepth 20000 in
theorem gX3_endOfRoomsCode_X2_canGo : GoodIn wsX3_endOfRoomsCode (wsV RX3 132 RX2 yX2_canGo wsX2_canGo) := goodIn_app (goodIn_of _ (by decide +kernel)) ggX3_endOfRoomsCode_X2_canGo
theorem dX3_endOfRoomsCode_0 : decode cX3_endOfRoomsCode 0 = .ok (.iload_n 3, 1) := by decide +kernel
theorem dX3_endOfRoomsCode_1 : decode cX3_endOfRoomsCode 1 = .ok (.ifCond .eq 13, 3) := by decide +kernel
theorem dX3_endOfRoomsCode_4 : decode cX3_endOfRoomsCode 4 = .ok (.aload_n 0, 1) := by decide +kernel
theorem dX3_endOfRoomsCode_5 : decode cX3_endOfRoomsCode 5 = .ok (.getfield 9, 3) := by decide +kernel
theorem dX3_endOfRoomsCode_8 : decode cX3_endOfRoomsCode 8 = .ok (.invokevirtual 44, 3) := by decide +kernel
theorem dX3_endOfRoomsCode_11 : decode cX3_endOfRoomsCode 11 = .ok (.goto 12, 3) := by decide +kernel
theorem dX3_endOfRoomsCode_14 : decode cX3_endOfRoomsCode 14 = .ok (.aload_n 0, 1) := by decide +kernel
theorem dX3_endOfRoomsCode_15 : decode cX3_endOfRoomsCode 15 = .ok (.getfield 9, 3) := by decide +kernel
theorem dX3_endOfRoomsCode_18 : decode cX3_endOfRoomsCode 18 = .ok (.bipush 59, 2) := by decide +kernel
theorem dX3_endOfRoomsCode_20 : decode cX3_endOfRoomsCode 20 = .ok (.invokevirtual 79, 3) := by decide +kernel
theorem dX3_endOfRoomsCode_23 : decode cX3_endOfRoomsCode 23 = .ok (.istore 4, 2) := by decide +kernel
theorem dX3_endOfRoomsCode_25 : decode cX3_endOfRoomsCode 25 = .ok (.iload 4, 2) := by decide +kernel
theorem dX3_endOfRoomsCode_27 : decode cX3_endOfRoomsCode 27 = .ok (.ifCond .ne 17, 3) := by decide +kernel
theorem dX3_endOfRoomsCode_30 : decode cX3_endOfRoomsCode 30 = .ok (.aload_n 0, 1) := by decide +kernel
theorem dX3_endOfRoomsCode_31 : decode cX3_endOfRoomsCode 31 = .ok (.getfield 9, 3) := by decide +kernel
theorem dX3_endOfRoomsCode_34 : decode cX3_endOfRoomsCode 34 = .ok (.ldc 120, 2) := by decide +kernel
theorem dX3_endOfRoomsCode_36 : decode cX3_endOfRoomsCode 36 = .ok (.invokevirtual 17, 3) := by decide +kernel
theorem dX3_endOfRoomsCode_39 : decode cX3_endOfRoomsCode 39 = .ok (.ifCond .ne 5, 3) := by decide +kernel
theorem dX3_endOfRoomsCode_42 : decode cX3_endOfRoomsCode 42 = .ok (.iconst 1, 1) := by decide +kernel
theorem dX3_endOfRoomsCode_43 : decode cX3_endOfRoomsCode 43 = .ok (.ireturn, 1) := by decide +kernel
theorem dX3_endOfRoomsCode_44 : decode cX3_endOfRoomsCode 44 = .ok (.aload_n 1, 1) := by decide +kernel
theorem dX3_endOfRoomsCode_45 : decode cX3_endOfRoomsCode 45 = .ok (.aload_n 1, 1) := by decide +kernel
theorem dX3_endOfRoomsCode_46 : decode cX3_endOfRoomsCode 46 = .ok (.iload_n 2, 1) := by decide +kernel
theorem dX3_endOfRoomsCode_47 : decode cX3_endOfRoomsCode 47 = .ok (.invokevirtual 128, 3) := by decide +kernel
theorem dX3_endOfRoomsCode_50 : decode cX3_endOfRoomsCode 50 = .ok (.aload_n 1, 1) := by decide +kernel
theorem dX3_endOfRoomsCode_51 : decode cX3_endOfRoomsCode 51 = .ok (.iload_n 2, 1) := by decide +kernel
theorem dX3_endOfRoomsCode_52 : decode cX3_endOfRoomsCode 52 = .ok (.iconst 0, 1) := by decide +kernel
theorem dX3_endOfRoomsCode_53 : decode cX3_endOfRoomsCode 53 = .ok (.invokevirtual 136, 3) := by decide +kernel
theorem dX3_endOfRoomsCode_56 : decode cX3_endOfRoomsCode 56 = .ok (.invokevirtual 132, 3) := by decide +kernel
theorem dX3_endOfRoomsCode_59 : decode cX3_endOfRoomsCode 59 = .ok (.ifCond .eq 7, 3) := by decide +kernel
theorem dX3_endOfRoomsCode_62 : decode cX3_endOfRoomsCode 62 = .ok (.iconst 0, 1) := by decide +kernel
theorem dX3_endOfRoomsCode_63 : decode cX3_endOfRoomsCode 63 = .ok (.goto 4, 3) := by decide +kernel
theorem dX3_endOfRoomsCode_66 : decode cX3_endOfRoomsCode 66 = .ok (.iconst 4, 1) := by decide +kernel
theorem dX3_endOfRoomsCode_67 : decode cX3_endOfRoomsCode 67 = .ok (.ireturn, 1) := by decide +kernel
theorem dX4_init_0 : decode cX4_init 0 = .ok (.aload_n 0, 1) := by decide +kernel
theorem dX4_init_1 : decode cX4_init 1 = .ok (.invokespecial 3, 3) := by decide +kernel
theorem dX4_init_4 : decode cX4_init 4 = .ok (.aload_n 0, 1) := by decide +kernel
theorem dX4_init_5 : decode cX4_init 5 = .ok (.sipush 2520, 3) := by decide +kernel
theorem dX4_init_8 : decode cX4_init 8 = .ok (.newarray .int, 2) := by decide +kernel
theorem dX4_init_10 : decode cX4_init 10 = .ok (.putfield 9, 3) := by decide +kernel
theorem dX4_init_13 : decode cX4_init 13 = .ok (.aload_n 0, 1) := by decide +kernel
theorem dX4_init_14 : decode cX4_init 14 = .ok (.bipush 12, 2) := by decide +kernel
theorem dX4_init_16 : decode cX4_init 16 = .ok (.newarray .int, 2) := by decide +kernel
theorem dX4_init_18 : decode cX4_init 18 = .ok (.putfield 15, 3) := by decide +kernel
theorem dX4_init_21 : decode cX4_init 21 = .ok (.return_, 1) := by decide +kernel
set_option maxRecDepth 20000 in
theorem ggX4_firstArrival_X2_cycleLength : GoodIn wsX4_firstArrival wsX2_cycleLength := goodIn_r _ [6, 7, 8, 9, 10, 11, 48, 49, 50, 51, 52, 53, 54, 55, 56, 57, 58, 59, 60, 61, 62, 63, 64, 65, 66] (by decide +kernel) (by decide +kernel)
set_option maxRecDepth 20000 in
theorem gX4_firstArrival_X2_cycleLength : GoodIn wsX4_firstArrival (wsV RX4 18 RX2 yX2_cycleLength wsX2_cycleLength) := goodIn_app (goodIn_of _ (by decide +kernel)) ggX4_firstArrival_X2_cycleLength
set_option maxRecDepth 20000 in
theorem ggX4_firstArrival_J7_fill_53178 : GoodIn wsX4_firstArrival wsJ7_fill_53178 := goodIn_r _ [15] (by decide +kernel) (by decide +kernel)
set_option maxRecDepth 20000 in
theorem gX4_firstArrival_J7_fill_53178 : GoodIn wsX4_firstArrival (va_wsS RX4 24 yJ7_fill_53178 wsJ7_fill_53178) := goodIn_app (goodIn_of _ (by decide +kernel)) ggX4_firstArrival_J7_fill_53178
set_option maxRecDepth 20000 in
theorem ggX4_firstArrival_X2_roomsSeenAt : GoodIn wsX4_firstArrival wsX2_roomsSeenAt := goodIn_r _ [19, 7, 20, 21, 22, 5, 23, 8, 24, 25, 26, 27, 28, 29, 48, 49, 50, 51, 52, 53, 54, 55, 56, 57, 58, 59, 60, 61, 62, 63, 64, 65, 66] (by decide +kernel) (by decide +kernel)
set_option maxRecDepth 20000 in
theorem gX4_firstArrival_X2_roomsSeenAt : GoodIn wsX4_firstArrival (wsV RX4 30 RX2 yX2_roomsSeenAt wsX2_roomsSeenAt) := goodIn_app (goodIn_of _ (by decide +kernel)) ggX4_firstArrival_X2_roomsSeenAt
set_option maxRecDepth 20000 in
theorem ggX4_firstArrival_X8_has : GoodIn wsX4_firstArrival wsX8_has := goodIn_r _ [31] (by decide +kernel) (by decide +kernel)
set_option maxRecDepth 20000 in
theorem gX4_firstArrival_X8_has_n34 : GoodIn wsX4_firstArrival (wsX8_has) := ggX4_firstArrival_X8_has
set_option maxRecDepth 20000 in
theorem ggX4_firstArrival_X4_roomsNext : GoodIn wsX4_firstArrival wsX4_roomsNext := goodIn_r _ [36, 37, 38, 39, 40, 41, 42, 35, 43, 44, 12, 13, 14, 15, 45, 21, 22, 5, 23, 8, 24, 25, 26, 27, 28, 29, 7, 30, 10, 31, 16, 17, 18, 19, 20, 48, 49, 50, 51, 52, 53, 54, 55, 56, 57, 58, 59, 60, 61, 62, 63, 64, 65, 66, 46, 47] (by decide +kernel) (by decide +kernel)
set_option maxRecDepth 20000 in
theorem gX4_firstArrival_X4_roomsNext : GoodIn wsX4_firstArrival (wsV RX4 38 RX4 yX4_roomsNext wsX4_roomsNext) := goodIn_app (goodIn_of _ (by decide +kernel)) ggX4_firstArrival_X4_roomsNext
theorem dX4_firstArrival_0 : decode cX4_firstArrival 0 = .ok (.aload_n 1, 1) := by decide +kernel
theorem dX4_firstArrival_1 : decode cX4_firstArrival 1 = .ok (.invokevirtual 18, 3) := by decide +kernel
theorem dX4_firstArrival_4 : decode cX4_firstArrival 4 = .ok (.istore 5, 2) := by decide +kernel
theorem dX4_firstArrival_6 : decode cX4_firstArrival 6 = .ok (.iload 5, 2) := by decide +kernel
theorem dX4_firstArrival_8 : decode cX4_firstArrival 8 = .ok (.iconst 1, 1) := by decide +kernel
theorem dX4_firstArrival_9 : decode cX4_firstArrival 9 = .ok (.if_icmp .lt 11, 3) := by decide +kernel
theorem dX4_firstArrival_12 : decode cX4_firstArrival 12 = .ok (.iload 5, 2) := by decide +kernel
theorem dX4_firstArrival_14 : decode cX4_firstArrival 14 = .ok (.sipush 2520, 3) := by decide +kernel
theorem dX4_firstArrival_17 : decode cX4_firstArrival 17 = .ok (.if_icmp .le 5, 3) := by decide +kernel
theorem dX4_firstArrival_20 : decode cX4_firstArrival 20 = .ok (.iconst (-1), 1) := by decide +kernel
theorem dX4_firstArrival_21 : decode cX4_firstArrival 21 = .ok (.ireturn, 1) := by decide +kernel
theorem dX4_firstArrival_22 : decode cX4_firstArrival 22 = .ok (.aload_n 0, 1) := by decide +kernel
theorem dX4_firstArrival_23 : decode cX4_firstArrival 23 = .ok (.getfield 9, 3) := by decide +kernel
theorem dX4_firstArrival_26 : decode cX4_firstArrival 26 = .ok (.iconst 0, 1) := by decide +kernel
theorem dX4_firstArrival_27 : decode cX4_firstArrival 27 = .ok (.invokestatic 24, 3) := by decide +kernel
theorem dX4_firstArrival_30 : decode cX4_firstArrival 30 = .ok (.iload 4, 2) := by decide +kernel
theorem dX4_firstArrival_32 : decode cX4_firstArrival 32 = .ok (.iload 5, 2) := by decide +kernel
theorem dX4_firstArrival_34 : decode cX4_firstArrival 34 = .ok (.irem, 1) := by decide +kernel
theorem dX4_firstArrival_35 : decode cX4_firstArrival 35 = .ok (.istore 6, 2) := by decide +kernel
theorem dX4_firstArrival_37 : decode cX4_firstArrival 37 = .ok (.iconst 1, 1) := by decide +kernel
theorem dX4_firstArrival_38 : decode cX4_firstArrival 38 = .ok (.iload_n 2, 1) := by decide +kernel
theorem dX4_firstArrival_39 : decode cX4_firstArrival 39 = .ok (.ishl, 1) := by decide +kernel
theorem dX4_firstArrival_40 : decode cX4_firstArrival 40 = .ok (.aload_n 1, 1) := by decide +kernel
theorem dX4_firstArrival_41 : decode cX4_firstArrival 41 = .ok (.iload 4, 2) := by decide +kernel
theorem dX4_firstArrival_43 : decode cX4_firstArrival 43 = .ok (.invokevirtual 30, 3) := by decide +kernel
theorem dX4_firstArrival_46 : decode cX4_firstArrival 46 = .ok (.iconst (-1), 1) := by decide +kernel
theorem dX4_firstArrival_47 : decode cX4_firstArrival 47 = .ok (.ixor, 1) := by decide +kernel
theorem dX4_firstArrival_48 : decode cX4_firstArrival 48 = .ok (.iand, 1) := by decide +kernel
theorem dX4_firstArrival_49 : decode cX4_firstArrival 49 = .ok (.istore 7, 2) := by decide +kernel
theorem dX4_firstArrival_51 : decode cX4_firstArrival 51 = .ok (.iconst 0, 1) := by decide +kernel
theorem dX4_firstArrival_52 : decode cX4_firstArrival 52 = .ok (.istore 8, 2) := by decide +kernel
theorem dX4_firstArrival_54 : decode cX4_firstArrival 54 = .ok (.iload 8, 2) := by decide +kernel
theorem dX4_firstArrival_56 : decode cX4_firstArrival 56 = .ok (.sipush 30240, 3) := by decide +kernel
theorem dX4_firstArrival_59 : decode cX4_firstArrival 59 = .ok (.if_icmp .gt 99, 3) := by decide +kernel
theorem dX4_firstArrival_62 : decode cX4_firstArrival 62 = .ok (.iload 7, 2) := by decide +kernel
theorem dX4_firstArrival_64 : decode cX4_firstArrival 64 = .ok (.ifCond .eq 94, 3) := by decide +kernel
theorem dX4_firstArrival_67 : decode cX4_firstArrival 67 = .ok (.iload 7, 2) := by decide +kernel
theorem dX4_firstArrival_69 : decode cX4_firstArrival 69 = .ok (.iload_n 3, 1) := by decide +kernel
theorem dX4_firstArrival_70 : decode cX4_firstArrival 70 = .ok (.invokestatic 34, 3) := by decide +kernel
theorem dX4_firstArrival_73 : decode cX4_firstArrival 73 = .ok (.ifCond .eq 9, 3) := by decide +kernel
theorem dX4_firstArrival_76 : decode cX4_firstArrival 76 = .ok (.iload 4, 2) := by decide +kernel
theorem dX4_firstArrival_78 : decode cX4_firstArrival 78 = .ok (.iload 8, 2) := by decide +kernel
theorem dX4_firstArrival_80 : decode cX4_firstArrival 80 = .ok (.iadd, 1) := by decide +kernel
theorem dX4_firstArrival_81 : decode cX4_firstArrival 81 = .ok (.ireturn, 1) := by decide +kernel
theorem dX4_firstArrival_82 : decode cX4_firstArrival 82 = .ok (.iload 6, 2) := by decide +kernel
theorem dX4_firstArrival_84 : decode cX4_firstArrival 84 = .ok (.ifCond .lt 11, 3) := by decide +kernel
theorem dX4_firstArrival_87 : decode cX4_firstArrival 87 = .ok (.iload 6, 2) := by decide +kernel
theorem dX4_firstArrival_89 : decode cX4_firstArrival 89 = .ok (.sipush 2520, 3) := by decide +kernel
theorem dX4_firstArrival_92 : decode cX4_firstArrival 92 = .ok (.if_icmp .lt 5, 3) := by decide +kernel
theorem dX4_firstArrival_95 : decode cX4_firstArrival 95 = .ok (.iconst (-1), 1) := by decide +kernel
theorem dX4_firstArrival_96 : decode cX4_firstArrival 96 = .ok (.ireturn, 1) := by decide +kernel
theorem dX4_firstArrival_97 : decode cX4_firstArrival 97 = .ok (.aload_n 0, 1) := by decide +kernel
theorem dX4_firstArrival_98 : decode cX4_firstArrival 98 = .ok (.getfield 9, 3) := by decide +kernel
theorem dX4_firstArrival_101 : decode cX4_firstArrival 101 = .ok (.iload 6, 2) := by decide +kernel
theorem dX4_firstArrival_103 : decode cX4_firstArrival 103 = .ok (.dup2, 1) := by decide +kernel
theorem dX4_firstArrival_104 : decode cX4_firstArrival 104 = .ok (.iaload, 1) := by decide +kernel
theorem dX4_firstArrival_105 : decode cX4_firstArrival 105 = .ok (.iload 7, 2) := by decide +kernel
theorem dX4_firstArrival_107 : decode cX4_firstArrival 107 = .ok (.ior, 1) := by decide +kernel
theorem dX4_firstArrival_108 : decode cX4_firstArrival 108 = .ok (.iastore, 1) := by decide +kernel
theorem dX4_firstArrival_109 : decode cX4_firstArrival 109 = .ok (.iload 6, 2) := by decide +kernel
theorem dX4_firstArrival_111 : decode cX4_firstArrival 111 = .ok (.iconst 1, 1) := by decide +kernel
theorem dX4_firstArrival_112 : decode cX4_firstArrival 112 = .ok (.iadd, 1) := by decide +kernel
theorem dX4_firstArrival_113 : decode cX4_firstArrival 113 = .ok (.iload 5, 2) := by decide +kernel
theorem dX4_firstArrival_115 : decode cX4_firstArrival 115 = .ok (.if_icmp .ge 10, 3) := by decide +kernel
theorem dX4_firstArrival_118 : decode cX4_firstArrival 118 = .ok (.iload 6, 2) := by decide +kernel
theorem dX4_firstArrival_120 : decode cX4_firstArrival 120 = .ok (.iconst 1, 1) := by decide +kernel
theorem dX4_firstArrival_121 : decode cX4_firstArrival 121 = .ok (.iadd, 1) := by decide +kernel
theorem dX4_firstArrival_122 : decode cX4_firstArrival 122 = .ok (.goto 4, 3) := by decide +kernel
theorem dX4_firstArrival_125 : decode cX4_firstArrival 125 = .ok (.iconst 0, 1) := by decide +kernel
theorem dX4_firstArrival_126 : decode cX4_firstArrival 126 = .ok (.istore 6, 2) := by decide +kernel
theorem dX4_firstArrival_128 : decode cX4_firstArrival 128 = .ok (.aload_n 0, 1) := by decide +kernel
theorem dX4_firstArrival_129 : decode cX4_firstArrival 129 = .ok (.aload_n 1, 1) := by decide +kernel
theorem dX4_firstArrival_130 : decode cX4_firstArrival 130 = .ok (.iload 7, 2) := by decide +kernel
theorem dX4_firstArrival_132 : decode cX4_firstArrival 132 = .ok (.iload 4, 2) := by decide +kernel
theorem dX4_firstArrival_134 : decode cX4_firstArrival 134 = .ok (.iload 8, 2) := by decide +kernel
theorem dX4_firstArrival_136 : decode cX4_firstArrival 136 = .ok (.iadd, 1) := by decide +kernel
theorem dX4_firstArrival_137 : decode cX4_firstArrival 137 = .ok (.invokevirtual 38, 3) := by decide +kernel
theorem dX4_firstArrival_140 : decode cX4_firstArrival 140 = .ok (.aload_n 0, 1) := by decide +kernel
theorem dX4_firstArrival_141 : decode cX4_firstArrival 141 = .ok (.getfield 9, 3) := by decide +kernel
theorem dX4_firstArrival_144 : decode cX4_firstArrival 144 = .ok (.iload 6, 2) := by decide +kernel
theorem dX4_firstArrival_146 : decode cX4_firstArrival 146 = .ok (.iaload, 1) := by decide +kernel
theorem dX4_firstArrival_147 : decode cX4_firstArrival 147 = .ok (.iconst (-1), 1) := by decide +kernel
theorem dX4_firstArrival_148 : decode cX4_firstArrival 148 = .ok (.ixor, 1) := by decide +kernel
theorem dX4_firstArrival_149 : decode cX4_firstArrival 149 = .ok (.iand, 1) := by decide +kernel
theorem dX4_firstArrival_150 : decode cX4_firstArrival 150 = .ok (.istore 7, 2) := by decide +kernel
theorem dX4_firstArrival_152 : decode cX4_firstArrival 152 = .ok (.iinc 8 1, 3) := by decide +kernel
theorem dX4_firstArrival_155 : decode cX4_firstArrival 155 = .ok (.goto (-101), 3) := by decide +kernel
theorem dX4_firstArrival_158 : decode cX4_firstArrival 158 = .ok (.iconst (-1), 1) := by decide +kernel
theorem dX4_firstArrival_159 : decode cX4_firstArrival 159 = .ok (.ireturn, 1) := by decide +kernel
set_option maxRecDepth 20000 in
theorem ggX4_roomsAfter_X2_roomsSeenAt : GoodIn wsX4_roomsAfter wsX2_roomsSeenAt := goodIn_r _ [5, 6, 7, 8, 9, 4, 10, 11, 12, 13, 14, 15, 16, 17, 39, 40, 41, 42, 43, 44, 45, 46, 47, 48, 49, 50, 51, 52, 53, 54, 55, 56, 57] (by decide +kernel) (by decide +kernel)
set_option maxRecDepth 20000 in
theorem gX4_roomsAfter_X2_roomsSeenAt : GoodIn wsX4_roomsAfter (wsV RX4 30 RX2 yX2_roomsSeenAt wsX2_roomsSeenAt) := goodIn_app (goodIn_of _ (by decide +kernel)) ggX4_roomsAfter_X2_roomsSeenAt
set_option maxRecDepth 20000 in
theorem ggX4_roomsAfter_X4_roomsNext : GoodIn wsX4_roomsAfter wsX4_roomsNext := goodIn_r _ [22, 23, 24, 25, 26, 27, 28, 21, 29, 30, 31, 32, 33, 34, 35, 8, 9, 4, 10, 11, 12, 13, 14, 15, 16, 17, 6, 36, 37, 38, 1, 2, 3, 5, 7, 39, 40, 41, 42, 43, 44, 45, 46, 47, 48, 49, 50, 51, 52, 53, 54, 55, 56, 57, 58, 59] (by decide +kernel) (by decide +kernel)
set_option maxRecDepth 20000 in
theorem gX4_roomsAfter_X4_roomsNext : GoodIn wsX4_roomsAfter (wsV RX4 38 RX4 yX4_roomsNext wsX4_roomsNext) := goodIn_app (goodIn_of _ (by decide +kernel)) ggX4_roomsAfter_X4_roomsNext
theorem dX4_roomsAfter_0 : decode cX4_roomsAfter 0 = .ok (.iconst 1, 1) := by decide +kernel
theorem dX4_roomsAfter_1 : decode cX4_roomsAfter 1 = .ok (.iload_n 2, 1) := by decide +kernel
theorem dX4_roomsAfter_2 : decode cX4_roomsAfter 2 = .ok (.ishl, 1) := by decide +kernel
theorem dX4_roomsAfter_3 : decode cX4_roomsAfter 3 = .ok (.aload_n 1, 1) := by decide +kernel
theorem dX4_roomsAfter_4 : decode cX4_roomsAfter 4 = .ok (.iload_n 3, 1) := by decide +kernel
theorem dX4_roomsAfter_5 : decode cX4_roomsAfter 5 = .ok (.invokevirtual 30, 3) := by decide +kernel
theorem dX4_roomsAfter_8 : decode cX4_roomsAfter 8 = .ok (.iconst (-1), 1) := by decide +kernel
theorem dX4_roomsAfter_9 : decode cX4_roomsAfter 9 = .ok (.ixor, 1) := by decide +kernel
theorem dX4_roomsAfter_10 : decode cX4_roomsAfter 10 = .ok (.iand, 1) := by decide +kernel
theorem dX4_roomsAfter_11 : decode cX4_roomsAfter 11 = .ok (.istore 5, 2) := by decide +kernel
theorem dX4_roomsAfter_13 : decode cX4_roomsAfter 13 = .ok (.iconst 0, 1) := by decide +kernel
theorem dX4_roomsAfter_14 : decode cX4_roomsAfter 14 = .ok (.istore 6, 2) := by decide +kernel
theorem dX4_roomsAfter_16 : decode cX4_roomsAfter 16 = .ok (.iload 6, 2) := by decide +kernel
theorem dX4_roomsAfter_18 : decode cX4_roomsAfter 18 = .ok (.iload 4, 2) := by decide +kernel
theorem dX4_roomsAfter_20 : decode cX4_roomsAfter 20 = .ok (.if_icmp .ge 27, 3) := by decide +kernel
theorem dX4_roomsAfter_23 : decode cX4_roomsAfter 23 = .ok (.iload 5, 2) := by decide +kernel
theorem dX4_roomsAfter_25 : decode cX4_roomsAfter 25 = .ok (.ifCond .eq 22, 3) := by decide +kernel
theorem dX4_roomsAfter_28 : decode cX4_roomsAfter 28 = .ok (.aload_n 0, 1) := by decide +kernel
theorem dX4_roomsAfter_29 : decode cX4_roomsAfter 29 = .ok (.aload_n 1, 1) := by decide +kernel
theorem dX4_roomsAfter_30 : decode cX4_roomsAfter 30 = .ok (.iload 5, 2) := by decide +kernel
theorem dX4_roomsAfter_32 : decode cX4_roomsAfter 32 = .ok (.iload_n 3, 1) := by decide +kernel
theorem dX4_roomsAfter_33 : decode cX4_roomsAfter 33 = .ok (.iload 6, 2) := by decide +kernel
theorem dX4_roomsAfter_35 : decode cX4_roomsAfter 35 = .ok (.iadd, 1) := by decide +kernel
theorem dX4_roomsAfter_36 : decode cX4_roomsAfter 36 = .ok (.invokevirtual 38, 3) := by decide +kernel
theorem dX4_roomsAfter_39 : decode cX4_roomsAfter 39 = .ok (.istore 5, 2) := by decide +kernel
theorem dX4_roomsAfter_41 : decode cX4_roomsAfter 41 = .ok (.iinc 6 1, 3) := by decide +kernel
theorem dX4_roomsAfter_44 : decode cX4_roomsAfter 44 = .ok (.goto (-28), 3) := by decide +kernel
theorem dX4_roomsAfter_47 : decode cX4_roomsAfter 47 = .ok (.iload 5, 2) := by decide +kernel
theorem dX4_roomsAfter_49 : decode cX4_roomsAfter 49 = .ok (.ireturn, 1) := by decide +kernel
set_option maxRecDepth 20000 in
theorem ggX4_roomsNext_X4_barPassing : GoodIn wsX4_roomsNext wsX4_barPassing := goodIn_r _ [8, 3, 9, 10, 11, 12, 13, 14, 15, 16, 17, 18, 19, 20, 21, 22, 23, 24, 25, 26, 54, 55, 35, 36, 37, 38, 39, 40, 41, 42, 43, 44, 45, 46, 47, 48, 49, 50, 51, 52, 53] (by decide +kernel) (by decide +kernel)
set_option maxRecDepth 20000 in
theorem gX4_roomsNext_X4_barPassing : GoodIn wsX4_roomsNext (wsV RX4 49 RX4 yX4_barPassing wsX4_barPassing) := goodIn_app (goodIn_of _ (by decide +kernel)) ggX4_roomsNext_X4_barPassing
set_option maxRecDepth 20000 in
theorem ggX4_roomsNext_X8_has : GoodIn wsX4_roomsNext wsX8_has := goodIn_r _ [29] (by decide +kernel) (by decide +kernel)
set_option maxRecDepth 20000 in
theorem gX4_roomsNext_X8_has_n34 : GoodIn wsX4_roomsNext (wsX8_has) := ggX4_roomsNext_X8_has
set_option maxRecDepth 20000 in
theorem ggX4_roomsNext_X2_roomsSeenAt : GoodIn wsX4_roomsNext wsX2_roomsSeenAt := goodIn_r _ [33, 26, 34, 15, 16, 17, 18, 19, 20, 21, 22, 23, 24, 25, 35, 36, 37, 38, 39, 40, 41, 42, 43, 44, 45, 46, 47, 48, 49, 50, 51, 52, 53] (by decide +kernel) (by decide +kernel)
set_option maxRecDepth 20000 in
theorem gX4_roomsNext_X2_roomsSeenAt : GoodIn wsX4_roomsNext (wsV RX4 30 RX2 yX2_roomsSeenAt wsX2_roomsSeenAt) := goodIn_app (goodIn_of _ (by decide +kernel)) ggX4_roomsNext_X2_roomsSeenAt
theorem dX4_roomsNext_0 : decode cX4_roomsNext 0 = .ok (.aload_n 0, 1) := by decide +kernel
theorem dX4_roomsNext_1 : decode cX4_roomsNext 1 = .ok (.aload_n 1, 1) := by decide +kernel
theorem dX4_roomsNext_2 : decode cX4_roomsNext 2 = .ok (.iload_n 3, 1) := by decide +kernel
theorem dX4_roomsNext_3 : decode cX4_roomsNext 3 = .ok (.invokevirtual 49, 3) := by decide +kernel
theorem dX4_roomsNext_6 : decode cX4_roomsNext 6 = .ok (.iload_n 2, 1) := by decide +kernel
theorem dX4_roomsNext_7 : decode cX4_roomsNext 7 = .ok (.istore 4, 2) := by decide +kernel
theorem dX4_roomsNext_9 : decode cX4_roomsNext 9 = .ok (.iconst 0, 1) := by decide +kernel
theorem dX4_roomsNext_10 : decode cX4_roomsNext 10 = .ok (.istore 5, 2) := by decide +kernel
theorem dX4_roomsNext_12 : decode cX4_roomsNext 12 = .ok (.iload 5, 2) := by decide +kernel
theorem dX4_roomsNext_14 : decode cX4_roomsNext 14 = .ok (.aload_n 1, 1) := by decide +kernel
theorem dX4_roomsNext_15 : decode cX4_roomsNext 15 = .ok (.getfield 53, 3) := by decide +kernel
theorem dX4_roomsNext_18 : decode cX4_roomsNext 18 = .ok (.if_icmp .ge 47, 3) := by decide +kernel
theorem dX4_roomsNext_21 : decode cX4_roomsNext 21 = .ok (.iload 5, 2) := by decide +kernel
theorem dX4_roomsNext_23 : decode cX4_roomsNext 23 = .ok (.bipush 12, 2) := by decide +kernel
theorem dX4_roomsNext_25 : decode cX4_roomsNext 25 = .ok (.if_icmp .ge 40, 3) := by decide +kernel
theorem dX4_roomsNext_28 : decode cX4_roomsNext 28 = .ok (.iload_n 2, 1) := by decide +kernel
theorem dX4_roomsNext_29 : decode cX4_roomsNext 29 = .ok (.iload 5, 2) := by decide +kernel
theorem dX4_roomsNext_31 : decode cX4_roomsNext 31 = .ok (.invokestatic 34, 3) := by decide +kernel
theorem dX4_roomsNext_34 : decode cX4_roomsNext 34 = .ok (.ifCond .eq 25, 3) := by decide +kernel
theorem dX4_roomsNext_37 : decode cX4_roomsNext 37 = .ok (.iload 4, 2) := by decide +kernel
theorem dX4_roomsNext_39 : decode cX4_roomsNext 39 = .ok (.aload_n 1, 1) := by decide +kernel
theorem dX4_roomsNext_40 : decode cX4_roomsNext 40 = .ok (.getfield 56, 3) := by decide +kernel
theorem dX4_roomsNext_43 : decode cX4_roomsNext 43 = .ok (.iload 5, 2) := by decide +kernel
theorem dX4_roomsNext_45 : decode cX4_roomsNext 45 = .ok (.iaload, 1) := by decide +kernel
theorem dX4_roomsNext_46 : decode cX4_roomsNext 46 = .ok (.aload_n 0, 1) := by decide +kernel
theorem dX4_roomsNext_47 : decode cX4_roomsNext 47 = .ok (.getfield 15, 3) := by decide +kernel
theorem dX4_roomsNext_50 : decode cX4_roomsNext 50 = .ok (.iload 5, 2) := by decide +kernel
theorem dX4_roomsNext_52 : decode cX4_roomsNext 52 = .ok (.iaload, 1) := by decide +kernel
theorem dX4_roomsNext_53 : decode cX4_roomsNext 53 = .ok (.iconst (-1), 1) := by decide +kernel
theorem dX4_roomsNext_54 : decode cX4_roomsNext 54 = .ok (.ixor, 1) := by decide +kernel
theorem dX4_roomsNext_55 : decode cX4_roomsNext 55 = .ok (.iand, 1) := by decide +kernel
theorem dX4_roomsNext_56 : decode cX4_roomsNext 56 = .ok (.ior, 1) := by decide +kernel
theorem dX4_roomsNext_57 : decode cX4_roomsNext 57 = .ok (.istore 4, 2) := by decide +kernel
theorem dX4_roomsNext_59 : decode cX4_roomsNext 59 = .ok (.iinc 5 1, 3) := by decide +kernel
theorem dX4_roomsNext_62 : decode cX4_roomsNext 62 = .ok (.goto (-50), 3) := by decide +kernel
theorem dX4_roomsNext_65 : decode cX4_roomsNext 65 = .ok (.iload 4, 2) := by decide +kernel
theorem dX4_roomsNext_67 : decode cX4_roomsNext 67 = .ok (.aload_n 1, 1) := by decide +kernel
theorem dX4_roomsNext_68 : decode cX4_roomsNext 68 = .ok (.iload_n 3, 1) := by decide +kernel
theorem dX4_roomsNext_69 : decode cX4_roomsNext 69 = .ok (.iconst 1, 1) := by decide +kernel
theorem dX4_roomsNext_70 : decode cX4_roomsNext 70 = .ok (.iadd, 1) := by decide +kernel
theorem dX4_roomsNext_71 : decode cX4_roomsNext 71 = .ok (.invokevirtual 30, 3) := by decide +kernel
theorem dX4_roomsNext_74 : decode cX4_roomsNext 74 = .ok (.iconst (-1), 1) := by decide +kernel
theorem dX4_roomsNext_75 : decode cX4_roomsNext 75 = .ok (.ixor, 1) := by decide +kernel
theorem dX4_roomsNext_76 : decode cX4_roomsNext 76 = .ok (.iand, 1) := by decide +kernel
theorem dX4_roomsNext_77 : decode cX4_roomsNext 77 = .ok (.ireturn, 1) := by decide +kernel
set_option maxRecDepth 20000 in
theorem ggX4_barPassing_J7_fill_53178 : GoodIn wsX4_barPassing wsJ7_fill_53178 := goodIn_r _ [6] (by decide +kernel) (by decide +kernel)
set_option maxRecDepth 20000 in
theorem gX4_barPassing_J7_fill_53178 : GoodIn wsX4_barPassing (va_wsS RX4 24 yJ7_fill_53178 wsJ7_fill_53178) := goodIn_app (goodIn_of _ (by decide +kernel)) ggX4_barPassing_J7_fill_53178
set_option maxRecDepth 20000 in
theorem ggX4_barPassing_X2_roomAt : GoodIn wsX4_barPassing wsX2_roomAt := goodIn_r _ [11, 12, 13, 14, 15, 16, 17, 10, 18, 19, 22, 23, 24, 25, 26, 27, 28, 29, 30, 31, 32, 33, 34, 35, 36, 37, 38, 39, 40] (by decide +kernel) (by decide +kernel)
set_option maxRecDepth 20000 in
theorem gX4_barPassing_X2_roomAt : GoodIn wsX4_barPassing (wsV RX4 62 RX2 yX2_roomAt wsX2_roomAt) := goodIn_app (goodIn_of _ (by decide +kernel)) ggX4_barPassing_X2_roomAt
theorem dX4_barPassing_0 : decode cX4_barPassing 0 = .ok (.aload_n 0, 1) := by decide +kernel
theorem dX4_barPassing_1 : decode cX4_barPassing 1 = .ok (.getfield 15, 3) := by decide +kernel
theorem dX4_barPassing_4 : decode cX4_barPassing 4 = .ok (.iconst 0, 1) := by decide +kernel
theorem dX4_barPassing_5 : decode cX4_barPassing 5 = .ok (.invokestatic 24, 3) := by decide +kernel
theorem dX4_barPassing_8 : decode cX4_barPassing 8 = .ok (.iconst 0, 1) := by decide +kernel
theorem dX4_barPassing_9 : decode cX4_barPassing 9 = .ok (.istore_n 3, 1) := by decide +kernel
theorem dX4_barPassing_10 : decode cX4_barPassing 10 = .ok (.iload_n 3, 1) := by decide +kernel
theorem dX4_barPassing_11 : decode cX4_barPassing 11 = .ok (.aload_n 1, 1) := by decide +kernel
theorem dX4_barPassing_12 : decode cX4_barPassing 12 = .ok (.getfield 59, 3) := by decide +kernel
theorem dX4_barPassing_15 : decode cX4_barPassing 15 = .ok (.if_icmp .ge 58, 3) := by decide +kernel
theorem dX4_barPassing_18 : decode cX4_barPassing 18 = .ok (.aload_n 1, 1) := by decide +kernel
theorem dX4_barPassing_19 : decode cX4_barPassing 19 = .ok (.iload_n 3, 1) := by decide +kernel
theorem dX4_barPassing_20 : decode cX4_barPassing 20 = .ok (.iload_n 2, 1) := by decide +kernel
theorem dX4_barPassing_21 : decode cX4_barPassing 21 = .ok (.invokevirtual 62, 3) := by decide +kernel
theorem dX4_barPassing_24 : decode cX4_barPassing 24 = .ok (.istore 4, 2) := by decide +kernel
theorem dX4_barPassing_26 : decode cX4_barPassing 26 = .ok (.aload_n 1, 1) := by decide +kernel
theorem dX4_barPassing_27 : decode cX4_barPassing 27 = .ok (.iload_n 3, 1) := by decide +kernel
theorem dX4_barPassing_28 : decode cX4_barPassing 28 = .ok (.iload_n 2, 1) := by decide +kernel
theorem dX4_barPassing_29 : decode cX4_barPassing 29 = .ok (.iconst 1, 1) := by decide +kernel
theorem dX4_barPassing_30 : decode cX4_barPassing 30 = .ok (.iadd, 1) := by decide +kernel
theorem dX4_barPassing_31 : decode cX4_barPassing 31 = .ok (.invokevirtual 62, 3) := by decide +kernel
theorem dX4_barPassing_34 : decode cX4_barPassing 34 = .ok (.istore 5, 2) := by decide +kernel
theorem dX4_barPassing_36 : decode cX4_barPassing 36 = .ok (.iload 4, 2) := by decide +kernel
theorem dX4_barPassing_38 : decode cX4_barPassing 38 = .ok (.ifCond .lt 29, 3) := by decide +kernel
theorem dX4_barPassing_41 : decode cX4_barPassing 41 = .ok (.iload 5, 2) := by decide +kernel
theorem dX4_barPassing_43 : decode cX4_barPassing 43 = .ok (.ifCond .lt 24, 3) := by decide +kernel
theorem dX4_barPassing_46 : decode cX4_barPassing 46 = .ok (.iload 5, 2) := by decide +kernel
theorem dX4_barPassing_48 : decode cX4_barPassing 48 = .ok (.bipush 12, 2) := by decide +kernel
theorem dX4_barPassing_50 : decode cX4_barPassing 50 = .ok (.if_icmp .ge 17, 3) := by decide +kernel
theorem dX4_barPassing_53 : decode cX4_barPassing 53 = .ok (.aload_n 0, 1) := by decide +kernel
theorem dX4_barPassing_54 : decode cX4_barPassing 54 = .ok (.getfield 15, 3) := by decide +kernel
theorem dX4_barPassing_57 : decode cX4_barPassing 57 = .ok (.iload 5, 2) := by decide +kernel
theorem dX4_barPassing_59 : decode cX4_barPassing 59 = .ok (.dup2, 1) := by decide +kernel
theorem dX4_barPassing_60 : decode cX4_barPassing 60 = .ok (.iaload, 1) := by decide +kernel
theorem dX4_barPassing_61 : decode cX4_barPassing 61 = .ok (.iconst 1, 1) := by decide +kernel
theorem dX4_barPassing_62 : decode cX4_barPassing 62 = .ok (.iload 4, 2) := by decide +kernel
theorem dX4_barPassing_64 : decode cX4_barPassing 64 = .ok (.ishl, 1) := by decide +kernel
theorem dX4_barPassing_65 : decode cX4_barPassing 65 = .ok (.ior, 1) := by decide +kernel
theorem dX4_barPassing_66 : decode cX4_barPassing 66 = .ok (.iastore, 1) := by decide +kernel
theorem dX4_barPassing_67 : decode cX4_barPassing 67 = .ok (.iinc 3 1, 3) := by decide +kernel
theorem dX4_barPassing_70 : decode cX4_barPassing 70 = .ok (.goto (-60), 3) := by decide +kernel
theorem dX4_barPassing_73 : decode cX4_barPassing 73 = .ok (.return_, 1) := by decide +kernel
theorem dX5_init_0 : decode cX5_init 0 = .ok (.aload_n 0, 1) := by decide +kernel
theorem dX5_init_1 : decode cX5_init 1 = .ok (.invokespecial 3, 3) := by decide +kernel
theorem dX5_init_4 : decode cX5_init 4 = .ok (.aload_n 0, 1) := by decide +kernel
theorem dX5_init_5 : decode cX5_init 5 = .ok (.bipush 12, 2) := by decide +kernel
theorem dX5_init_7 : decode cX5_init 7 = .ok (.newarray .int, 2) := by decide +kernel
theorem dX5_init_9 : decode cX5_init 9 = .ok (.putfield 9, 3) := by decide +kernel
theorem dX5_init_12 : decode cX5_init 12 = .ok (.aload_n 0, 1) := by decide +kernel
theorem dX5_init_13 : decode cX5_init 13 = .ok (.bipush 12, 2) := by decide +kernel
theorem dX5_init_15 : decode cX5_init 15 = .ok (.newarray .int, 2) := by decide +kernel
theorem dX5_init_17 : decode cX5_init 17 = .ok (.putfield 15, 3) := by decide +kernel
theorem dX5_init_20 : decode cX5_init 20 = .ok (.aload_n 0, 1) := by decide +kernel
theorem dX5_init_21 : decode cX5_init 21 = .ok (.iconst 0, 1) := by decide +kernel
theorem dX5_init_22 : decode cX5_init 22 = .ok (.putfield 18, 3) := by decide +kernel
theorem dX5_init_25 : decode cX5_init 25 = .ok (.aload_n 0, 1) := by decide +kernel
theorem dX5_init_26 : decode cX5_init 26 = .ok (.iconst (-1), 1) := by decide +kernel
theorem dX5_init_27 : decode cX5_init 27 = .ok (.putfield 22, 3) := by decide +kernel
theorem dX5_init_30 : decode cX5_init 30 = .ok (.aload_n 0, 1) := by decide +kernel
theorem dX5_init_31 : decode cX5_init 31 = .ok (.aload_n 1, 1) := by decide +kernel
theorem dX5_init_32 : decode cX5_init 32 = .ok (.putfield 25, 3) := by decide +kernel
theorem dX5_init_35 : decode cX5_init 35 = .ok (.return_, 1) := by decide +kernel
theorem dX6_init_0 : decode cX6_init 0 = .ok (.aload_n 0, 1) := by decide +kernel
theorem dX6_init_1 : decode cX6_init 1 = .ok (.invokespecial 3, 3) := by decide +kernel
theorem dX6_init_4 : decode cX6_init 4 = .ok (.aload_n 0, 1) := by decide +kernel
theorem dX6_init_5 : decode cX6_init 5 = .ok (.bipush 12, 2) := by decide +kernel
theorem dX6_init_7 : decode cX6_init 7 = .ok (.newarray .int, 2) := by decide +kernel
theorem dX6_init_9 : decode cX6_init 9 = .ok (.putfield 9, 3) := by decide +kernel
theorem dX6_init_12 : decode cX6_init 12 = .ok (.aload_n 0, 1) := by decide +kernel
theorem dX6_init_13 : decode cX6_init 13 = .ok (.bipush 12, 2) := by decide +kernel
theorem dX6_init_15 : decode cX6_init 15 = .ok (.newarray .int, 2) := by decide +kernel
theorem dX6_init_17 : decode cX6_init 17 = .ok (.putfield 15, 3) := by decide +kernel
theorem dX6_init_20 : decode cX6_init 20 = .ok (.aload_n 0, 1) := by decide +kernel
theorem dX6_init_21 : decode cX6_init 21 = .ok (.bipush 12, 2) := by decide +kernel
theorem dX6_init_23 : decode cX6_init 23 = .ok (.newarray .int, 2) := by decide +kernel
theorem dX6_init_25 : decode cX6_init 25 = .ok (.putfield 18, 3) := by decide +kernel
theorem dX6_init_28 : decode cX6_init 28 = .ok (.aload_n 0, 1) := by decide +kernel
theorem dX6_init_29 : decode cX6_init 29 = .ok (.bipush 12, 2) := by decide +kernel
theorem dX6_init_31 : decode cX6_init 31 = .ok (.newarray .int, 2) := by decide +kernel
theorem dX6_init_33 : decode cX6_init 33 = .ok (.putfield 21, 3) := by decide +kernel
theorem dX6_init_36 : decode cX6_init 36 = .ok (.aload_n 0, 1) := by decide +kernel
theorem dX6_init_37 : decode cX6_init 37 = .ok (.bipush 12, 2) := by decide +kernel
theorem dX6_init_39 : decode cX6_init 39 = .ok (.newarray .int, 2) := by decide +kernel
theorem dX6_init_41 : decode cX6_init 41 = .ok (.putfield 24, 3) := by decide +kernel
theorem dX6_init_44 : decode cX6_init 44 = .ok (.aload_n 0, 1) := by decide +kernel
theorem dX6_init_45 : decode cX6_init 45 = .ok (.iconst 4, 1) := by decide +kernel
theorem dX6_init_46 : decode cX6_init 46 = .ok (.newarray .int, 2) := by decide +kernel
theorem dX6_init_48 : decode cX6_init 48 = .ok (.putfield 27, 3) := by decide +kernel
theorem dX6_init_51 : decode cX6_init 51 = .ok (.aload_n 0, 1) := by decide +kernel
theorem dX6_init_52 : decode cX6_init 52 = .ok (.iconst 0, 1) := by decide +kernel
theorem dX6_init_53 : decode cX6_init 53 = .ok (.putfield 30, 3) := by decide +kernel
theorem dX6_init_56 : decode cX6_init 56 = .ok (.aload_n 0, 1) := by decide +kernel
theorem dX6_init_57 : decode cX6_init 57 = .ok (.iconst (-1), 1) := by decide +kernel
theorem dX6_init_58 : decode cX6_init 58 = .ok (.putfield 34, 3) := by decide +kernel
theorem dX6_init_61 : decode cX6_init 61 = .ok (.return_, 1) := by decide +kernel
set_option maxRecDepth 20000 in
theorem ggX6_measure_J7_fill_53178 : GoodIn wsX6_measure wsJ7_fill_53178 := goodIn_r _ [23] (by decide +kernel) (by decide +kernel)
set_option maxRecDepth 20000 in
theorem gX6_measure_J7_fill_53178 : GoodIn wsX6_measure (va_wsS RX6 37 yJ7_fill_53178 wsJ7_fill_53178) := goodIn_app (goodIn_of _ (by decide +kernel)) ggX6_measure_J7_fill_53178
set_option maxRecDepth 20000 in
theorem ggX6_measure_X2_cycleLength : GoodIn wsX6_measure wsX2_cycleLength := goodIn_r _ [28, 29, 30, 31, 32, 33, 66, 67, 68, 69, 70, 71, 72, 73, 74, 75, 76, 77, 78, 79, 80, 81, 82, 83, 84] (by decide +kernel) (by decide +kernel)
set_option maxRecDepth 20000 in
theorem gX6_measure_X2_cycleLength : GoodIn wsX6_measure (wsV RX6 54 RX2 yX2_cycleLength wsX2_cycleLength) := goodIn_app (goodIn_of _ (by decide +kernel)) ggX6_measure_X2_cycleLength
set_option maxRecDepth 20000 in
theorem ggX6_measure_X6_seeMinute : GoodIn wsX6_measure wsX6_seeMinute := goodIn_r _ [38, 39, 7, 40, 41, 42, 43, 27, 44, 30, 45, 46, 47, 48, 49, 29, 50, 51, 52, 37, 53, 5, 4, 2, 3, 1, 66, 67, 68, 69, 70, 71, 72, 73, 74, 75, 76, 77, 78, 79, 80, 81, 82, 83, 84, 58, 59, 60, 61, 62, 63, 64, 65] (by decide +kernel) (by decide +kernel)
set_option maxRecDepth 20000 in
theorem gX6_measure_X6_seeMinute : GoodIn wsX6_measure (wsV RX6 58 RX6 yX6_seeMinute wsX6_seeMinute) := goodIn_app (goodIn_of _ (by decide +kernel)) ggX6_measure_X6_seeMinute
set_option maxRecDepth 20000 in
theorem ggX6_measure_X6_closeRound : GoodIn wsX6_measure wsX6_closeRound := goodIn_r _ [57, 5, 2, 4, 3, 58, 59, 60, 61, 62, 63, 64, 65] (by decide +kernel) (by decide +kernel)
set_option maxRecDepth 20000 in
theorem gX6_measure_X6_closeRound : GoodIn wsX6_measure (wsV RX6 65 RX6 yX6_closeRound wsX6_closeRound) := goodIn_app (goodIn_of _ (by decide +kernel)) ggX6_measure_X6_closeRound
theorem dX6_measure_0 : decode cX6_measure 0 = .ok (.aload_n 0, 1) := by decide +kernel
theorem dX6_measure_1 : decode cX6_measure 1 = .ok (.getfield 9, 3) := by decide +kernel
theorem dX6_measure_4 : decode cX6_measure 4 = .ok (.iconst 0, 1) := by decide +kernel
theorem dX6_measure_5 : decode cX6_measure 5 = .ok (.invokestatic 37, 3) := by decide +kernel
theorem dX6_measure_8 : decode cX6_measure 8 = .ok (.aload_n 0, 1) := by decide +kernel
theorem dX6_measure_9 : decode cX6_measure 9 = .ok (.getfield 15, 3) := by decide +kernel
theorem dX6_measure_12 : decode cX6_measure 12 = .ok (.iconst 0, 1) := by decide +kernel
theorem dX6_measure_13 : decode cX6_measure 13 = .ok (.invokestatic 37, 3) := by decide +kernel
theorem dX6_measure_16 : decode cX6_measure 16 = .ok (.aload_n 0, 1) := by decide +kernel
theorem dX6_measure_17 : decode cX6_measure 17 = .ok (.getfield 18, 3) := by decide +kernel
theorem dX6_measure_20 : decode cX6_measure 20 = .ok (.iconst (-1), 1) := by decide +kernel
theorem dX6_measure_21 : decode cX6_measure 21 = .ok (.invokestatic 37, 3) := by decide +kernel
theorem dX6_measure_24 : decode cX6_measure 24 = .ok (.aload_n 0, 1) := by decide +kernel
theorem dX6_measure_25 : decode cX6_measure 25 = .ok (.getfield 21, 3) := by decide +kernel
theorem dX6_measure_28 : decode cX6_measure 28 = .ok (.iconst (-1), 1) := by decide +kernel
theorem dX6_measure_29 : decode cX6_measure 29 = .ok (.invokestatic 37, 3) := by decide +kernel
theorem dX6_measure_32 : decode cX6_measure 32 = .ok (.aload_n 0, 1) := by decide +kernel
theorem dX6_measure_33 : decode cX6_measure 33 = .ok (.getfield 24, 3) := by decide +kernel
theorem dX6_measure_36 : decode cX6_measure 36 = .ok (.iconst (-1), 1) := by decide +kernel
theorem dX6_measure_37 : decode cX6_measure 37 = .ok (.invokestatic 37, 3) := by decide +kernel
theorem dX6_measure_40 : decode cX6_measure 40 = .ok (.aload_n 1, 1) := by decide +kernel
theorem dX6_measure_41 : decode cX6_measure 41 = .ok (.getfield 43, 3) := by decide +kernel
theorem dX6_measure_44 : decode cX6_measure 44 = .ok (.iconst 0, 1) := by decide +kernel
theorem dX6_measure_45 : decode cX6_measure 45 = .ok (.aload_n 0, 1) := by decide +kernel
theorem dX6_measure_46 : decode cX6_measure 46 = .ok (.getfield 27, 3) := by decide +kernel
theorem dX6_measure_49 : decode cX6_measure 49 = .ok (.iconst 0, 1) := by decide +kernel
theorem dX6_measure_50 : decode cX6_measure 50 = .ok (.iconst 4, 1) := by decide +kernel
theorem dX6_measure_51 : decode cX6_measure 51 = .ok (.invokestatic 48, 3) := by decide +kernel
theorem dX6_measure_54 : decode cX6_measure 54 = .ok (.aload_n 1, 1) := by decide +kernel
theorem dX6_measure_55 : decode cX6_measure 55 = .ok (.invokevirtual 54, 3) := by decide +kernel
theorem dX6_measure_58 : decode cX6_measure 58 = .ok (.istore_n 2, 1) := by decide +kernel
theorem dX6_measure_59 : decode cX6_measure 59 = .ok (.iconst 0, 1) := by decide +kernel
theorem dX6_measure_60 : decode cX6_measure 60 = .ok (.istore_n 3, 1) := by decide +kernel
theorem dX6_measure_61 : decode cX6_measure 61 = .ok (.iload_n 3, 1) := by decide +kernel
theorem dX6_measure_62 : decode cX6_measure 62 = .ok (.iload_n 2, 1) := by decide +kernel
theorem dX6_measure_63 : decode cX6_measure 63 = .ok (.if_icmp .ge 15, 3) := by decide +kernel
theorem dX6_measure_66 : decode cX6_measure 66 = .ok (.aload_n 0, 1) := by decide +kernel
theorem dX6_measure_67 : decode cX6_measure 67 = .ok (.aload_n 1, 1) := by decide +kernel
theorem dX6_measure_68 : decode cX6_measure 68 = .ok (.iload_n 3, 1) := by decide +kernel
theorem dX6_measure_69 : decode cX6_measure 69 = .ok (.invokevirtual 58, 3) := by decide +kernel
theorem dX6_measure_72 : decode cX6_measure 72 = .ok (.iinc 3 1, 3) := by decide +kernel
theorem dX6_measure_75 : decode cX6_measure 75 = .ok (.goto (-14), 3) := by decide +kernel
theorem dX6_measure_78 : decode cX6_measure 78 = .ok (.aload_n 0, 1) := by decide +kernel
theorem dX6_measure_79 : decode cX6_measure 79 = .ok (.iconst 0, 1) := by decide +kernel
theorem dX6_measure_80 : decode cX6_measure 80 = .ok (.putfield 30, 3) := by decide +kernel
theorem dX6_measure_83 : decode cX6_measure 83 = .ok (.iconst 0, 1) := by decide +kernel
theorem dX6_measure_84 : decode cX6_measure 84 = .ok (.istore_n 3, 1) := by decide +kernel
theorem dX6_measure_85 : decode cX6_measure 85 = .ok (.iload_n 3, 1) := by decide +kernel
theorem dX6_measure_86 : decode cX6_measure 86 = .ok (.aload_n 1, 1) := by decide +kernel
theorem dX6_measure_87 : decode cX6_measure 87 = .ok (.getfield 62, 3) := by decide +kernel
theorem dX6_measure_90 : decode cX6_measure 90 = .ok (.if_icmp .ge 38, 3) := by decide +kernel
theorem dX6_measure_93 : decode cX6_measure 93 = .ok (.iload_n 3, 1) := by decide +kernel
theorem dX6_measure_94 : decode cX6_measure 94 = .ok (.bipush 12, 2) := by decide +kernel
theorem dX6_measure_96 : decode cX6_measure 96 = .ok (.if_icmp .ge 32, 3) := by decide +kernel
theorem dX6_measure_99 : decode cX6_measure 99 = .ok (.aload_n 0, 1) := by decide +kernel
theorem dX6_measure_100 : decode cX6_measure 100 = .ok (.iload_n 3, 1) := by decide +kernel
theorem dX6_measure_101 : decode cX6_measure 101 = .ok (.iload_n 2, 1) := by decide +kernel
theorem dX6_measure_102 : decode cX6_measure 102 = .ok (.invokevirtual 65, 3) := by decide +kernel
theorem dX6_measure_105 : decode cX6_measure 105 = .ok (.aload_n 0, 1) := by decide +kernel
theorem dX6_measure_106 : decode cX6_measure 106 = .ok (.aload_n 0, 1) := by decide +kernel
theorem dX6_measure_107 : decode cX6_measure 107 = .ok (.getfield 30, 3) := by decide +kernel
theorem dX6_measure_110 : decode cX6_measure 110 = .ok (.aload_n 0, 1) := by decide +kernel
theorem dX6_measure_111 : decode cX6_measure 111 = .ok (.getfield 15, 3) := by decide +kernel
theorem dX6_measure_114 : decode cX6_measure 114 = .ok (.iload_n 3, 1) := by decide +kernel
theorem dX6_measure_115 : decode cX6_measure 115 = .ok (.iaload, 1) := by decide +kernel
theorem dX6_measure_116 : decode cX6_measure 116 = .ok (.invokestatic 69, 3) := by decide +kernel
theorem dX6_measure_119 : decode cX6_measure 119 = .ok (.putfield 30, 3) := by decide +kernel
theorem dX6_measure_122 : decode cX6_measure 122 = .ok (.iinc 3 1, 3) := by decide +kernel
theorem dX6_measure_125 : decode cX6_measure 125 = .ok (.goto (-40), 3) := by decide +kernel
theorem dX6_measure_128 : decode cX6_measure 128 = .ok (.aload_n 0, 1) := by decide +kernel
theorem dX6_measure_129 : decode cX6_measure 129 = .ok (.aload_n 1, 1) := by decide +kernel
theorem dX6_measure_130 : decode cX6_measure 130 = .ok (.getfield 75, 3) := by decide +kernel
theorem dX6_measure_133 : decode cX6_measure 133 = .ok (.putfield 34, 3) := by decide +kernel
theorem dX6_measure_136 : decode cX6_measure 136 = .ok (.return_, 1) := by decide +kernel
set_option maxRecDepth 20000 in
theorem ggX6_seeMinute_X2_walkRoom : GoodIn wsX6_seeMinute wsX2_walkRoom := goodIn_r _ [8, 9, 10, 11, 12, 13, 7, 14, 15, 26, 27, 28, 29, 30, 31, 32, 33, 34, 35, 36, 37, 38, 39, 40, 41, 42, 43, 44] (by decide +kernel) (by decide +kernel)
set_option maxRecDepth 20000 in
theorem gX6_seeMinute_X2_walkRoom : GoodIn wsX6_seeMinute (wsV RX6 81 RX2 yX2_walkRoom wsX2_walkRoom) := goodIn_app (goodIn_of _ (by decide +kernel)) ggX6_seeMinute_X2_walkRoom
set_option maxRecDepth 20000 in
theorem ggX6_seeMinute_X6_seeRoom : GoodIn wsX6_seeMinute wsX6_seeRoom := goodIn_r _ [20, 21, 22, 23, 24, 25, 45, 46, 47, 48, 49, 50, 51, 52] (by decide +kernel) (by decide +kernel)
set_option maxRecDepth 20000 in
theorem gX6_seeMinute_X6_seeRoom : GoodIn wsX6_seeMinute (wsV RX6 84 RX6 yX6_seeRoom wsX6_seeRoom) := goodIn_app (goodIn_of _ (by decide +kernel)) ggX6_seeMinute_X6_seeRoom
theorem dX6_seeMinute_0 : decode cX6_seeMinute 0 = .ok (.iconst 0, 1) := by decide +kernel
theorem dX6_seeMinute_1 : decode cX6_seeMinute 1 = .ok (.istore_n 3, 1) := by decide +kernel
theorem dX6_seeMinute_2 : decode cX6_seeMinute 2 = .ok (.iload_n 3, 1) := by decide +kernel
theorem dX6_seeMinute_3 : decode cX6_seeMinute 3 = .ok (.aload_n 1, 1) := by decide +kernel
theorem dX6_seeMinute_4 : decode cX6_seeMinute 4 = .ok (.getfield 78, 3) := by decide +kernel
theorem dX6_seeMinute_7 : decode cX6_seeMinute 7 = .ok (.if_icmp .ge 62, 3) := by decide +kernel
theorem dX6_seeMinute_10 : decode cX6_seeMinute 10 = .ok (.iload_n 3, 1) := by decide +kernel
theorem dX6_seeMinute_11 : decode cX6_seeMinute 11 = .ok (.iconst 4, 1) := by decide +kernel
theorem dX6_seeMinute_12 : decode cX6_seeMinute 12 = .ok (.if_icmp .ge 57, 3) := by decide +kernel
theorem dX6_seeMinute_15 : decode cX6_seeMinute 15 = .ok (.aload_n 0, 1) := by decide +kernel
theorem dX6_seeMinute_16 : decode cX6_seeMinute 16 = .ok (.aload_n 1, 1) := by decide +kernel
theorem dX6_seeMinute_17 : decode cX6_seeMinute 17 = .ok (.iload_n 3, 1) := by decide +kernel
theorem dX6_seeMinute_18 : decode cX6_seeMinute 18 = .ok (.aload_n 0, 1) := by decide +kernel
theorem dX6_seeMinute_19 : decode cX6_seeMinute 19 = .ok (.getfield 27, 3) := by decide +kernel
theorem dX6_seeMinute_22 : decode cX6_seeMinute 22 = .ok (.iload_n 3, 1) := by decide +kernel
theorem dX6_seeMinute_23 : decode cX6_seeMinute 23 = .ok (.iaload, 1) := by decide +kernel
theorem dX6_seeMinute_24 : decode cX6_seeMinute 24 = .ok (.invokevirtual 81, 3) := by decide +kernel
theorem dX6_seeMinute_27 : decode cX6_seeMinute 27 = .ok (.iload_n 2, 1) := by decide +kernel
theorem dX6_seeMinute_28 : decode cX6_seeMinute 28 = .ok (.invokevirtual 84, 3) := by decide +kernel
theorem dX6_seeMinute_31 : decode cX6_seeMinute 31 = .ok (.aload_n 0, 1) := by decide +kernel
theorem dX6_seeMinute_32 : decode cX6_seeMinute 32 = .ok (.getfield 27, 3) := by decide +kernel
theorem dX6_seeMinute_35 : decode cX6_seeMinute 35 = .ok (.iload_n 3, 1) := by decide +kernel
theorem dX6_seeMinute_36 : decode cX6_seeMinute 36 = .ok (.dup2, 1) := by decide +kernel
theorem dX6_seeMinute_37 : decode cX6_seeMinute 37 = .ok (.iaload, 1) := by decide +kernel
theorem dX6_seeMinute_38 : decode cX6_seeMinute 38 = .ok (.iconst 1, 1) := by decide +kernel
theorem dX6_seeMinute_39 : decode cX6_seeMinute 39 = .ok (.iadd, 1) := by decide +kernel
theorem dX6_seeMinute_40 : decode cX6_seeMinute 40 = .ok (.iastore, 1) := by decide +kernel
theorem dX6_seeMinute_41 : decode cX6_seeMinute 41 = .ok (.aload_n 0, 1) := by decide +kernel
theorem dX6_seeMinute_42 : decode cX6_seeMinute 42 = .ok (.getfield 27, 3) := by decide +kernel
theorem dX6_seeMinute_45 : decode cX6_seeMinute 45 = .ok (.iload_n 3, 1) := by decide +kernel
theorem dX6_seeMinute_46 : decode cX6_seeMinute 46 = .ok (.iaload, 1) := by decide +kernel
theorem dX6_seeMinute_47 : decode cX6_seeMinute 47 = .ok (.aload_n 1, 1) := by decide +kernel
theorem dX6_seeMinute_48 : decode cX6_seeMinute 48 = .ok (.getfield 87, 3) := by decide +kernel
theorem dX6_seeMinute_51 : decode cX6_seeMinute 51 = .ok (.iload_n 3, 1) := by decide +kernel
theorem dX6_seeMinute_52 : decode cX6_seeMinute 52 = .ok (.iaload, 1) := by decide +kernel
theorem dX6_seeMinute_53 : decode cX6_seeMinute 53 = .ok (.if_icmp .lt 10, 3) := by decide +kernel
theorem dX6_seeMinute_56 : decode cX6_seeMinute 56 = .ok (.aload_n 0, 1) := by decide +kernel
theorem dX6_seeMinute_57 : decode cX6_seeMinute 57 = .ok (.getfield 27, 3) := by decide +kernel
theorem dX6_seeMinute_60 : decode cX6_seeMinute 60 = .ok (.iload_n 3, 1) := by decide +kernel
theorem dX6_seeMinute_61 : decode cX6_seeMinute 61 = .ok (.iconst 0, 1) := by decide +kernel
theorem dX6_seeMinute_62 : decode cX6_seeMinute 62 = .ok (.iastore, 1) := by decide +kernel
theorem dX6_seeMinute_63 : decode cX6_seeMinute 63 = .ok (.iinc 3 1, 3) := by decide +kernel
theorem dX6_seeMinute_66 : decode cX6_seeMinute 66 = .ok (.goto (-64), 3) := by decide +kernel
theorem dX6_seeMinute_69 : decode cX6_seeMinute 69 = .ok (.return_, 1) := by decide +kernel
theorem dX6_seeRoom_0 : decode cX6_seeRoom 0 = .ok (.iload_n 1, 1) := by decide +kernel
theorem dX6_seeRoom_1 : decode cX6_seeRoom 1 = .ok (.ifCond .lt 19, 3) := by decide +kernel
theorem dX6_seeRoom_4 : decode cX6_seeRoom 4 = .ok (.iload_n 1, 1) := by decide +kernel
theorem dX6_seeRoom_5 : decode cX6_seeRoom 5 = .ok (.bipush 12, 2) := by decide +kernel
theorem dX6_seeRoom_7 : decode cX6_seeRoom 7 = .ok (.if_icmp .ge 13, 3) := by decide +kernel
theorem dX6_seeRoom_10 : decode cX6_seeRoom 10 = .ok (.aload_n 0, 1) := by decide +kernel
theorem dX6_seeRoom_11 : decode cX6_seeRoom 11 = .ok (.getfield 24, 3) := by decide +kernel
theorem dX6_seeRoom_14 : decode cX6_seeRoom 14 = .ok (.iload_n 1, 1) := by decide +kernel
theorem dX6_seeRoom_15 : decode cX6_seeRoom 15 = .ok (.iaload, 1) := by decide +kernel
theorem dX6_seeRoom_16 : decode cX6_seeRoom 16 = .ok (.iload_n 2, 1) := by decide +kernel
theorem dX6_seeRoom_17 : decode cX6_seeRoom 17 = .ok (.if_icmp .ne 4, 3) := by decide +kernel
theorem dX6_seeRoom_20 : decode cX6_seeRoom 20 = .ok (.return_, 1) := by decide +kernel
theorem dX6_seeRoom_21 : decode cX6_seeRoom 21 = .ok (.aload_n 0, 1) := by decide +kernel
theorem dX6_seeRoom_22 : decode cX6_seeRoom 22 = .ok (.getfield 24, 3) := by decide +kernel
theorem dX6_seeRoom_25 : decode cX6_seeRoom 25 = .ok (.iload_n 1, 1) := by decide +kernel
theorem dX6_seeRoom_26 : decode cX6_seeRoom 26 = .ok (.iaload, 1) := by decide +kernel
theorem dX6_seeRoom_27 : decode cX6_seeRoom 27 = .ok (.iconst (-1), 1) := by decide +kernel
theorem dX6_seeRoom_28 : decode cX6_seeRoom 28 = .ok (.if_icmp .ne 13, 3) := by decide +kernel
theorem dX6_seeRoom_31 : decode cX6_seeRoom 31 = .ok (.aload_n 0, 1) := by decide +kernel
theorem dX6_seeRoom_32 : decode cX6_seeRoom 32 = .ok (.getfield 21, 3) := by decide +kernel
theorem dX6_seeRoom_35 : decode cX6_seeRoom 35 = .ok (.iload_n 1, 1) := by decide +kernel
theorem dX6_seeRoom_36 : decode cX6_seeRoom 36 = .ok (.iload_n 2, 1) := by decide +kernel
theorem dX6_seeRoom_37 : decode cX6_seeRoom 37 = .ok (.iastore, 1) := by decide +kernel
theorem dX6_seeRoom_38 : decode cX6_seeRoom 38 = .ok (.goto 52, 3) := by decide +kernel
theorem dX6_seeRoom_41 : decode cX6_seeRoom 41 = .ok (.iload_n 2, 1) := by decide +kernel
theorem dX6_seeRoom_42 : decode cX6_seeRoom 42 = .ok (.aload_n 0, 1) := by decide +kernel
theorem dX6_seeRoom_43 : decode cX6_seeRoom 43 = .ok (.getfield 24, 3) := by decide +kernel
theorem dX6_seeRoom_46 : decode cX6_seeRoom 46 = .ok (.iload_n 1, 1) := by decide +kernel
theorem dX6_seeRoom_47 : decode cX6_seeRoom 47 = .ok (.iaload, 1) := by decide +kernel
theorem dX6_seeRoom_48 : decode cX6_seeRoom 48 = .ok (.isub, 1) := by decide +kernel
theorem dX6_seeRoom_49 : decode cX6_seeRoom 49 = .ok (.iconst 1, 1) := by decide +kernel
theorem dX6_seeRoom_50 : decode cX6_seeRoom 50 = .ok (.isub, 1) := by decide +kernel
theorem dX6_seeRoom_51 : decode cX6_seeRoom 51 = .ok (.aload_n 0, 1) := by decide +kernel
theorem dX6_seeRoom_52 : decode cX6_seeRoom 52 = .ok (.getfield 15, 3) := by decide +kernel
theorem dX6_seeRoom_55 : decode cX6_seeRoom 55 = .ok (.iload_n 1, 1) := by decide +kernel
theorem dX6_seeRoom_56 : decode cX6_seeRoom 56 = .ok (.iaload, 1) := by decide +kernel
theorem dX6_seeRoom_57 : decode cX6_seeRoom 57 = .ok (.if_icmp .le 33, 3) := by decide +kernel
theorem dX6_seeRoom_60 : decode cX6_seeRoom 60 = .ok (.aload_n 0, 1) := by decide +kernel
theorem dX6_seeRoom_61 : decode cX6_seeRoom 61 = .ok (.getfield 15, 3) := by decide +kernel
theorem dX6_seeRoom_64 : decode cX6_seeRoom 64 = .ok (.iload_n 1, 1) := by decide +kernel
theorem dX6_seeRoom_65 : decode cX6_seeRoom 65 = .ok (.iload_n 2, 1) := by decide +kernel
theorem dX6_seeRoom_66 : decode cX6_seeRoom 66 = .ok (.aload_n 0, 1) := by decide +kernel
theorem dX6_seeRoom_67 : decode cX6_seeRoom 67 = .ok (.getfield 24, 3) := by decide +kernel
theorem dX6_seeRoom_70 : decode cX6_seeRoom 70 = .ok (.iload_n 1, 1) := by decide +kernel
theorem dX6_seeRoom_71 : decode cX6_seeRoom 71 = .ok (.iaload, 1) := by decide +kernel
theorem dX6_seeRoom_72 : decode cX6_seeRoom 72 = .ok (.isub, 1) := by decide +kernel
theorem dX6_seeRoom_73 : decode cX6_seeRoom 73 = .ok (.iconst 1, 1) := by decide +kernel
theorem dX6_seeRoom_74 : decode cX6_seeRoom 74 = .ok (.isub, 1) := by decide +kernel
theorem dX6_seeRoom_75 : decode cX6_seeRoom 75 = .ok (.iastore, 1) := by decide +kernel
theorem dX6_seeRoom_76 : decode cX6_seeRoom 76 = .ok (.aload_n 0, 1) := by decide +kernel
theorem dX6_seeRoom_77 : decode cX6_seeRoom 77 = .ok (.getfield 18, 3) := by decide +kernel
theorem dX6_seeRoom_80 : decode cX6_seeRoom 80 = .ok (.iload_n 1, 1) := by decide +kernel
theorem dX6_seeRoom_81 : decode cX6_seeRoom 81 = .ok (.aload_n 0, 1) := by decide +kernel
theorem dX6_seeRoom_82 : decode cX6_seeRoom 82 = .ok (.getfield 24, 3) := by decide +kernel
theorem dX6_seeRoom_85 : decode cX6_seeRoom 85 = .ok (.iload_n 1, 1) := by decide +kernel
theorem dX6_seeRoom_86 : decode cX6_seeRoom 86 = .ok (.iaload, 1) := by decide +kernel
theorem dX6_seeRoom_87 : decode cX6_seeRoom 87 = .ok (.iconst 1, 1) := by decide +kernel
theorem dX6_seeRoom_88 : decode cX6_seeRoom 88 = .ok (.iadd, 1) := by decide +kernel
theorem dX6_seeRoom_89 : decode cX6_seeRoom 89 = .ok (.iastore, 1) := by decide +kernel
theorem dX6_seeRoom_90 : decode cX6_seeRoom 90 = .ok (.aload_n 0, 1) := by decide +kernel
theorem dX6_seeRoom_91 : decode cX6_seeRoom 91 = .ok (.getfield 24, 3) := by decide +kernel
theorem dX6_seeRoom_94 : decode cX6_seeRoom 94 = .ok (.iload_n 1, 1) := by decide +kernel
theorem dX6_seeRoom_95 : decode cX6_seeRoom 95 = .ok (.iload_n 2, 1) := by decide +kernel
theorem dX6_seeRoom_96 : decode cX6_seeRoom 96 = .ok (.iastore, 1) := by decide +kernel
theorem dX6_seeRoom_97 : decode cX6_seeRoom 97 = .ok (.aload_n 0, 1) := by decide +kernel
theorem dX6_seeRoom_98 : decode cX6_seeRoom 98 = .ok (.getfield 9, 3) := by decide +kernel
theorem dX6_seeRoom_101 : decode cX6_seeRoom 101 = .ok (.iload_n 1, 1) := by decide +kernel
theorem dX6_seeRoom_102 : decode cX6_seeRoom 102 = .ok (.dup2, 1) := by decide +kernel
theorem dX6_seeRoom_103 : decode cX6_seeRoom 103 = .ok (.iaload, 1) := by decide +kernel
theorem dX6_seeRoom_104 : decode cX6_seeRoom 104 = .ok (.iconst 1, 1) := by decide +kernel

theorem wsL_law_x0 : ∀ w ∈ (vx_atS RX8 352 "java/lang/IllegalArgumentException" ["java/lang/RuntimeException", "java/lang/Exception"]).filter goodWord, w ∈ lw_tbl := by decide +kernel
theorem wsL_law_x1 : ∀ w ∈ (vx_atS RX8 158 "java/util/NoSuchElementException" ["java/lang/RuntimeException", "java/lang/Exception"]).filter goodWord, w ∈ lw_tbl := by decide +kernel
theorem wsL_law_in : ∀ w ∈ wsL_law, w ∈ lw_tbl := fun w h => (List.mem_append.mp h).elim (fun h => (List.mem_append.mp h).elim (fun h => wsL_law_in0 w h) (fun h => wsL_law_x0 w h)) (fun h => wsL_law_x1 w h)
theorem inlX0 : ∀ w ∈ wsX00, w ∈ wsL_law := fun _ h => List.mem_append_left _ (List.mem_append_left _ (List.mem_append_left _ (List.mem_append_left _ (List.mem_append_left _ (List.mem_append_left _ (List.mem_append_left _ (List.mem_append_right _ h)))))))
theorem inX0 : ∀ w ∈ wsX00, w ∈ lw_tbl := fun w h => wsL_law_in w (inlX0 w h)
theorem inlX1 : ∀ w ∈ wsX10, w ∈ wsL_law := fun _ h => List.mem_append_left _ (List.mem_append_left _ (List.mem_append_left _ (List.mem_append_left _ (List.mem_append_left _ (List.mem_append_left _ (List.mem_append_left _ (List.mem_append_left _ (List.mem_append_left _ (List.mem_append_right _ h)))))))))
theorem inX1 : ∀ w ∈ wsX10, w ∈ lw_tbl := fun w h => wsL_law_in w (inlX1 w h)
theorem inlX2 : ∀ w ∈ wsX20, w ∈ wsL_law := fun _ h => List.mem_append_left _ (List.mem_append_left _ (List.mem_append_left _ (List.mem_append_left _ (List.mem_append_left _ (List.mem_append_left _ (List.mem_append_left _ (List.mem_append_left _ (List.mem_append_left _ (List.mem_append_left _ (List.mem_append_right _ h))))))))))
theorem inX2 : ∀ w ∈ wsX20, w ∈ lw_tbl := fun w h => wsL_law_in w (inlX2 w h)
theorem inlX3 : ∀ w ∈ wsX30, w ∈ wsL_law := fun _ h => List.mem_append_left _ (List.mem_append_left _ (List.mem_append_left _ (List.mem_append_left _ (List.mem_append_right _ h))))
theorem inX3 : ∀ w ∈ wsX30, w ∈ lw_tbl := fun w h => wsL_law_in w (inlX3 w h)
theorem inlX4 : ∀ w ∈ wsX40, w ∈ wsL_law := fun _ h => List.mem_append_left _ (List.mem_append_left _ (List.mem_append_left _ (List.mem_append_left _ (List.mem_append_left _ (List.mem_append_left _ (List.mem_append_right _ h))))))
theorem inX4 : ∀ w ∈ wsX40, w ∈ lw_tbl := fun w h => wsL_law_in w (inlX4 w h)
theorem inlX5 : ∀ w ∈ wsX50, w ∈ wsL_law := fun _ h => List.mem_append_left _ (List.mem_append_left _ (List.mem_append_left _ (List.mem_append_right _ h)))
theorem inX5 : ∀ w ∈ wsX50, w ∈ lw_tbl := fun w h => wsL_law_in w (inlX5 w h)
theorem inlX6 : ∀ w ∈ wsX60, w ∈ wsL_law := fun _ h => List.mem_append_left _ (List.mem_append_left _ (List.mem_append_left _ (List.mem_append_left _ (List.mem_append_left _ (List.mem_append_left _ (List.mem_append_left _ (List.mem_append_left _ (List.mem_append_right _ h))))))))
theorem inX6 : ∀ w ∈ wsX60, w ∈ lw_tbl := fun w h => wsL_law_in w (inlX6 w h)
theorem inlX7 : ∀ w ∈ wsX70, w ∈ wsL_law := fun _ h => List.mem_append_left _ (List.mem_append_left _ (List.mem_append_left _ (List.mem_append_left _ (List.mem_append_left _ (List.mem_append_right _ h)))))
theorem inX7 : ∀ w ∈ wsX70, w ∈ lw_tbl := fun w h => wsL_law_in w (inlX7 w h)
theorem inlX8 : ∀ w ∈ wsX80, w ∈ wsL_law := fun _ h => List.mem_append_left _ (List.mem_append_left _ (List.mem_append_left _ (List.mem_append_left _ (List.mem_append_left _ (List.mem_append_left _ (List.mem_append_left _ (List.mem_append_left _ (List.mem_append_left _ (List.mem_append_left _ (List.mem_append_left _ (List.mem_append_left _ (List.mem_append_right _ h))))))))))))
theorem inX8 : ∀ w ∈ wsX80, w ∈ lw_tbl := fun w h => wsL_law_in w (inlX8 w h)
theorem inlX9 : ∀ w ∈ wsX90, w ∈ wsL_law := fun _ h => List.mem_append_left _ (List.mem_append_left _ (List.mem_append_left _ (List.mem_append_left _ (List.mem_append_left _ (List.mem_append_left _ (List.mem_append_left _ (List.mem_append_left _ (List.mem_append_left _ (List.mem_append_left _ (List.mem_append_left _ (List.mem_append_right _ h)))))))))))
theorem inX9 : ∀ w ∈ wsX90, w ∈ lw_tbl := fun w h => wsL_law_in w (inlX9 w h)
theorem inX10 : ∀ w ∈ wsX100, w ∈ lw_tbl := by decide +kernel
theorem inJx145de : ∀ w ∈ wsJx145de0, w ∈ lw_tbl := by decide +kernel
theorem inJx9f9b0 : ∀ w ∈ wsJx9f9b00, w ∈ lw_tbl := by decide +kernel
theorem inJx8e188 : ∀ w ∈ wsJx8e1880, w ∈ lw_tbl := by decide +kernel
theorem inJxb160c : ∀ w ∈ wsJxb160c0, w ∈ lw_tbl := by decide +kernel
theorem inJ6 : ∀ w ∈ wsJ60, w ∈ lw_tbl := by decide +kernel
theorem inJ9 : ∀ w ∈ wsJ90, w ∈ lw_tbl := by decide +kernel
theorem inJ0 : ∀ w ∈ wsJ00, w ∈ lw_tbl := by decide +kernel
theorem inJ1 : ∀ w ∈ wsJ10, w ∈ lw_tbl := by decide +kernel
theorem inJ2 : ∀ w ∈ wsJ20, w ∈ lw_tbl := by decide +kernel
theorem inJ10 : ∀ w ∈ wsJ100, w ∈ lw_tbl := by decide +kernel
theorem inJxfd54e : ∀ w ∈ wsJxfd54e0, w ∈ lw_tbl := by decide +kernel
theorem inJx3cf43 : ∀ w ∈ wsJx3cf430, w ∈ lw_tbl := by decide +kernel
theorem inJ7 : ∀ w ∈ wsJ70, w ∈ lw_tbl := by decide +kernel
theorem inJ3 : ∀ w ∈ wsJ30, w ∈ lw_tbl := by decide +kernel
set_option maxRecDepth 20000 in
theorem ggX0_init_X2_init : GoodIn wsX0_init wsX2_init := goodIn_r _ [19, 20, 2, 3, 21, 22, 23, 24, 25, 26, 27, 4, 28, 29, 30, 31, 32, 33, 34, 35, 36, 37, 38, 39, 58, 59, 60, 61, 62, 63, 64, 65, 66, 67, 68, 69, 70, 71, 72, 73, 74, 75, 76] (by decide +kernel) (by decide +kernel)
set_option maxRecDepth 20000 in
theorem gX0_init_X2_init_n30 : GoodIn wsX0_init (wsX2_init) := ggX0_init_X2_init
set_option maxRecDepth 20000 in
theorem ggX0_init_X6_init : GoodIn wsX0_init wsX6_init := goodIn_r _ [41, 42, 2, 3, 4, 43, 44, 45, 46, 47, 48, 49, 50, 77, 78, 79, 80, 81, 82, 83, 84] (by decide +kernel) (by decide +kernel)
set_option maxRecDepth 20000 in
theorem gX0_init_X6_init_n37 : GoodIn wsX0_init (wsX6_init) := ggX0_init_X6_init
theorem dX0_init_0 : decode cX0_init 0 = .ok (.aload_n 0, 1) := by decide +kernel
theorem dX0_init_1 : decode cX0_init 1 = .ok (.invokespecial 3, 3) := by decide +kernel
theorem dX0_init_4 : decode cX0_init 4 = .ok (.aload_n 0, 1) := by decide +kernel
theorem dX0_init_5 : decode cX0_init 5 = .ok (.iconst 4, 1) := by decide +kernel
theorem dX0_init_6 : decode cX0_init 6 = .ok (.newarray .int, 2) := by decide +kernel
theorem dX0_init_8 : decode cX0_init 8 = .ok (.putfield 9, 3) := by decide +kernel
theorem dX0_init_11 : decode cX0_init 11 = .ok (.aload_n 0, 1) := by decide +kernel
theorem dX0_init_12 : decode cX0_init 12 = .ok (.iconst 0, 1) := by decide +kernel
theorem dX0_init_13 : decode cX0_init 13 = .ok (.putfield 15, 3) := by decide +kernel
theorem dX0_init_16 : decode cX0_init 16 = .ok (.aload_n 0, 1) := by decide +kernel
theorem dX0_init_17 : decode cX0_init 17 = .ok (.iconst 0, 1) := by decide +kernel
theorem dX0_init_18 : decode cX0_init 18 = .ok (.putfield 19, 3) := by decide +kernel
theorem dX0_init_21 : decode cX0_init 21 = .ok (.aload_n 0, 1) := by decide +kernel
theorem dX0_init_22 : decode cX0_init 22 = .ok (.iconst (-1), 1) := by decide +kernel
theorem dX0_init_23 : decode cX0_init 23 = .ok (.putfield 22, 3) := by decide +kernel
theorem dX0_init_26 : decode cX0_init 26 = .ok (.aload_n 0, 1) := by decide +kernel
theorem dX0_init_27 : decode cX0_init 27 = .ok (.iconst 4, 1) := by decide +kernel
theorem dX0_init_28 : decode cX0_init 28 = .ok (.newarray .int, 2) := by decide +kernel
theorem dX0_init_30 : decode cX0_init 30 = .ok (.putfield 25, 3) := by decide +kernel
theorem dX0_init_33 : decode cX0_init 33 = .ok (.aload_n 0, 1) := by decide +kernel
theorem dX0_init_34 : decode cX0_init 34 = .ok (.new 28, 3) := by decide +kernel
theorem dX0_init_37 : decode cX0_init 37 = .ok (.dup, 1) := by decide +kernel
theorem dX0_init_38 : decode cX0_init 38 = .ok (.invokespecial 30, 3) := by decide +kernel
theorem dX0_init_41 : decode cX0_init 41 = .ok (.putfield 31, 3) := by decide +kernel
theorem dX0_init_44 : decode cX0_init 44 = .ok (.aload_n 0, 1) := by decide +kernel
theorem dX0_init_45 : decode cX0_init 45 = .ok (.new 35, 3) := by decide +kernel
theorem dX0_init_48 : decode cX0_init 48 = .ok (.dup, 1) := by decide +kernel
theorem dX0_init_49 : decode cX0_init 49 = .ok (.invokespecial 37, 3) := by decide +kernel
theorem dX0_init_52 : decode cX0_init 52 = .ok (.putfield 38, 3) := by decide +kernel
theorem dX0_init_55 : decode cX0_init 55 = .ok (.return_, 1) := by decide +kernel
set_option maxRecDepth 20000 in
theorem ggX0_search_X2_copyFrom : GoodIn wsX0_search wsX2_copyFrom := goodIn_r _ [8, 9, 10, 11, 12, 13, 14, 15, 16, 17, 18, 19, 20, 21, 22, 23, 24, 25, 26, 27, 28, 29, 30, 31, 132, 133, 134, 135, 136, 137, 138, 139, 140, 141, 142, 143, 144, 145, 146, 147, 148, 149, 150] (by decide +kernel) (by decide +kernel)
set_option maxRecDepth 20000 in
theorem gX0_search_X2_copyFrom : GoodIn wsX0_search (wsV RX0 42 RX2 yX2_copyFrom wsX2_copyFrom) := goodIn_app (goodIn_of _ (by decide +kernel)) ggX0_search_X2_copyFrom
set_option maxRecDepth 20000 in
theorem ggX0_search_X0_beginChoices : GoodIn wsX0_search wsX0_beginChoices := goodIn_r _ [36, 1, 37, 38, 39, 40, 41, 42, 43, 125, 126, 127, 128, 129, 130, 131, 132, 133, 134, 135, 136, 137, 138, 139, 140, 141, 142, 143, 144, 145, 146, 147, 148, 149, 150] (by decide +kernel) (by decide +kernel)
set_option maxRecDepth 20000 in
theorem gX0_search_X0_beginChoices : GoodIn wsX0_search (wsV RX0 46 RX0 yX0_beginChoices wsX0_beginChoices) := goodIn_app (goodIn_of _ (by decide +kernel)) ggX0_search_X0_beginChoices
set_option maxRecDepth 20000 in
theorem ggX0_search_X0_tryPhases : GoodIn wsX0_search wsX0_tryPhases := goodIn_r _ [47, 48, 1, 49, 50, 51, 40, 52, 53, 18, 19, 20, 54, 55, 56, 57, 58, 59, 60, 61, 62, 63, 64, 65, 66, 67, 68, 69, 70, 71, 72, 73, 74, 75, 76, 77, 78, 79, 80, 81, 7, 82, 11, 24, 41, 42, 43, 83, 84, 85, 86, 87, 88, 89, 90, 91, 92, 26, 93, 94, 95, 96, 97, 98, 99, 100, 101, 102, 103, 104, 105, 106, 107, 108, 109, 110, 111, 112, 113, 114, 115, 116, 117, 25, 125, 126, 127, 128, 129, 130, 131, 151, 152, 153, 154, 155, 156, 157, 158, 132, 133, 134, 135, 136, 137, 138, 139, 140, 141, 142, 143, 144, 145, 146, 147, 148, 149, 150] (by decide +kernel) (by decide +kernel)
set_option maxRecDepth 20000 in
theorem gX0_search_X0_tryPhases : GoodIn wsX0_search (wsV RX0 50 RX0 yX0_tryPhases wsX0_tryPhases) := goodIn_app (goodIn_of _ (by decide +kernel)) ggX0_search_X0_tryPhases
set_option maxRecDepth 20000 in
theorem ggX0_search_X0_nextChoice : GoodIn wsX0_search wsX0_nextChoice := goodIn_r _ [121, 1, 37, 122, 123, 71, 124, 40, 39, 125, 126, 127, 128, 129, 130, 131, 132, 133, 134, 135, 136, 137, 138, 139, 140, 141, 142, 143, 144, 145, 146, 147, 148, 149, 150] (by decide +kernel) (by decide +kernel)
set_option maxRecDepth 20000 in
theorem gX0_search_X0_nextChoice : GoodIn wsX0_search (wsV RX0 54 RX0 yX0_nextChoice wsX0_nextChoice) := goodIn_app (goodIn_of _ (by decide +kernel)) ggX0_search_X0_nextChoice
theorem dX0_search_0 : decode cX0_search 0 = .ok (.aload_n 0, 1) := by decide +kernel
theorem dX0_search_1 : decode cX0_search 1 = .ok (.getfield 31, 3) := by decide +kernel
theorem dX0_search_4 : decode cX0_search 4 = .ok (.aload_n 1, 1) := by decide +kernel
theorem dX0_search_5 : decode cX0_search 5 = .ok (.invokevirtual 42, 3) := by decide +kernel
theorem dX0_search_8 : decode cX0_search 8 = .ok (.aload_n 0, 1) := by decide +kernel
theorem dX0_search_9 : decode cX0_search 9 = .ok (.invokevirtual 46, 3) := by decide +kernel
theorem dX0_search_12 : decode cX0_search 12 = .ok (.istore_n 2, 1) := by decide +kernel
theorem dX0_search_13 : decode cX0_search 13 = .ok (.iconst 0, 1) := by decide +kernel
theorem dX0_search_14 : decode cX0_search 14 = .ok (.istore_n 3, 1) := by decide +kernel
theorem dX0_search_15 : decode cX0_search 15 = .ok (.iload_n 3, 1) := by decide +kernel
theorem dX0_search_16 : decode cX0_search 16 = .ok (.iload_n 2, 1) := by decide +kernel
theorem dX0_search_17 : decode cX0_search 17 = .ok (.if_icmp .ge 26, 3) := by decide +kernel
theorem dX0_search_20 : decode cX0_search 20 = .ok (.aload_n 0, 1) := by decide +kernel
theorem dX0_search_21 : decode cX0_search 21 = .ok (.iload_n 3, 1) := by decide +kernel
theorem dX0_search_22 : decode cX0_search 22 = .ok (.ifCond .ne 7, 3) := by decide +kernel
theorem dX0_search_25 : decode cX0_search 25 = .ok (.iconst 1, 1) := by decide +kernel
theorem dX0_search_26 : decode cX0_search 26 = .ok (.goto 4, 3) := by decide +kernel
theorem dX0_search_29 : decode cX0_search 29 = .ok (.iconst 0, 1) := by decide +kernel
theorem dX0_search_30 : decode cX0_search 30 = .ok (.invokevirtual 50, 3) := by decide +kernel
theorem dX0_search_33 : decode cX0_search 33 = .ok (.aload_n 0, 1) := by decide +kernel
theorem dX0_search_34 : decode cX0_search 34 = .ok (.invokevirtual 54, 3) := by decide +kernel
theorem dX0_search_37 : decode cX0_search 37 = .ok (.iinc 3 1, 3) := by decide +kernel
theorem dX0_search_40 : decode cX0_search 40 = .ok (.goto (-25), 3) := by decide +kernel
theorem dX0_search_43 : decode cX0_search 43 = .ok (.aload_n 0, 1) := by decide +kernel
theorem dX0_search_44 : decode cX0_search 44 = .ok (.aload_n 1, 1) := by decide +kernel
theorem dX0_search_45 : decode cX0_search 45 = .ok (.getfield 57, 3) := by decide +kernel
theorem dX0_search_48 : decode cX0_search 48 = .ok (.putfield 22, 3) := by decide +kernel
theorem dX0_search_51 : decode cX0_search 51 = .ok (.return_, 1) := by decide +kernel
set_option maxRecDepth 20000 in
theorem ggX0_beginChoices_X8_leastMultiple : GoodIn wsX0_beginChoices wsX8_leastMultiple := goodIn_r _ [8] (by decide +kernel) (by decide +kernel)
set_option maxRecDepth 20000 in
theorem gX0_beginChoices_X8_leastMultiple_n66 : GoodIn wsX0_beginChoices (wsX8_leastMultiple) := ggX0_beginChoices_X8_leastMultiple
theorem dX0_beginChoices_0 : decode cX0_beginChoices 0 = .ok (.iconst 1, 1) := by decide +kernel
theorem dX0_beginChoices_1 : decode cX0_beginChoices 1 = .ok (.istore_n 1, 1) := by decide +kernel
theorem dX0_beginChoices_2 : decode cX0_beginChoices 2 = .ok (.iconst 1, 1) := by decide +kernel
theorem dX0_beginChoices_3 : decode cX0_beginChoices 3 = .ok (.istore_n 2, 1) := by decide +kernel
theorem dX0_beginChoices_4 : decode cX0_beginChoices 4 = .ok (.iconst 0, 1) := by decide +kernel
theorem dX0_beginChoices_5 : decode cX0_beginChoices 5 = .ok (.istore_n 3, 1) := by decide +kernel
theorem dX0_beginChoices_6 : decode cX0_beginChoices 6 = .ok (.iload_n 3, 1) := by decide +kernel
theorem dX0_beginChoices_7 : decode cX0_beginChoices 7 = .ok (.aload_n 0, 1) := by decide +kernel
theorem dX0_beginChoices_8 : decode cX0_beginChoices 8 = .ok (.getfield 31, 3) := by decide +kernel
theorem dX0_beginChoices_11 : decode cX0_beginChoices 11 = .ok (.getfield 60, 3) := by decide +kernel
theorem dX0_beginChoices_14 : decode cX0_beginChoices 14 = .ok (.if_icmp .ge 81, 3) := by decide +kernel
theorem dX0_beginChoices_17 : decode cX0_beginChoices 17 = .ok (.iload_n 3, 1) := by decide +kernel
theorem dX0_beginChoices_18 : decode cX0_beginChoices 18 = .ok (.iconst 4, 1) := by decide +kernel
theorem dX0_beginChoices_19 : decode cX0_beginChoices 19 = .ok (.if_icmp .ge 76, 3) := by decide +kernel
theorem dX0_beginChoices_22 : decode cX0_beginChoices 22 = .ok (.iload_n 1, 1) := by decide +kernel
theorem dX0_beginChoices_23 : decode cX0_beginChoices 23 = .ok (.aload_n 0, 1) := by decide +kernel
theorem dX0_beginChoices_24 : decode cX0_beginChoices 24 = .ok (.getfield 31, 3) := by decide +kernel
theorem dX0_beginChoices_27 : decode cX0_beginChoices 27 = .ok (.getfield 63, 3) := by decide +kernel
theorem dX0_beginChoices_30 : decode cX0_beginChoices 30 = .ok (.iload_n 3, 1) := by decide +kernel
theorem dX0_beginChoices_31 : decode cX0_beginChoices 31 = .ok (.iaload, 1) := by decide +kernel
theorem dX0_beginChoices_32 : decode cX0_beginChoices 32 = .ok (.invokestatic 66, 3) := by decide +kernel
theorem dX0_beginChoices_35 : decode cX0_beginChoices 35 = .ok (.istore 4, 2) := by decide +kernel
theorem dX0_beginChoices_37 : decode cX0_beginChoices 37 = .ok (.aload_n 0, 1) := by decide +kernel
theorem dX0_beginChoices_38 : decode cX0_beginChoices 38 = .ok (.getfield 25, 3) := by decide +kernel
theorem dX0_beginChoices_41 : decode cX0_beginChoices 41 = .ok (.iload_n 3, 1) := by decide +kernel
theorem dX0_beginChoices_42 : decode cX0_beginChoices 42 = .ok (.iload 4, 2) := by decide +kernel
theorem dX0_beginChoices_44 : decode cX0_beginChoices 44 = .ok (.iconst 1, 1) := by decide +kernel
theorem dX0_beginChoices_45 : decode cX0_beginChoices 45 = .ok (.if_icmp .ge 7, 3) := by decide +kernel
theorem dX0_beginChoices_48 : decode cX0_beginChoices 48 = .ok (.iconst 1, 1) := by decide +kernel
theorem dX0_beginChoices_49 : decode cX0_beginChoices 49 = .ok (.goto 17, 3) := by decide +kernel
theorem dX0_beginChoices_52 : decode cX0_beginChoices 52 = .ok (.iload_n 1, 1) := by decide +kernel
theorem dX0_beginChoices_53 : decode cX0_beginChoices 53 = .ok (.aload_n 0, 1) := by decide +kernel
theorem dX0_beginChoices_54 : decode cX0_beginChoices 54 = .ok (.getfield 31, 3) := by decide +kernel
theorem dX0_beginChoices_57 : decode cX0_beginChoices 57 = .ok (.getfield 63, 3) := by decide +kernel
theorem dX0_beginChoices_60 : decode cX0_beginChoices 60 = .ok (.iload_n 3, 1) := by decide +kernel
theorem dX0_beginChoices_61 : decode cX0_beginChoices 61 = .ok (.iaload, 1) := by decide +kernel
theorem dX0_beginChoices_62 : decode cX0_beginChoices 62 = .ok (.imul, 1) := by decide +kernel
theorem dX0_beginChoices_63 : decode cX0_beginChoices 63 = .ok (.iload 4, 2) := by decide +kernel
theorem dX0_beginChoices_65 : decode cX0_beginChoices 65 = .ok (.idiv, 1) := by decide +kernel
theorem dX0_beginChoices_66 : decode cX0_beginChoices 66 = .ok (.iastore, 1) := by decide +kernel
theorem dX0_beginChoices_67 : decode cX0_beginChoices 67 = .ok (.iload_n 2, 1) := by decide +kernel
theorem dX0_beginChoices_68 : decode cX0_beginChoices 68 = .ok (.aload_n 0, 1) := by decide +kernel
theorem dX0_beginChoices_69 : decode cX0_beginChoices 69 = .ok (.getfield 25, 3) := by decide +kernel
theorem dX0_beginChoices_72 : decode cX0_beginChoices 72 = .ok (.iload_n 3, 1) := by decide +kernel
theorem dX0_beginChoices_73 : decode cX0_beginChoices 73 = .ok (.iaload, 1) := by decide +kernel
theorem dX0_beginChoices_74 : decode cX0_beginChoices 74 = .ok (.imul, 1) := by decide +kernel
theorem dX0_beginChoices_75 : decode cX0_beginChoices 75 = .ok (.istore_n 2, 1) := by decide +kernel
theorem dX0_beginChoices_76 : decode cX0_beginChoices 76 = .ok (.iload 4, 2) := by decide +kernel
theorem dX0_beginChoices_78 : decode cX0_beginChoices 78 = .ok (.istore_n 1, 1) := by decide +kernel
theorem dX0_beginChoices_79 : decode cX0_beginChoices 79 = .ok (.aload_n 0, 1) := by decide +kernel
theorem dX0_beginChoices_80 : decode cX0_beginChoices 80 = .ok (.getfield 31, 3) := by decide +kernel
theorem dX0_beginChoices_83 : decode cX0_beginChoices 83 = .ok (.getfield 70, 3) := by decide +kernel
theorem dX0_beginChoices_86 : decode cX0_beginChoices 86 = .ok (.iload_n 3, 1) := by decide +kernel
theorem dX0_beginChoices_87 : decode cX0_beginChoices 87 = .ok (.iconst 0, 1) := by decide +kernel
theorem dX0_beginChoices_88 : decode cX0_beginChoices 88 = .ok (.iastore, 1) := by decide +kernel
theorem dX0_beginChoices_89 : decode cX0_beginChoices 89 = .ok (.iinc 3 1, 3) := by decide +kernel
theorem dX0_beginChoices_92 : decode cX0_beginChoices 92 = .ok (.goto (-86), 3) := by decide +kernel
theorem dX0_beginChoices_95 : decode cX0_beginChoices 95 = .ok (.iload_n 2, 1) := by decide +kernel
theorem dX0_beginChoices_96 : decode cX0_beginChoices 96 = .ok (.ireturn, 1) := by decide +kernel
theorem dX0_nextChoice_0 : decode cX0_nextChoice 0 = .ok (.aload_n 0, 1) := by decide +kernel
theorem dX0_nextChoice_1 : decode cX0_nextChoice 1 = .ok (.getfield 31, 3) := by decide +kernel
theorem dX0_nextChoice_4 : decode cX0_nextChoice 4 = .ok (.getfield 60, 3) := by decide +kernel
theorem dX0_nextChoice_7 : decode cX0_nextChoice 7 = .ok (.iconst 4, 1) := by decide +kernel
theorem dX0_nextChoice_8 : decode cX0_nextChoice 8 = .ok (.invokestatic 71, 3) := by decide +kernel
theorem dX0_nextChoice_11 : decode cX0_nextChoice 11 = .ok (.iconst 1, 1) := by decide +kernel
theorem dX0_nextChoice_12 : decode cX0_nextChoice 12 = .ok (.isub, 1) := by decide +kernel
theorem dX0_nextChoice_13 : decode cX0_nextChoice 13 = .ok (.istore_n 1, 1) := by decide +kernel
theorem dX0_nextChoice_14 : decode cX0_nextChoice 14 = .ok (.iload_n 1, 1) := by decide +kernel
theorem dX0_nextChoice_15 : decode cX0_nextChoice 15 = .ok (.ifCond .lt 53, 3) := by decide +kernel
theorem dX0_nextChoice_18 : decode cX0_nextChoice 18 = .ok (.aload_n 0, 1) := by decide +kernel
theorem dX0_nextChoice_19 : decode cX0_nextChoice 19 = .ok (.getfield 31, 3) := by decide +kernel
theorem dX0_nextChoice_22 : decode cX0_nextChoice 22 = .ok (.getfield 70, 3) := by decide +kernel
theorem dX0_nextChoice_25 : decode cX0_nextChoice 25 = .ok (.iload_n 1, 1) := by decide +kernel
theorem dX0_nextChoice_26 : decode cX0_nextChoice 26 = .ok (.iaload, 1) := by decide +kernel
theorem dX0_nextChoice_27 : decode cX0_nextChoice 27 = .ok (.iconst 1, 1) := by decide +kernel
theorem dX0_nextChoice_28 : decode cX0_nextChoice 28 = .ok (.iadd, 1) := by decide +kernel
theorem dX0_nextChoice_29 : decode cX0_nextChoice 29 = .ok (.aload_n 0, 1) := by decide +kernel
theorem dX0_nextChoice_30 : decode cX0_nextChoice 30 = .ok (.getfield 25, 3) := by decide +kernel
theorem dX0_nextChoice_33 : decode cX0_nextChoice 33 = .ok (.iload_n 1, 1) := by decide +kernel
theorem dX0_nextChoice_34 : decode cX0_nextChoice 34 = .ok (.iaload, 1) := by decide +kernel
theorem dX0_nextChoice_35 : decode cX0_nextChoice 35 = .ok (.if_icmp .ge 17, 3) := by decide +kernel
theorem dX0_nextChoice_38 : decode cX0_nextChoice 38 = .ok (.aload_n 0, 1) := by decide +kernel
theorem dX0_nextChoice_39 : decode cX0_nextChoice 39 = .ok (.getfield 31, 3) := by decide +kernel
theorem dX0_nextChoice_42 : decode cX0_nextChoice 42 = .ok (.getfield 70, 3) := by decide +kernel
theorem dX0_nextChoice_45 : decode cX0_nextChoice 45 = .ok (.iload_n 1, 1) := by decide +kernel
theorem dX0_nextChoice_46 : decode cX0_nextChoice 46 = .ok (.dup2, 1) := by decide +kernel
theorem dX0_nextChoice_47 : decode cX0_nextChoice 47 = .ok (.iaload, 1) := by decide +kernel
theorem dX0_nextChoice_48 : decode cX0_nextChoice 48 = .ok (.iconst 1, 1) := by decide +kernel
theorem dX0_nextChoice_49 : decode cX0_nextChoice 49 = .ok (.iadd, 1) := by decide +kernel
theorem dX0_nextChoice_50 : decode cX0_nextChoice 50 = .ok (.iastore, 1) := by decide +kernel
theorem dX0_nextChoice_51 : decode cX0_nextChoice 51 = .ok (.return_, 1) := by decide +kernel
theorem dX0_nextChoice_52 : decode cX0_nextChoice 52 = .ok (.aload_n 0, 1) := by decide +kernel
theorem dX0_nextChoice_53 : decode cX0_nextChoice 53 = .ok (.getfield 31, 3) := by decide +kernel
theorem dX0_nextChoice_56 : decode cX0_nextChoice 56 = .ok (.getfield 70, 3) := by decide +kernel
theorem dX0_nextChoice_59 : decode cX0_nextChoice 59 = .ok (.iload_n 1, 1) := by decide +kernel
theorem dX0_nextChoice_60 : decode cX0_nextChoice 60 = .ok (.iconst 0, 1) := by decide +kernel
theorem dX0_nextChoice_61 : decode cX0_nextChoice 61 = .ok (.iastore, 1) := by decide +kernel
theorem dX0_nextChoice_62 : decode cX0_nextChoice 62 = .ok (.iinc 1 (-1), 3) := by decide +kernel
theorem dX0_nextChoice_65 : decode cX0_nextChoice 65 = .ok (.goto (-51), 3) := by decide +kernel
theorem dX0_nextChoice_68 : decode cX0_nextChoice 68 = .ok (.return_, 1) := by decide +kernel
set_option maxRecDepth 20000 in
theorem ggX0_tryPhases_X6_measure : GoodIn wsX0_tryPhases wsX6_measure := goodIn_r _ [16, 17, 18, 19, 20, 21, 22, 23, 24, 9, 10, 11, 25, 26, 27, 28, 29, 30, 31, 32, 33, 34, 35, 36, 37, 38, 39, 40, 41, 42, 43, 44, 45, 46, 47, 48, 49, 15, 50, 51, 52, 53, 54, 55, 56, 57, 58, 59, 60, 61, 62, 63, 64, 65, 66, 67, 68, 69, 91, 92, 93, 94, 95, 96, 97, 98, 99, 100, 101, 102, 103, 104, 105, 106, 107, 108, 109, 110, 111, 112, 113, 114, 115, 116, 117] (by decide +kernel) (by decide +kernel)
set_option maxRecDepth 20000 in
theorem gX0_tryPhases_X6_measure : GoodIn wsX0_tryPhases (wsV RX0 76 RX6 yX6_measure wsX6_measure) := goodIn_app (goodIn_of _ (by decide +kernel)) ggX0_tryPhases_X6_measure
set_option maxRecDepth 20000 in
theorem ggX0_tryPhases_X2_countCrossings : GoodIn wsX0_tryPhases wsX2_countCrossings := goodIn_r _ [73, 42, 74, 75, 76, 40, 77, 78, 38, 39, 41, 43, 44, 45, 46, 79, 80, 81, 82, 83, 57, 58, 59, 60, 61, 99, 100, 101, 102, 103, 104, 105, 106, 107, 108, 109, 110, 111, 112, 113, 114, 115, 116, 117] (by decide +kernel) (by decide +kernel)
set_option maxRecDepth 20000 in
theorem gX0_tryPhases_X2_countCrossings : GoodIn wsX0_tryPhases (wsV RX0 80 RX2 yX2_countCrossings wsX2_countCrossings) := goodIn_app (goodIn_of _ (by decide +kernel)) ggX0_tryPhases_X2_countCrossings
theorem dX0_tryPhases_0 : decode cX0_tryPhases 0 = .ok (.aload_n 0, 1) := by decide +kernel
theorem dX0_tryPhases_1 : decode cX0_tryPhases 1 = .ok (.getfield 38, 3) := by decide +kernel
theorem dX0_tryPhases_4 : decode cX0_tryPhases 4 = .ok (.aload_n 0, 1) := by decide +kernel
theorem dX0_tryPhases_5 : decode cX0_tryPhases 5 = .ok (.getfield 31, 3) := by decide +kernel
theorem dX0_tryPhases_8 : decode cX0_tryPhases 8 = .ok (.invokevirtual 76, 3) := by decide +kernel
theorem dX0_tryPhases_11 : decode cX0_tryPhases 11 = .ok (.iload_n 1, 1) := by decide +kernel
theorem dX0_tryPhases_12 : decode cX0_tryPhases 12 = .ok (.ifCond .ne 18, 3) := by decide +kernel
theorem dX0_tryPhases_15 : decode cX0_tryPhases 15 = .ok (.aload_n 0, 1) := by decide +kernel
theorem dX0_tryPhases_16 : decode cX0_tryPhases 16 = .ok (.getfield 38, 3) := by decide +kernel
theorem dX0_tryPhases_19 : decode cX0_tryPhases 19 = .ok (.getfield 79, 3) := by decide +kernel
theorem dX0_tryPhases_22 : decode cX0_tryPhases 22 = .ok (.aload_n 0, 1) := by decide +kernel
theorem dX0_tryPhases_23 : decode cX0_tryPhases 23 = .ok (.getfield 15, 3) := by decide +kernel
theorem dX0_tryPhases_26 : decode cX0_tryPhases 26 = .ok (.if_icmp .le 4, 3) := by decide +kernel
theorem dX0_tryPhases_29 : decode cX0_tryPhases 29 = .ok (.return_, 1) := by decide +kernel
theorem dX0_tryPhases_30 : decode cX0_tryPhases 30 = .ok (.aload_n 0, 1) := by decide +kernel
theorem dX0_tryPhases_31 : decode cX0_tryPhases 31 = .ok (.getfield 31, 3) := by decide +kernel
theorem dX0_tryPhases_34 : decode cX0_tryPhases 34 = .ok (.invokevirtual 80, 3) := by decide +kernel
theorem dX0_tryPhases_37 : decode cX0_tryPhases 37 = .ok (.istore_n 2, 1) := by decide +kernel
theorem dX0_tryPhases_38 : decode cX0_tryPhases 38 = .ok (.iload_n 1, 1) := by decide +kernel
theorem dX0_tryPhases_39 : decode cX0_tryPhases 39 = .ok (.ifCond .ne 25, 3) := by decide +kernel
theorem dX0_tryPhases_42 : decode cX0_tryPhases 42 = .ok (.aload_n 0, 1) := by decide +kernel
theorem dX0_tryPhases_43 : decode cX0_tryPhases 43 = .ok (.getfield 38, 3) := by decide +kernel
theorem dX0_tryPhases_46 : decode cX0_tryPhases 46 = .ok (.getfield 79, 3) := by decide +kernel
theorem dX0_tryPhases_49 : decode cX0_tryPhases 49 = .ok (.aload_n 0, 1) := by decide +kernel
theorem dX0_tryPhases_50 : decode cX0_tryPhases 50 = .ok (.getfield 15, 3) := by decide +kernel
theorem dX0_tryPhases_53 : decode cX0_tryPhases 53 = .ok (.if_icmp .lt 11, 3) := by decide +kernel
theorem dX0_tryPhases_56 : decode cX0_tryPhases 56 = .ok (.iload_n 2, 1) := by decide +kernel
theorem dX0_tryPhases_57 : decode cX0_tryPhases 57 = .ok (.aload_n 0, 1) := by decide +kernel
theorem dX0_tryPhases_58 : decode cX0_tryPhases 58 = .ok (.getfield 19, 3) := by decide +kernel
theorem dX0_tryPhases_61 : decode cX0_tryPhases 61 = .ok (.if_icmp .ge 36, 3) := by decide +kernel
theorem dX0_tryPhases_64 : decode cX0_tryPhases 64 = .ok (.aload_n 0, 1) := by decide +kernel
theorem dX0_tryPhases_65 : decode cX0_tryPhases 65 = .ok (.aload_n 0, 1) := by decide +kernel
theorem dX0_tryPhases_66 : decode cX0_tryPhases 66 = .ok (.getfield 38, 3) := by decide +kernel
theorem dX0_tryPhases_69 : decode cX0_tryPhases 69 = .ok (.getfield 79, 3) := by decide +kernel
theorem dX0_tryPhases_72 : decode cX0_tryPhases 72 = .ok (.putfield 15, 3) := by decide +kernel
theorem dX0_tryPhases_75 : decode cX0_tryPhases 75 = .ok (.aload_n 0, 1) := by decide +kernel
theorem dX0_tryPhases_76 : decode cX0_tryPhases 76 = .ok (.iload_n 2, 1) := by decide +kernel
theorem dX0_tryPhases_77 : decode cX0_tryPhases 77 = .ok (.putfield 19, 3) := by decide +kernel
theorem dX0_tryPhases_80 : decode cX0_tryPhases 80 = .ok (.aload_n 0, 1) := by decide +kernel
theorem dX0_tryPhases_81 : decode cX0_tryPhases 81 = .ok (.getfield 31, 3) := by decide +kernel
theorem dX0_tryPhases_84 : decode cX0_tryPhases 84 = .ok (.getfield 70, 3) := by decide +kernel
theorem dX0_tryPhases_87 : decode cX0_tryPhases 87 = .ok (.iconst 0, 1) := by decide +kernel
theorem dX0_tryPhases_88 : decode cX0_tryPhases 88 = .ok (.aload_n 0, 1) := by decide +kernel
theorem dX0_tryPhases_89 : decode cX0_tryPhases 89 = .ok (.getfield 9, 3) := by decide +kernel
theorem dX0_tryPhases_92 : decode cX0_tryPhases 92 = .ok (.iconst 0, 1) := by decide +kernel
theorem dX0_tryPhases_93 : decode cX0_tryPhases 93 = .ok (.iconst 4, 1) := by decide +kernel
theorem dX0_tryPhases_94 : decode cX0_tryPhases 94 = .ok (.invokestatic 83, 3) := by decide +kernel
theorem dX0_tryPhases_97 : decode cX0_tryPhases 97 = .ok (.return_, 1) := by decide +kernel
set_option maxRecDepth 20000 in
theorem ggX1_init_X2_init : GoodIn wsX1_init wsX2_init := goodIn_r _ [13, 14, 2, 3, 15, 16, 17, 18, 19, 20, 21, 22, 23, 24, 25, 26, 27, 28, 29, 30, 31, 32, 33, 34, 40, 41, 42, 43, 44, 45, 46, 47, 48, 49, 50, 51, 52, 53, 54, 55, 56, 57, 58] (by decide +kernel) (by decide +kernel)
set_option maxRecDepth 20000 in
theorem gX1_init_X2_init_n17 : GoodIn wsX1_init (wsX2_init) := ggX1_init_X2_init
theorem dX1_init_0 : decode cX1_init 0 = .ok (.aload_n 0, 1) := by decide +kernel
theorem dX1_init_1 : decode cX1_init 1 = .ok (.invokespecial 3, 3) := by decide +kernel
theorem dX1_init_4 : decode cX1_init 4 = .ok (.aload_n 0, 1) := by decide +kernel
theorem dX1_init_5 : decode cX1_init 5 = .ok (.bipush 10, 2) := by decide +kernel
theorem dX1_init_7 : decode cX1_init 7 = .ok (.anewarray 9, 3) := by decide +kernel
theorem dX1_init_10 : decode cX1_init 10 = .ok (.putfield 11, 3) := by decide +kernel
theorem dX1_init_13 : decode cX1_init 13 = .ok (.aload_n 0, 1) := by decide +kernel
theorem dX1_init_14 : decode cX1_init 14 = .ok (.new 9, 3) := by decide +kernel
theorem dX1_init_17 : decode cX1_init 17 = .ok (.dup, 1) := by decide +kernel
theorem dX1_init_18 : decode cX1_init 18 = .ok (.invokespecial 17, 3) := by decide +kernel
theorem dX1_init_21 : decode cX1_init 21 = .ok (.putfield 18, 3) := by decide +kernel
theorem dX1_init_24 : decode cX1_init 24 = .ok (.aload_n 0, 1) := by decide +kernel
theorem dX1_init_25 : decode cX1_init 25 = .ok (.iconst 0, 1) := by decide +kernel
theorem dX1_init_26 : decode cX1_init 26 = .ok (.putfield 22, 3) := by decide +kernel
theorem dX1_init_29 : decode cX1_init 29 = .ok (.aload_n 0, 1) := by decide +kernel
theorem dX1_init_30 : decode cX1_init 30 = .ok (.iconst 0, 1) := by decide +kernel
theorem dX1_init_31 : decode cX1_init 31 = .ok (.putfield 26, 3) := by decide +kernel
theorem dX1_init_34 : decode cX1_init 34 = .ok (.aload_n 0, 1) := by decide +kernel
theorem dX1_init_35 : decode cX1_init 35 = .ok (.iconst 0, 1) := by decide +kernel
theorem dX1_init_36 : decode cX1_init 36 = .ok (.putfield 30, 3) := by decide +kernel
theorem dX1_init_39 : decode cX1_init 39 = .ok (.iconst 0, 1) := by decide +kernel
theorem dX1_init_40 : decode cX1_init 40 = .ok (.istore_n 1, 1) := by decide +kernel
theorem dX1_init_41 : decode cX1_init 41 = .ok (.iload_n 1, 1) := by decide +kernel
theorem dX1_init_42 : decode cX1_init 42 = .ok (.bipush 10, 2) := by decide +kernel
theorem dX1_init_44 : decode cX1_init 44 = .ok (.if_icmp .ge 22, 3) := by decide +kernel
theorem dX1_init_47 : decode cX1_init 47 = .ok (.aload_n 0, 1) := by decide +kernel
theorem dX1_init_48 : decode cX1_init 48 = .ok (.getfield 11, 3) := by decide +kernel
theorem dX1_init_51 : decode cX1_init 51 = .ok (.iload_n 1, 1) := by decide +kernel
theorem dX1_init_52 : decode cX1_init 52 = .ok (.new 9, 3) := by decide +kernel
theorem dX1_init_55 : decode cX1_init 55 = .ok (.dup, 1) := by decide +kernel
theorem dX1_init_56 : decode cX1_init 56 = .ok (.invokespecial 17, 3) := by decide +kernel
theorem dX1_init_59 : decode cX1_init 59 = .ok (.aastore, 1) := by decide +kernel
theorem dX1_init_60 : decode cX1_init 60 = .ok (.iinc 1 1, 3) := by decide +kernel
theorem dX1_init_63 : decode cX1_init 63 = .ok (.goto (-22), 3) := by decide +kernel
theorem dX1_init_66 : decode cX1_init 66 = .ok (.return_, 1) := by decide +kernel
set_option maxRecDepth 20000 in
theorem ggX1_record_X2_copyFrom : GoodIn wsX1_record wsX2_copyFrom := goodIn_r _ [12, 13, 14, 15, 16, 17, 18, 19, 20, 21, 22, 23, 24, 25, 26, 27, 28, 29, 30, 31, 32, 33, 34, 35, 41, 42, 43, 44, 45, 46, 47, 48, 49, 50, 51, 52, 53, 54, 55, 56, 57, 58, 59] (by decide +kernel) (by decide +kernel)
set_option maxRecDepth 20000 in
theorem gX1_record_X2_copyFrom : GoodIn wsX1_record (wsV RX1 33 RX2 yX2_copyFrom wsX2_copyFrom) := goodIn_app (goodIn_of _ (by decide +kernel)) ggX1_record_X2_copyFrom
theorem dX1_record_0 : decode cX1_record 0 = .ok (.aload_n 0, 1) := by decide +kernel
theorem dX1_record_1 : decode cX1_record 1 = .ok (.getfield 26, 3) := by decide +kernel
theorem dX1_record_4 : decode cX1_record 4 = .ok (.ifCond .lt 24, 3) := by decide +kernel
theorem dX1_record_7 : decode cX1_record 7 = .ok (.aload_n 0, 1) := by decide +kernel
theorem dX1_record_8 : decode cX1_record 8 = .ok (.getfield 26, 3) := by decide +kernel
theorem dX1_record_11 : decode cX1_record 11 = .ok (.bipush 10, 2) := by decide +kernel
theorem dX1_record_13 : decode cX1_record 13 = .ok (.if_icmp .ge 15, 3) := by decide +kernel
theorem dX1_record_16 : decode cX1_record 16 = .ok (.aload_n 0, 1) := by decide +kernel
theorem dX1_record_17 : decode cX1_record 17 = .ok (.getfield 11, 3) := by decide +kernel
theorem dX1_record_20 : decode cX1_record 20 = .ok (.aload_n 0, 1) := by decide +kernel
theorem dX1_record_21 : decode cX1_record 21 = .ok (.getfield 26, 3) := by decide +kernel
theorem dX1_record_24 : decode cX1_record 24 = .ok (.aaload, 1) := by decide +kernel
theorem dX1_record_25 : decode cX1_record 25 = .ok (.ifnonnull 4, 3) := by decide +kernel
theorem dX1_record_28 : decode cX1_record 28 = .ok (.return_, 1) := by decide +kernel
theorem dX1_record_29 : decode cX1_record 29 = .ok (.aload_n 0, 1) := by decide +kernel
theorem dX1_record_30 : decode cX1_record 30 = .ok (.getfield 11, 3) := by decide +kernel
theorem dX1_record_33 : decode cX1_record 33 = .ok (.aload_n 0, 1) := by decide +kernel
theorem dX1_record_34 : decode cX1_record 34 = .ok (.getfield 26, 3) := by decide +kernel
theorem dX1_record_37 : decode cX1_record 37 = .ok (.aaload, 1) := by decide +kernel
theorem dX1_record_38 : decode cX1_record 38 = .ok (.aload_n 1, 1) := by decide +kernel
theorem dX1_record_39 : decode cX1_record 39 = .ok (.invokevirtual 33, 3) := by decide +kernel
theorem dX1_record_42 : decode cX1_record 42 = .ok (.aload_n 0, 1) := by decide +kernel
theorem dX1_record_43 : decode cX1_record 43 = .ok (.aload_n 0, 1) := by decide +kernel
theorem dX1_record_44 : decode cX1_record 44 = .ok (.getfield 26, 3) := by decide +kernel
theorem dX1_record_47 : decode cX1_record 47 = .ok (.iconst 1, 1) := by decide +kernel
theorem dX1_record_48 : decode cX1_record 48 = .ok (.iadd, 1) := by decide +kernel
theorem dX1_record_49 : decode cX1_record 49 = .ok (.bipush 10, 2) := by decide +kernel
theorem dX1_record_51 : decode cX1_record 51 = .ok (.if_icmp .ge 12, 3) := by decide +kernel
theorem dX1_record_54 : decode cX1_record 54 = .ok (.aload_n 0, 1) := by decide +kernel
theorem dX1_record_55 : decode cX1_record 55 = .ok (.getfield 26, 3) := by decide +kernel
theorem dX1_record_58 : decode cX1_record 58 = .ok (.iconst 1, 1) := by decide +kernel
theorem dX1_record_59 : decode cX1_record 59 = .ok (.iadd, 1) := by decide +kernel
theorem dX1_record_60 : decode cX1_record 60 = .ok (.goto 4, 3) := by decide +kernel
theorem dX1_record_63 : decode cX1_record 63 = .ok (.iconst 0, 1) := by decide +kernel
theorem dX1_record_64 : decode cX1_record 64 = .ok (.putfield 26, 3) := by decide +kernel
theorem dX1_record_67 : decode cX1_record 67 = .ok (.aload_n 0, 1) := by decide +kernel
theorem dX1_record_68 : decode cX1_record 68 = .ok (.aload_n 0, 1) := by decide +kernel
theorem dX1_record_69 : decode cX1_record 69 = .ok (.getfield 30, 3) := by decide +kernel
theorem dX1_record_72 : decode cX1_record 72 = .ok (.iconst 1, 1) := by decide +kernel
theorem dX1_record_73 : decode cX1_record 73 = .ok (.iadd, 1) := by decide +kernel
theorem dX1_record_74 : decode cX1_record 74 = .ok (.bipush 10, 2) := by decide +kernel
theorem dX1_record_76 : decode cX1_record 76 = .ok (.invokestatic 37, 3) := by decide +kernel
theorem dX1_record_79 : decode cX1_record 79 = .ok (.putfield 30, 3) := by decide +kernel
theorem dX1_record_82 : decode cX1_record 82 = .ok (.return_, 1) := by decide +kernel
set_option maxRecDepth 20000 in
theorem ggX1_takeBack_X2_copyFrom : GoodIn wsX1_takeBack wsX2_copyFrom := goodIn_r _ [8, 9, 10, 11, 12, 13, 14, 15, 16, 17, 18, 19, 20, 21, 22, 23, 24, 25, 26, 27, 28, 29, 30, 31, 37, 38, 39, 40, 41, 42, 43, 44, 45, 46, 47, 48, 49, 50, 51, 52, 53, 54, 55] (by decide +kernel) (by decide +kernel)
set_option maxRecDepth 20000 in
theorem gX1_takeBack_X2_copyFrom : GoodIn wsX1_takeBack (wsV RX1 33 RX2 yX2_copyFrom wsX2_copyFrom) := goodIn_app (goodIn_of _ (by decide +kernel)) ggX1_takeBack_X2_copyFrom
theorem dX1_takeBack_0 : decode cX1_takeBack 0 = .ok (.aload_n 0, 1) := by decide +kernel
theorem dX1_takeBack_1 : decode cX1_takeBack 1 = .ok (.getfield 26, 3) := by decide +kernel
theorem dX1_takeBack_4 : decode cX1_takeBack 4 = .ok (.ifCond .le 12, 3) := by decide +kernel
theorem dX1_takeBack_7 : decode cX1_takeBack 7 = .ok (.aload_n 0, 1) := by decide +kernel
theorem dX1_takeBack_8 : decode cX1_takeBack 8 = .ok (.getfield 26, 3) := by decide +kernel
theorem dX1_takeBack_11 : decode cX1_takeBack 11 = .ok (.iconst 1, 1) := by decide +kernel
theorem dX1_takeBack_12 : decode cX1_takeBack 12 = .ok (.isub, 1) := by decide +kernel
theorem dX1_takeBack_13 : decode cX1_takeBack 13 = .ok (.goto 5, 3) := by decide +kernel
theorem dX1_takeBack_16 : decode cX1_takeBack 16 = .ok (.bipush 9, 2) := by decide +kernel
theorem dX1_takeBack_18 : decode cX1_takeBack 18 = .ok (.istore_n 2, 1) := by decide +kernel
theorem dX1_takeBack_19 : decode cX1_takeBack 19 = .ok (.aload_n 0, 1) := by decide +kernel
theorem dX1_takeBack_20 : decode cX1_takeBack 20 = .ok (.getfield 30, 3) := by decide +kernel
theorem dX1_takeBack_23 : decode cX1_takeBack 23 = .ok (.ifCond .eq 18, 3) := by decide +kernel
theorem dX1_takeBack_26 : decode cX1_takeBack 26 = .ok (.iload_n 2, 1) := by decide +kernel
theorem dX1_takeBack_27 : decode cX1_takeBack 27 = .ok (.bipush 10, 2) := by decide +kernel
theorem dX1_takeBack_29 : decode cX1_takeBack 29 = .ok (.if_icmp .ge 12, 3) := by decide +kernel
theorem dX1_takeBack_32 : decode cX1_takeBack 32 = .ok (.aload_n 0, 1) := by decide +kernel
theorem dX1_takeBack_33 : decode cX1_takeBack 33 = .ok (.getfield 11, 3) := by decide +kernel
theorem dX1_takeBack_36 : decode cX1_takeBack 36 = .ok (.iload_n 2, 1) := by decide +kernel
theorem dX1_takeBack_37 : decode cX1_takeBack 37 = .ok (.aaload, 1) := by decide +kernel
theorem dX1_takeBack_38 : decode cX1_takeBack 38 = .ok (.ifnonnull 5, 3) := by decide +kernel
theorem dX1_takeBack_41 : decode cX1_takeBack 41 = .ok (.iconst 0, 1) := by decide +kernel
theorem dX1_takeBack_42 : decode cX1_takeBack 42 = .ok (.ireturn, 1) := by decide +kernel
theorem dX1_takeBack_43 : decode cX1_takeBack 43 = .ok (.aload_n 1, 1) := by decide +kernel
theorem dX1_takeBack_44 : decode cX1_takeBack 44 = .ok (.aload_n 0, 1) := by decide +kernel
theorem dX1_takeBack_45 : decode cX1_takeBack 45 = .ok (.getfield 11, 3) := by decide +kernel
theorem dX1_takeBack_48 : decode cX1_takeBack 48 = .ok (.iload_n 2, 1) := by decide +kernel
theorem dX1_takeBack_49 : decode cX1_takeBack 49 = .ok (.aaload, 1) := by decide +kernel
theorem dX1_takeBack_50 : decode cX1_takeBack 50 = .ok (.invokevirtual 33, 3) := by decide +kernel
theorem dX1_takeBack_53 : decode cX1_takeBack 53 = .ok (.aload_n 0, 1) := by decide +kernel
theorem dX1_takeBack_54 : decode cX1_takeBack 54 = .ok (.iload_n 2, 1) := by decide +kernel
theorem dX1_takeBack_55 : decode cX1_takeBack 55 = .ok (.putfield 26, 3) := by decide +kernel
theorem dX1_takeBack_58 : decode cX1_takeBack 58 = .ok (.aload_n 0, 1) := by decide +kernel
theorem dX1_takeBack_59 : decode cX1_takeBack 59 = .ok (.dup, 1) := by decide +kernel
theorem dX1_takeBack_60 : decode cX1_takeBack 60 = .ok (.getfield 30, 3) := by decide +kernel
theorem dX1_takeBack_63 : decode cX1_takeBack 63 = .ok (.iconst 1, 1) := by decide +kernel
theorem dX1_takeBack_64 : decode cX1_takeBack 64 = .ok (.isub, 1) := by decide +kernel
theorem dX1_takeBack_65 : decode cX1_takeBack 65 = .ok (.putfield 30, 3) := by decide +kernel
theorem dX1_takeBack_68 : decode cX1_takeBack 68 = .ok (.iconst 1, 1) := by decide +kernel
theorem dX1_takeBack_69 : decode cX1_takeBack 69 = .ok (.ireturn, 1) := by decide +kernel
set_option maxRecDepth 20000 in
theorem ggX1_keepSnapshot_X2_copyFrom : GoodIn wsX1_keepSnapshot wsX2_copyFrom := goodIn_r _ [7, 8, 9, 10, 11, 12, 13, 14, 15, 16, 17, 18, 19, 20, 21, 22, 23, 24, 25, 26, 27, 28, 29, 30, 36, 37, 38, 39, 40, 41, 42, 43, 44, 45, 46, 47, 48, 49, 50, 51, 52, 53, 54] (by decide +kernel) (by decide +kernel)
set_option maxRecDepth 20000 in
theorem gX1_keepSnapshot_X2_copyFrom : GoodIn wsX1_keepSnapshot (wsV RX1 33 RX2 yX2_copyFrom wsX2_copyFrom) := goodIn_app (goodIn_of _ (by decide +kernel)) ggX1_keepSnapshot_X2_copyFrom
theorem dX1_keepSnapshot_0 : decode cX1_keepSnapshot 0 = .ok (.aload_n 0, 1) := by decide +kernel
theorem dX1_keepSnapshot_1 : decode cX1_keepSnapshot 1 = .ok (.getfield 18, 3) := by decide +kernel
theorem dX1_keepSnapshot_4 : decode cX1_keepSnapshot 4 = .ok (.aload_n 1, 1) := by decide +kernel
theorem dX1_keepSnapshot_5 : decode cX1_keepSnapshot 5 = .ok (.invokevirtual 33, 3) := by decide +kernel
theorem dX1_keepSnapshot_8 : decode cX1_keepSnapshot 8 = .ok (.aload_n 0, 1) := by decide +kernel
theorem dX1_keepSnapshot_9 : decode cX1_keepSnapshot 9 = .ok (.iconst 1, 1) := by decide +kernel
theorem dX1_keepSnapshot_10 : decode cX1_keepSnapshot 10 = .ok (.putfield 22, 3) := by decide +kernel
theorem dX1_keepSnapshot_13 : decode cX1_keepSnapshot 13 = .ok (.return_, 1) := by decide +kernel
set_option maxRecDepth 20000 in
theorem ggX1_bringSnapshot_X2_copyFrom : GoodIn wsX1_bringSnapshot wsX2_copyFrom := goodIn_r _ [8, 9, 10, 11, 12, 13, 14, 15, 16, 17, 18, 19, 20, 21, 22, 23, 24, 25, 26, 27, 28, 29, 30, 31, 37, 38, 39, 40, 41, 42, 43, 44, 45, 46, 47, 48, 49, 50, 51, 52, 53, 54, 55] (by decide +kernel) (by decide +kernel)
set_option maxRecDepth 20000 in
theorem gX1_bringSnapshot_X2_copyFrom : GoodIn wsX1_bringSnapshot (wsV RX1 33 RX2 yX2_copyFrom wsX2_copyFrom) := goodIn_app (goodIn_of _ (by decide +kernel)) ggX1_bringSnapshot_X2_copyFrom
theorem dX1_bringSnapshot_0 : decode cX1_bringSnapshot 0 = .ok (.aload_n 0, 1) := by decide +kernel
theorem dX1_bringSnapshot_1 : decode cX1_bringSnapshot 1 = .ok (.getfield 22, 3) := by decide +kernel
theorem dX1_bringSnapshot_4 : decode cX1_bringSnapshot 4 = .ok (.ifCond .ne 5, 3) := by decide +kernel
theorem dX1_bringSnapshot_7 : decode cX1_bringSnapshot 7 = .ok (.iconst 0, 1) := by decide +kernel
theorem dX1_bringSnapshot_8 : decode cX1_bringSnapshot 8 = .ok (.ireturn, 1) := by decide +kernel
theorem dX1_bringSnapshot_9 : decode cX1_bringSnapshot 9 = .ok (.aload_n 1, 1) := by decide +kernel
theorem dX1_bringSnapshot_10 : decode cX1_bringSnapshot 10 = .ok (.aload_n 0, 1) := by decide +kernel
theorem dX1_bringSnapshot_11 : decode cX1_bringSnapshot 11 = .ok (.getfield 18, 3) := by decide +kernel
theorem dX1_bringSnapshot_14 : decode cX1_bringSnapshot 14 = .ok (.invokevirtual 33, 3) := by decide +kernel
theorem dX1_bringSnapshot_17 : decode cX1_bringSnapshot 17 = .ok (.aload_n 0, 1) := by decide +kernel
theorem dX1_bringSnapshot_18 : decode cX1_bringSnapshot 18 = .ok (.iconst 0, 1) := by decide +kernel
theorem dX1_bringSnapshot_19 : decode cX1_bringSnapshot 19 = .ok (.putfield 30, 3) := by decide +kernel
theorem dX1_bringSnapshot_22 : decode cX1_bringSnapshot 22 = .ok (.iconst 1, 1) := by decide +kernel
theorem dX1_bringSnapshot_23 : decode cX1_bringSnapshot 23 = .ok (.ireturn, 1) := by decide +kernel
theorem dX1_forget_0 : decode cX1_forget 0 = .ok (.aload_n 0, 1) := by decide +kernel
theorem dX1_forget_1 : decode cX1_forget 1 = .ok (.iconst 0, 1) := by decide +kernel
theorem dX1_forget_2 : decode cX1_forget 2 = .ok (.putfield 30, 3) := by decide +kernel
theorem dX1_forget_5 : decode cX1_forget 5 = .ok (.aload_n 0, 1) := by decide +kernel
theorem dX1_forget_6 : decode cX1_forget 6 = .ok (.iconst 0, 1) := by decide +kernel
theorem dX1_forget_7 : decode cX1_forget 7 = .ok (.putfield 22, 3) := by decide +kernel
theorem dX1_forget_10 : decode cX1_forget 10 = .ok (.return_, 1) := by decide +kernel
theorem dX2_init_0 : decode cX2_init 0 = .ok (.aload_n 0, 1) := by decide +kernel
theorem dX2_init_1 : decode cX2_init 1 = .ok (.invokespecial 3, 3) := by decide +kernel
theorem dX2_init_4 : decode cX2_init 4 = .ok (.aload_n 0, 1) := by decide +kernel
theorem dX2_init_5 : decode cX2_init 5 = .ok (.iconst 0, 1) := by decide +kernel
theorem dX2_init_6 : decode cX2_init 6 = .ok (.putfield 9, 3) := by decide +kernel
theorem dX2_init_9 : decode cX2_init 9 = .ok (.aload_n 0, 1) := by decide +kernel
theorem dX2_init_10 : decode cX2_init 10 = .ok (.iconst 0, 1) := by decide +kernel
theorem dX2_init_11 : decode cX2_init 11 = .ok (.putfield 15, 3) := by decide +kernel
theorem dX2_init_14 : decode cX2_init 14 = .ok (.aload_n 0, 1) := by decide +kernel
theorem dX2_init_15 : decode cX2_init 15 = .ok (.iconst 0, 1) := by decide +kernel
theorem dX2_init_16 : decode cX2_init 16 = .ok (.putfield 18, 3) := by decide +kernel
theorem dX2_init_19 : decode cX2_init 19 = .ok (.aload_n 0, 1) := by decide +kernel
theorem dX2_init_20 : decode cX2_init 20 = .ok (.iconst 0, 1) := by decide +kernel
theorem dX2_init_21 : decode cX2_init 21 = .ok (.putfield 21, 3) := by decide +kernel
theorem dX2_init_24 : decode cX2_init 24 = .ok (.aload_n 0, 1) := by decide +kernel
theorem dX2_init_25 : decode cX2_init 25 = .ok (.iconst 0, 1) := by decide +kernel
theorem dX2_init_26 : decode cX2_init 26 = .ok (.putfield 24, 3) := by decide +kernel
theorem dX2_init_29 : decode cX2_init 29 = .ok (.aload_n 0, 1) := by decide +kernel
theorem dX2_init_30 : decode cX2_init 30 = .ok (.iconst 0, 1) := by decide +kernel
theorem dX2_init_31 : decode cX2_init 31 = .ok (.putfield 27, 3) := by decide +kernel
theorem dX2_init_34 : decode cX2_init 34 = .ok (.aload_n 0, 1) := by decide +kernel
theorem dX2_init_35 : decode cX2_init 35 = .ok (.iconst 0, 1) := by decide +kernel
theorem dX2_init_36 : decode cX2_init 36 = .ok (.putfield 30, 3) := by decide +kernel
theorem dX2_init_39 : decode cX2_init 39 = .ok (.aload_n 0, 1) := by decide +kernel
theorem dX2_init_40 : decode cX2_init 40 = .ok (.bipush 20, 2) := by decide +kernel
theorem dX2_init_42 : decode cX2_init 42 = .ok (.newarray .int, 2) := by decide +kernel
theorem dX2_init_44 : decode cX2_init 44 = .ok (.putfield 33, 3) := by decide +kernel
theorem dX2_init_47 : decode cX2_init 47 = .ok (.aload_n 0, 1) := by decide +kernel
theorem dX2_init_48 : decode cX2_init 48 = .ok (.bipush 20, 2) := by decide +kernel
theorem dX2_init_50 : decode cX2_init 50 = .ok (.newarray .int, 2) := by decide +kernel
theorem dX2_init_52 : decode cX2_init 52 = .ok (.putfield 37, 3) := by decide +kernel
theorem dX2_init_55 : decode cX2_init 55 = .ok (.aload_n 0, 1) := by decide +kernel
theorem dX2_init_56 : decode cX2_init 56 = .ok (.bipush 12, 2) := by decide +kernel
theorem dX2_init_58 : decode cX2_init 58 = .ok (.newarray .int, 2) := by decide +kernel
theorem dX2_init_60 : decode cX2_init 60 = .ok (.putfield 40, 3) := by decide +kernel
theorem dX2_init_63 : decode cX2_init 63 = .ok (.aload_n 0, 1) := by decide +kernel
theorem dX2_init_64 : decode cX2_init 64 = .ok (.bipush 12, 2) := by decide +kernel
theorem dX2_init_66 : decode cX2_init 66 = .ok (.newarray .int, 2) := by decide +kernel
theorem dX2_init_68 : decode cX2_init 68 = .ok (.putfield 43, 3) := by decide +kernel
theorem dX2_init_71 : decode cX2_init 71 = .ok (.aload_n 0, 1) := by decide +kernel
theorem dX2_init_72 : decode cX2_init 72 = .ok (.iconst 4, 1) := by decide +kernel
theorem dX2_init_73 : decode cX2_init 73 = .ok (.newarray .int, 2) := by decide +kernel
theorem dX2_init_75 : decode cX2_init 75 = .ok (.putfield 46, 3) := by decide +kernel
theorem dX2_init_78 : decode cX2_init 78 = .ok (.aload_n 0, 1) := by decide +kernel
theorem dX2_init_79 : decode cX2_init 79 = .ok (.iconst 4, 1) := by decide +kernel
theorem dX2_init_80 : decode cX2_init 80 = .ok (.newarray .int, 2) := by decide +kernel
theorem dX2_init_82 : decode cX2_init 82 = .ok (.putfield 49, 3) := by decide +kernel
theorem dX2_init_85 : decode cX2_init 85 = .ok (.aload_n 0, 1) := by decide +kernel
theorem dX2_init_86 : decode cX2_init 86 = .ok (.bipush 40, 2) := by decide +kernel
theorem dX2_init_88 : decode cX2_init 88 = .ok (.newarray .int, 2) := by decide +kernel
theorem dX2_init_90 : decode cX2_init 90 = .ok (.putfield 52, 3) := by decide +kernel
theorem dX2_init_93 : decode cX2_init 93 = .ok (.aload_n 0, 1) := by decide +kernel
theorem dX2_init_94 : decode cX2_init 94 = .ok (.iconst 4, 1) := by decide +kernel
theorem dX2_init_95 : decode cX2_init 95 = .ok (.newarray .int, 2) := by decide +kernel
theorem dX2_init_97 : decode cX2_init 97 = .ok (.putfield 55, 3) := by decide +kernel
theorem dX2_init_100 : decode cX2_init 100 = .ok (.aload_n 0, 1) := by decide +kernel
theorem dX2_init_101 : decode cX2_init 101 = .ok (.bipush 12, 2) := by decide +kernel
theorem dX2_init_103 : decode cX2_init 103 = .ok (.newarray .int, 2) := by decide +kernel
theorem dX2_init_105 : decode cX2_init 105 = .ok (.putfield 58, 3) := by decide +kernel
theorem dX2_init_108 : decode cX2_init 108 = .ok (.aload_n 0, 1) := by decide +kernel
theorem dX2_init_109 : decode cX2_init 109 = .ok (.bipush 12, 2) := by decide +kernel
theorem dX2_init_111 : decode cX2_init 111 = .ok (.newarray .int, 2) := by decide +kernel
theorem dX2_init_113 : decode cX2_init 113 = .ok (.putfield 61, 3) := by decide +kernel
theorem dX2_init_116 : decode cX2_init 116 = .ok (.aload_n 0, 1) := by decide +kernel
theorem dX2_init_117 : decode cX2_init 117 = .ok (.bipush 12, 2) := by decide +kernel
theorem dX2_init_119 : decode cX2_init 119 = .ok (.newarray .int, 2) := by decide +kernel
theorem dX2_init_121 : decode cX2_init 121 = .ok (.putfield 64, 3) := by decide +kernel
theorem dX2_init_124 : decode cX2_init 124 = .ok (.aload_n 0, 1) := by decide +kernel
theorem dX2_init_125 : decode cX2_init 125 = .ok (.bipush 12, 2) := by decide +kernel
theorem dX2_init_127 : decode cX2_init 127 = .ok (.newarray .int, 2) := by decide +kernel
theorem dX2_init_129 : decode cX2_init 129 = .ok (.putfield 67, 3) := by decide +kernel
theorem dX2_init_132 : decode cX2_init 132 = .ok (.return_, 1) := by decide +kernel
set_option maxRecDepth 20000 in
theorem ggX2_begin_J7_fill_53178 : GoodIn wsX2_begin wsJ7_fill_53178 := goodIn_r _ [15] (by decide +kernel) (by decide +kernel)
set_option maxRecDepth 20000 in
theorem gX2_begin_J7_fill_53178 : GoodIn wsX2_begin (va_wsS RX2 70 yJ7_fill_53178 wsJ7_fill_53178) := goodIn_app (goodIn_of _ (by decide +kernel)) ggX2_begin_J7_fill_53178
theorem dX2_begin_0 : decode cX2_begin 0 = .ok (.aload_n 0, 1) := by decide +kernel
theorem dX2_begin_1 : decode cX2_begin 1 = .ok (.iload_n 1, 1) := by decide +kernel
theorem dX2_begin_2 : decode cX2_begin 2 = .ok (.putfield 9, 3) := by decide +kernel
theorem dX2_begin_5 : decode cX2_begin 5 = .ok (.aload_n 0, 1) := by decide +kernel
theorem dX2_begin_6 : decode cX2_begin 6 = .ok (.iconst 0, 1) := by decide +kernel
theorem dX2_begin_7 : decode cX2_begin 7 = .ok (.putfield 15, 3) := by decide +kernel
theorem dX2_begin_10 : decode cX2_begin 10 = .ok (.aload_n 0, 1) := by decide +kernel
theorem dX2_begin_11 : decode cX2_begin 11 = .ok (.iconst 0, 1) := by decide +kernel
theorem dX2_begin_12 : decode cX2_begin 12 = .ok (.putfield 18, 3) := by decide +kernel
theorem dX2_begin_15 : decode cX2_begin 15 = .ok (.aload_n 0, 1) := by decide +kernel
theorem dX2_begin_16 : decode cX2_begin 16 = .ok (.iconst 0, 1) := by decide +kernel
theorem dX2_begin_17 : decode cX2_begin 17 = .ok (.putfield 21, 3) := by decide +kernel
theorem dX2_begin_20 : decode cX2_begin 20 = .ok (.aload_n 0, 1) := by decide +kernel
theorem dX2_begin_21 : decode cX2_begin 21 = .ok (.iconst 0, 1) := by decide +kernel
theorem dX2_begin_22 : decode cX2_begin 22 = .ok (.putfield 24, 3) := by decide +kernel
theorem dX2_begin_25 : decode cX2_begin 25 = .ok (.aload_n 0, 1) := by decide +kernel
theorem dX2_begin_26 : decode cX2_begin 26 = .ok (.getfield 40, 3) := by decide +kernel
theorem dX2_begin_29 : decode cX2_begin 29 = .ok (.iconst 0, 1) := by decide +kernel
theorem dX2_begin_30 : decode cX2_begin 30 = .ok (.invokestatic 70, 3) := by decide +kernel
theorem dX2_begin_33 : decode cX2_begin 33 = .ok (.aload_n 0, 1) := by decide +kernel
theorem dX2_begin_34 : decode cX2_begin 34 = .ok (.getfield 43, 3) := by decide +kernel
theorem dX2_begin_37 : decode cX2_begin 37 = .ok (.bipush 99, 2) := by decide +kernel
theorem dX2_begin_39 : decode cX2_begin 39 = .ok (.invokestatic 70, 3) := by decide +kernel
theorem dX2_begin_42 : decode cX2_begin 42 = .ok (.aload_n 0, 1) := by decide +kernel
theorem dX2_begin_43 : decode cX2_begin 43 = .ok (.getfield 58, 3) := by decide +kernel
theorem dX2_begin_46 : decode cX2_begin 46 = .ok (.iconst 0, 1) := by decide +kernel
theorem dX2_begin_47 : decode cX2_begin 47 = .ok (.invokestatic 70, 3) := by decide +kernel
theorem dX2_begin_50 : decode cX2_begin 50 = .ok (.aload_n 0, 1) := by decide +kernel
theorem dX2_begin_51 : decode cX2_begin 51 = .ok (.getfield 61, 3) := by decide +kernel
theorem dX2_begin_54 : decode cX2_begin 54 = .ok (.iconst (-1), 1) := by decide +kernel
theorem dX2_begin_55 : decode cX2_begin 55 = .ok (.invokestatic 70, 3) := by decide +kernel
theorem dX2_begin_58 : decode cX2_begin 58 = .ok (.aload_n 0, 1) := by decide +kernel
theorem dX2_begin_59 : decode cX2_begin 59 = .ok (.getfield 64, 3) := by decide +kernel
theorem dX2_begin_62 : decode cX2_begin 62 = .ok (.iconst 0, 1) := by decide +kernel
theorem dX2_begin_63 : decode cX2_begin 63 = .ok (.invokestatic 70, 3) := by decide +kernel
theorem dX2_begin_66 : decode cX2_begin 66 = .ok (.aload_n 0, 1) := by decide +kernel
theorem dX2_begin_67 : decode cX2_begin 67 = .ok (.getfield 67, 3) := by decide +kernel
theorem dX2_begin_70 : decode cX2_begin 70 = .ok (.iconst 0, 1) := by decide +kernel
theorem dX2_begin_71 : decode cX2_begin 71 = .ok (.invokestatic 70, 3) := by decide +kernel
theorem dX2_begin_74 : decode cX2_begin 74 = .ok (.return_, 1) := by decide +kernel
theorem dX2_copyFrom_0 : decode cX2_copyFrom 0 = .ok (.aload_n 0, 1) := by decide +kernel
theorem dX2_copyFrom_1 : decode cX2_copyFrom 1 = .ok (.aload_n 1, 1) := by decide +kernel
theorem dX2_copyFrom_2 : decode cX2_copyFrom 2 = .ok (.getfield 9, 3) := by decide +kernel
theorem dX2_copyFrom_5 : decode cX2_copyFrom 5 = .ok (.putfield 9, 3) := by decide +kernel
theorem dX2_copyFrom_8 : decode cX2_copyFrom 8 = .ok (.aload_n 0, 1) := by decide +kernel
theorem dX2_copyFrom_9 : decode cX2_copyFrom 9 = .ok (.aload_n 1, 1) := by decide +kernel
theorem dX2_copyFrom_10 : decode cX2_copyFrom 10 = .ok (.getfield 15, 3) := by decide +kernel
theorem dX2_copyFrom_13 : decode cX2_copyFrom 13 = .ok (.putfield 15, 3) := by decide +kernel
theorem dX2_copyFrom_16 : decode cX2_copyFrom 16 = .ok (.aload_n 0, 1) := by decide +kernel
theorem dX2_copyFrom_17 : decode cX2_copyFrom 17 = .ok (.aload_n 1, 1) := by decide +kernel
theorem dX2_copyFrom_18 : decode cX2_copyFrom 18 = .ok (.getfield 18, 3) := by decide +kernel
theorem dX2_copyFrom_21 : decode cX2_copyFrom 21 = .ok (.putfield 18, 3) := by decide +kernel
theorem dX2_copyFrom_24 : decode cX2_copyFrom 24 = .ok (.aload_n 0, 1) := by decide +kernel
theorem dX2_copyFrom_25 : decode cX2_copyFrom 25 = .ok (.aload_n 1, 1) := by decide +kernel
theorem dX2_copyFrom_26 : decode cX2_copyFrom 26 = .ok (.getfield 21, 3) := by decide +kernel
theorem dX2_copyFrom_29 : decode cX2_copyFrom 29 = .ok (.putfield 21, 3) := by decide +kernel
theorem dX2_copyFrom_32 : decode cX2_copyFrom 32 = .ok (.aload_n 0, 1) := by decide +kernel
theorem dX2_copyFrom_33 : decode cX2_copyFrom 33 = .ok (.aload_n 1, 1) := by decide +kernel
theorem dX2_copyFrom_34 : decode cX2_copyFrom 34 = .ok (.getfield 24, 3) := by decide +kernel
theorem dX2_copyFrom_37 : decode cX2_copyFrom 37 = .ok (.putfield 24, 3) := by decide +kernel
theorem dX2_copyFrom_40 : decode cX2_copyFrom 40 = .ok (.aload_n 0, 1) := by decide +kernel
theorem dX2_copyFrom_41 : decode cX2_copyFrom 41 = .ok (.aload_n 1, 1) := by decide +kernel
theorem dX2_copyFrom_42 : decode cX2_copyFrom 42 = .ok (.getfield 27, 3) := by decide +kernel
theorem dX2_copyFrom_45 : decode cX2_copyFrom 45 = .ok (.putfield 27, 3) := by decide +kernel
theorem dX2_copyFrom_48 : decode cX2_copyFrom 48 = .ok (.aload_n 0, 1) := by decide +kernel
theorem dX2_copyFrom_49 : decode cX2_copyFrom 49 = .ok (.aload_n 1, 1) := by decide +kernel
theorem dX2_copyFrom_50 : decode cX2_copyFrom 50 = .ok (.getfield 30, 3) := by decide +kernel
theorem dX2_copyFrom_53 : decode cX2_copyFrom 53 = .ok (.putfield 30, 3) := by decide +kernel
theorem dX2_copyFrom_56 : decode cX2_copyFrom 56 = .ok (.aload_n 1, 1) := by decide +kernel
theorem dX2_copyFrom_57 : decode cX2_copyFrom 57 = .ok (.getfield 33, 3) := by decide +kernel
theorem dX2_copyFrom_60 : decode cX2_copyFrom 60 = .ok (.iconst 0, 1) := by decide +kernel
theorem dX2_copyFrom_61 : decode cX2_copyFrom 61 = .ok (.aload_n 0, 1) := by decide +kernel
theorem dX2_copyFrom_62 : decode cX2_copyFrom 62 = .ok (.getfield 33, 3) := by decide +kernel
theorem dX2_copyFrom_65 : decode cX2_copyFrom 65 = .ok (.iconst 0, 1) := by decide +kernel
theorem dX2_copyFrom_66 : decode cX2_copyFrom 66 = .ok (.bipush 20, 2) := by decide +kernel
theorem dX2_copyFrom_68 : decode cX2_copyFrom 68 = .ok (.invokestatic 76, 3) := by decide +kernel
theorem dX2_copyFrom_71 : decode cX2_copyFrom 71 = .ok (.aload_n 1, 1) := by decide +kernel
theorem dX2_copyFrom_72 : decode cX2_copyFrom 72 = .ok (.getfield 37, 3) := by decide +kernel
theorem dX2_copyFrom_75 : decode cX2_copyFrom 75 = .ok (.iconst 0, 1) := by decide +kernel
theorem dX2_copyFrom_76 : decode cX2_copyFrom 76 = .ok (.aload_n 0, 1) := by decide +kernel
theorem dX2_copyFrom_77 : decode cX2_copyFrom 77 = .ok (.getfield 37, 3) := by decide +kernel
theorem dX2_copyFrom_80 : decode cX2_copyFrom 80 = .ok (.iconst 0, 1) := by decide +kernel
theorem dX2_copyFrom_81 : decode cX2_copyFrom 81 = .ok (.bipush 20, 2) := by decide +kernel
theorem dX2_copyFrom_83 : decode cX2_copyFrom 83 = .ok (.invokestatic 76, 3) := by decide +kernel
theorem dX2_copyFrom_86 : decode cX2_copyFrom 86 = .ok (.aload_n 1, 1) := by decide +kernel
theorem dX2_copyFrom_87 : decode cX2_copyFrom 87 = .ok (.getfield 40, 3) := by decide +kernel
theorem dX2_copyFrom_90 : decode cX2_copyFrom 90 = .ok (.iconst 0, 1) := by decide +kernel
theorem dX2_copyFrom_91 : decode cX2_copyFrom 91 = .ok (.aload_n 0, 1) := by decide +kernel
theorem dX2_copyFrom_92 : decode cX2_copyFrom 92 = .ok (.getfield 40, 3) := by decide +kernel
theorem dX2_copyFrom_95 : decode cX2_copyFrom 95 = .ok (.iconst 0, 1) := by decide +kernel
theorem dX2_copyFrom_96 : decode cX2_copyFrom 96 = .ok (.bipush 12, 2) := by decide +kernel
theorem dX2_copyFrom_98 : decode cX2_copyFrom 98 = .ok (.invokestatic 76, 3) := by decide +kernel
theorem dX2_copyFrom_101 : decode cX2_copyFrom 101 = .ok (.aload_n 1, 1) := by decide +kernel
theorem dX2_copyFrom_102 : decode cX2_copyFrom 102 = .ok (.getfield 43, 3) := by decide +kernel
theorem dX2_copyFrom_105 : decode cX2_copyFrom 105 = .ok (.iconst 0, 1) := by decide +kernel
theorem dX2_copyFrom_106 : decode cX2_copyFrom 106 = .ok (.aload_n 0, 1) := by decide +kernel
theorem dX2_copyFrom_107 : decode cX2_copyFrom 107 = .ok (.getfield 43, 3) := by decide +kernel
theorem dX2_copyFrom_110 : decode cX2_copyFrom 110 = .ok (.iconst 0, 1) := by decide +kernel
theorem dX2_copyFrom_111 : decode cX2_copyFrom 111 = .ok (.bipush 12, 2) := by decide +kernel
theorem dX2_copyFrom_113 : decode cX2_copyFrom 113 = .ok (.invokestatic 76, 3) := by decide +kernel
theorem dX2_copyFrom_116 : decode cX2_copyFrom 116 = .ok (.aload_n 1, 1) := by decide +kernel
theorem dX2_copyFrom_117 : decode cX2_copyFrom 117 = .ok (.getfield 46, 3) := by decide +kernel
theorem dX2_copyFrom_120 : decode cX2_copyFrom 120 = .ok (.iconst 0, 1) := by decide +kernel
theorem dX2_copyFrom_121 : decode cX2_copyFrom 121 = .ok (.aload_n 0, 1) := by decide +kernel
theorem dX2_copyFrom_122 : decode cX2_copyFrom 122 = .ok (.getfield 46, 3) := by decide +kernel
theorem dX2_copyFrom_125 : decode cX2_copyFrom 125 = .ok (.iconst 0, 1) := by decide +kernel
theorem dX2_copyFrom_126 : decode cX2_copyFrom 126 = .ok (.iconst 4, 1) := by decide +kernel
theorem dX2_copyFrom_127 : decode cX2_copyFrom 127 = .ok (.invokestatic 76, 3) := by decide +kernel
theorem dX2_copyFrom_130 : decode cX2_copyFrom 130 = .ok (.aload_n 1, 1) := by decide +kernel
theorem dX2_copyFrom_131 : decode cX2_copyFrom 131 = .ok (.getfield 49, 3) := by decide +kernel
theorem dX2_copyFrom_134 : decode cX2_copyFrom 134 = .ok (.iconst 0, 1) := by decide +kernel
theorem dX2_copyFrom_135 : decode cX2_copyFrom 135 = .ok (.aload_n 0, 1) := by decide +kernel
theorem dX2_copyFrom_136 : decode cX2_copyFrom 136 = .ok (.getfield 49, 3) := by decide +kernel
theorem dX2_copyFrom_139 : decode cX2_copyFrom 139 = .ok (.iconst 0, 1) := by decide +kernel
theorem dX2_copyFrom_140 : decode cX2_copyFrom 140 = .ok (.iconst 4, 1) := by decide +kernel
theorem dX2_copyFrom_141 : decode cX2_copyFrom 141 = .ok (.invokestatic 76, 3) := by decide +kernel
theorem dX2_copyFrom_144 : decode cX2_copyFrom 144 = .ok (.aload_n 1, 1) := by decide +kernel
theorem dX2_copyFrom_145 : decode cX2_copyFrom 145 = .ok (.getfield 52, 3) := by decide +kernel
theorem dX2_copyFrom_148 : decode cX2_copyFrom 148 = .ok (.iconst 0, 1) := by decide +kernel
theorem dX2_copyFrom_149 : decode cX2_copyFrom 149 = .ok (.aload_n 0, 1) := by decide +kernel
theorem dX2_copyFrom_150 : decode cX2_copyFrom 150 = .ok (.getfield 52, 3) := by decide +kernel
theorem dX2_copyFrom_153 : decode cX2_copyFrom 153 = .ok (.iconst 0, 1) := by decide +kernel
theorem dX2_copyFrom_154 : decode cX2_copyFrom 154 = .ok (.bipush 40, 2) := by decide +kernel
theorem dX2_copyFrom_156 : decode cX2_copyFrom 156 = .ok (.invokestatic 76, 3) := by decide +kernel
theorem dX2_copyFrom_159 : decode cX2_copyFrom 159 = .ok (.aload_n 1, 1) := by decide +kernel
theorem dX2_copyFrom_160 : decode cX2_copyFrom 160 = .ok (.getfield 55, 3) := by decide +kernel
theorem dX2_copyFrom_163 : decode cX2_copyFrom 163 = .ok (.iconst 0, 1) := by decide +kernel
theorem dX2_copyFrom_164 : decode cX2_copyFrom 164 = .ok (.aload_n 0, 1) := by decide +kernel
theorem dX2_copyFrom_165 : decode cX2_copyFrom 165 = .ok (.getfield 55, 3) := by decide +kernel
theorem dX2_copyFrom_168 : decode cX2_copyFrom 168 = .ok (.iconst 0, 1) := by decide +kernel
theorem dX2_copyFrom_169 : decode cX2_copyFrom 169 = .ok (.iconst 4, 1) := by decide +kernel
theorem dX2_copyFrom_170 : decode cX2_copyFrom 170 = .ok (.invokestatic 76, 3) := by decide +kernel
theorem dX2_copyFrom_173 : decode cX2_copyFrom 173 = .ok (.aload_n 1, 1) := by decide +kernel
theorem dX2_copyFrom_174 : decode cX2_copyFrom 174 = .ok (.getfield 58, 3) := by decide +kernel
theorem dX2_copyFrom_177 : decode cX2_copyFrom 177 = .ok (.iconst 0, 1) := by decide +kernel
theorem dX2_copyFrom_178 : decode cX2_copyFrom 178 = .ok (.aload_n 0, 1) := by decide +kernel
theorem dX2_copyFrom_179 : decode cX2_copyFrom 179 = .ok (.getfield 58, 3) := by decide +kernel
theorem dX2_copyFrom_182 : decode cX2_copyFrom 182 = .ok (.iconst 0, 1) := by decide +kernel
theorem dX2_copyFrom_183 : decode cX2_copyFrom 183 = .ok (.bipush 12, 2) := by decide +kernel
theorem dX2_copyFrom_185 : decode cX2_copyFrom 185 = .ok (.invokestatic 76, 3) := by decide +kernel
theorem dX2_copyFrom_188 : decode cX2_copyFrom 188 = .ok (.aload_n 1, 1) := by decide +kernel
theorem dX2_copyFrom_189 : decode cX2_copyFrom 189 = .ok (.getfield 61, 3) := by decide +kernel
theorem dX2_copyFrom_192 : decode cX2_copyFrom 192 = .ok (.iconst 0, 1) := by decide +kernel
theorem dX2_copyFrom_193 : decode cX2_copyFrom 193 = .ok (.aload_n 0, 1) := by decide +kernel
theorem dX2_copyFrom_194 : decode cX2_copyFrom 194 = .ok (.getfield 61, 3) := by decide +kernel
theorem dX2_copyFrom_197 : decode cX2_copyFrom 197 = .ok (.iconst 0, 1) := by decide +kernel
theorem dX2_copyFrom_198 : decode cX2_copyFrom 198 = .ok (.bipush 12, 2) := by decide +kernel
theorem dX2_copyFrom_200 : decode cX2_copyFrom 200 = .ok (.invokestatic 76, 3) := by decide +kernel
theorem dX2_copyFrom_203 : decode cX2_copyFrom 203 = .ok (.aload_n 1, 1) := by decide +kernel
theorem dX2_copyFrom_204 : decode cX2_copyFrom 204 = .ok (.getfield 64, 3) := by decide +kernel
theorem dX2_copyFrom_207 : decode cX2_copyFrom 207 = .ok (.iconst 0, 1) := by decide +kernel
theorem dX2_copyFrom_208 : decode cX2_copyFrom 208 = .ok (.aload_n 0, 1) := by decide +kernel
theorem dX2_copyFrom_209 : decode cX2_copyFrom 209 = .ok (.getfield 64, 3) := by decide +kernel
theorem dX2_copyFrom_212 : decode cX2_copyFrom 212 = .ok (.iconst 0, 1) := by decide +kernel
theorem dX2_copyFrom_213 : decode cX2_copyFrom 213 = .ok (.bipush 12, 2) := by decide +kernel
theorem dX2_copyFrom_215 : decode cX2_copyFrom 215 = .ok (.invokestatic 76, 3) := by decide +kernel
theorem dX2_copyFrom_218 : decode cX2_copyFrom 218 = .ok (.aload_n 1, 1) := by decide +kernel
theorem dX2_copyFrom_219 : decode cX2_copyFrom 219 = .ok (.getfield 67, 3) := by decide +kernel
theorem dX2_copyFrom_222 : decode cX2_copyFrom 222 = .ok (.iconst 0, 1) := by decide +kernel
theorem dX2_copyFrom_223 : decode cX2_copyFrom 223 = .ok (.aload_n 0, 1) := by decide +kernel
theorem dX2_copyFrom_224 : decode cX2_copyFrom 224 = .ok (.getfield 67, 3) := by decide +kernel
theorem dX2_copyFrom_227 : decode cX2_copyFrom 227 = .ok (.iconst 0, 1) := by decide +kernel
theorem dX2_copyFrom_228 : decode cX2_copyFrom 228 = .ok (.bipush 12, 2) := by decide +kernel
theorem dX2_copyFrom_230 : decode cX2_copyFrom 230 = .ok (.invokestatic 76, 3) := by decide +kernel
theorem dX2_copyFrom_233 : decode cX2_copyFrom 233 = .ok (.return_, 1) := by decide +kernel
theorem dX2_hasRoom_0 : decode cX2_hasRoom 0 = .ok (.iload_n 1, 1) := by decide +kernel
theorem dX2_hasRoom_1 : decode cX2_hasRoom 1 = .ok (.ifCond .lt 21, 3) := by decide +kernel
theorem dX2_hasRoom_4 : decode cX2_hasRoom 4 = .ok (.iload_n 1, 1) := by decide +kernel
theorem dX2_hasRoom_5 : decode cX2_hasRoom 5 = .ok (.aload_n 0, 1) := by decide +kernel
theorem dX2_hasRoom_6 : decode cX2_hasRoom 6 = .ok (.getfield 9, 3) := by decide +kernel
theorem dX2_hasRoom_9 : decode cX2_hasRoom 9 = .ok (.if_icmp .ge 13, 3) := by decide +kernel
theorem dX2_hasRoom_12 : decode cX2_hasRoom 12 = .ok (.iload_n 1, 1) := by decide +kernel
theorem dX2_hasRoom_13 : decode cX2_hasRoom 13 = .ok (.bipush 12, 2) := by decide +kernel
theorem dX2_hasRoom_15 : decode cX2_hasRoom 15 = .ok (.if_icmp .ge 7, 3) := by decide +kernel
theorem dX2_hasRoom_18 : decode cX2_hasRoom 18 = .ok (.iconst 1, 1) := by decide +kernel
theorem dX2_hasRoom_19 : decode cX2_hasRoom 19 = .ok (.goto 4, 3) := by decide +kernel
theorem dX2_hasRoom_22 : decode cX2_hasRoom 22 = .ok (.iconst 0, 1) := by decide +kernel
theorem dX2_hasRoom_23 : decode cX2_hasRoom 23 = .ok (.ireturn, 1) := by decide +kernel
theorem dX2_hasDoor_0 : decode cX2_hasDoor 0 = .ok (.iload_n 1, 1) := by decide +kernel
theorem dX2_hasDoor_1 : decode cX2_hasDoor 1 = .ok (.ifCond .lt 21, 3) := by decide +kernel
theorem dX2_hasDoor_4 : decode cX2_hasDoor 4 = .ok (.iload_n 1, 1) := by decide +kernel
theorem dX2_hasDoor_5 : decode cX2_hasDoor 5 = .ok (.aload_n 0, 1) := by decide +kernel
theorem dX2_hasDoor_6 : decode cX2_hasDoor 6 = .ok (.getfield 15, 3) := by decide +kernel
theorem dX2_hasDoor_9 : decode cX2_hasDoor 9 = .ok (.if_icmp .ge 13, 3) := by decide +kernel
theorem dX2_hasDoor_12 : decode cX2_hasDoor 12 = .ok (.iload_n 1, 1) := by decide +kernel
theorem dX2_hasDoor_13 : decode cX2_hasDoor 13 = .ok (.bipush 20, 2) := by decide +kernel
theorem dX2_hasDoor_15 : decode cX2_hasDoor 15 = .ok (.if_icmp .ge 7, 3) := by decide +kernel
theorem dX2_hasDoor_18 : decode cX2_hasDoor 18 = .ok (.iconst 1, 1) := by decide +kernel
theorem dX2_hasDoor_19 : decode cX2_hasDoor 19 = .ok (.goto 4, 3) := by decide +kernel
theorem dX2_hasDoor_22 : decode cX2_hasDoor 22 = .ok (.iconst 0, 1) := by decide +kernel
theorem dX2_hasDoor_23 : decode cX2_hasDoor 23 = .ok (.ireturn, 1) := by decide +kernel
theorem dX2_hasGuard_0 : decode cX2_hasGuard 0 = .ok (.iload_n 1, 1) := by decide +kernel
theorem dX2_hasGuard_1 : decode cX2_hasGuard 1 = .ok (.ifCond .lt 20, 3) := by decide +kernel
theorem dX2_hasGuard_4 : decode cX2_hasGuard 4 = .ok (.iload_n 1, 1) := by decide +kernel
theorem dX2_hasGuard_5 : decode cX2_hasGuard 5 = .ok (.aload_n 0, 1) := by decide +kernel
theorem dX2_hasGuard_6 : decode cX2_hasGuard 6 = .ok (.getfield 18, 3) := by decide +kernel
theorem dX2_hasGuard_9 : decode cX2_hasGuard 9 = .ok (.if_icmp .ge 12, 3) := by decide +kernel
theorem dX2_hasGuard_12 : decode cX2_hasGuard 12 = .ok (.iload_n 1, 1) := by decide +kernel
theorem dX2_hasGuard_13 : decode cX2_hasGuard 13 = .ok (.iconst 4, 1) := by decide +kernel
theorem dX2_hasGuard_14 : decode cX2_hasGuard 14 = .ok (.if_icmp .ge 7, 3) := by decide +kernel
theorem dX2_hasGuard_17 : decode cX2_hasGuard 17 = .ok (.iconst 1, 1) := by decide +kernel
theorem dX2_hasGuard_18 : decode cX2_hasGuard 18 = .ok (.goto 4, 3) := by decide +kernel
theorem dX2_hasGuard_21 : decode cX2_hasGuard 21 = .ok (.iconst 0, 1) := by decide +kernel
theorem dX2_hasGuard_22 : decode cX2_hasGuard 22 = .ok (.ireturn, 1) := by decide +kernel
set_option maxRecDepth 20000 in
theorem ggX2_addDoor_X2_setOpen : GoodIn wsX2_addDoor wsX2_setOpen := goodIn_r _ [8, 9, 10, 1, 2, 3, 11, 12, 13, 14, 15, 16, 17, 7, 18, 19, 20, 21, 22, 23, 24, 25, 26, 27, 28, 29, 30, 31, 32, 33, 34, 35, 36, 37, 38, 39, 40, 41, 42, 43, 44, 45, 46, 47, 48, 49] (by decide +kernel) (by decide +kernel)
set_option maxRecDepth 20000 in
theorem gX2_addDoor_X2_setOpen : GoodIn wsX2_addDoor (wsV RX2 82 RX2 yX2_setOpen wsX2_setOpen) := goodIn_app (goodIn_of _ (by decide +kernel)) ggX2_addDoor_X2_setOpen
theorem dX2_addDoor_0 : decode cX2_addDoor 0 = .ok (.aload_n 0, 1) := by decide +kernel
theorem dX2_addDoor_1 : decode cX2_addDoor 1 = .ok (.getfield 15, 3) := by decide +kernel
theorem dX2_addDoor_4 : decode cX2_addDoor 4 = .ok (.ifCond .lt 12, 3) := by decide +kernel
theorem dX2_addDoor_7 : decode cX2_addDoor 7 = .ok (.aload_n 0, 1) := by decide +kernel
theorem dX2_addDoor_8 : decode cX2_addDoor 8 = .ok (.getfield 15, 3) := by decide +kernel
theorem dX2_addDoor_11 : decode cX2_addDoor 11 = .ok (.bipush 20, 2) := by decide +kernel
theorem dX2_addDoor_13 : decode cX2_addDoor 13 = .ok (.if_icmp .lt 4, 3) := by decide +kernel
theorem dX2_addDoor_16 : decode cX2_addDoor 16 = .ok (.return_, 1) := by decide +kernel
theorem dX2_addDoor_17 : decode cX2_addDoor 17 = .ok (.aload_n 0, 1) := by decide +kernel
theorem dX2_addDoor_18 : decode cX2_addDoor 18 = .ok (.getfield 33, 3) := by decide +kernel
theorem dX2_addDoor_21 : decode cX2_addDoor 21 = .ok (.aload_n 0, 1) := by decide +kernel
theorem dX2_addDoor_22 : decode cX2_addDoor 22 = .ok (.getfield 15, 3) := by decide +kernel
theorem dX2_addDoor_25 : decode cX2_addDoor 25 = .ok (.iload_n 1, 1) := by decide +kernel
theorem dX2_addDoor_26 : decode cX2_addDoor 26 = .ok (.iastore, 1) := by decide +kernel
theorem dX2_addDoor_27 : decode cX2_addDoor 27 = .ok (.aload_n 0, 1) := by decide +kernel
theorem dX2_addDoor_28 : decode cX2_addDoor 28 = .ok (.getfield 37, 3) := by decide +kernel
theorem dX2_addDoor_31 : decode cX2_addDoor 31 = .ok (.aload_n 0, 1) := by decide +kernel
theorem dX2_addDoor_32 : decode cX2_addDoor 32 = .ok (.getfield 15, 3) := by decide +kernel
theorem dX2_addDoor_35 : decode cX2_addDoor 35 = .ok (.iload_n 2, 1) := by decide +kernel
theorem dX2_addDoor_36 : decode cX2_addDoor 36 = .ok (.iastore, 1) := by decide +kernel
theorem dX2_addDoor_37 : decode cX2_addDoor 37 = .ok (.aload_n 0, 1) := by decide +kernel
theorem dX2_addDoor_38 : decode cX2_addDoor 38 = .ok (.dup, 1) := by decide +kernel
theorem dX2_addDoor_39 : decode cX2_addDoor 39 = .ok (.getfield 15, 3) := by decide +kernel
theorem dX2_addDoor_42 : decode cX2_addDoor 42 = .ok (.iconst 1, 1) := by decide +kernel
theorem dX2_addDoor_43 : decode cX2_addDoor 43 = .ok (.iadd, 1) := by decide +kernel
theorem dX2_addDoor_44 : decode cX2_addDoor 44 = .ok (.putfield 15, 3) := by decide +kernel
theorem dX2_addDoor_47 : decode cX2_addDoor 47 = .ok (.aload_n 0, 1) := by decide +kernel
theorem dX2_addDoor_48 : decode cX2_addDoor 48 = .ok (.aload_n 0, 1) := by decide +kernel
theorem dX2_addDoor_49 : decode cX2_addDoor 49 = .ok (.getfield 15, 3) := by decide +kernel
theorem dX2_addDoor_52 : decode cX2_addDoor 52 = .ok (.iconst 1, 1) := by decide +kernel
theorem dX2_addDoor_53 : decode cX2_addDoor 53 = .ok (.isub, 1) := by decide +kernel
theorem dX2_addDoor_54 : decode cX2_addDoor 54 = .ok (.iload_n 3, 1) := by decide +kernel
theorem dX2_addDoor_55 : decode cX2_addDoor 55 = .ok (.invokevirtual 82, 3) := by decide +kernel
theorem dX2_addDoor_58 : decode cX2_addDoor 58 = .ok (.return_, 1) := by decide +kernel
set_option maxRecDepth 20000 in
theorem ggX2_isOpen_X8_has : GoodIn wsX2_isOpen wsX8_has := goodIn_r _ [4] (by decide +kernel) (by decide +kernel)
set_option maxRecDepth 20000 in
theorem gX2_isOpen_X8_has_n86 : GoodIn wsX2_isOpen (wsX8_has) := ggX2_isOpen_X8_has
theorem dX2_isOpen_0 : decode cX2_isOpen 0 = .ok (.aload_n 0, 1) := by decide +kernel
theorem dX2_isOpen_1 : decode cX2_isOpen 1 = .ok (.getfield 24, 3) := by decide +kernel
theorem dX2_isOpen_4 : decode cX2_isOpen 4 = .ok (.iload_n 1, 1) := by decide +kernel
theorem dX2_isOpen_5 : decode cX2_isOpen 5 = .ok (.invokestatic 86, 3) := by decide +kernel
theorem dX2_isOpen_8 : decode cX2_isOpen 8 = .ok (.ireturn, 1) := by decide +kernel
set_option maxRecDepth 20000 in
theorem ggX2_setOpen_J7_fill_53178 : GoodIn wsX2_setOpen wsJ7_fill_53178 := goodIn_r _ [9] (by decide +kernel) (by decide +kernel)
set_option maxRecDepth 20000 in
theorem gX2_setOpen_J7_fill_53178 : GoodIn wsX2_setOpen (va_wsS RX2 70 yJ7_fill_53178 wsJ7_fill_53178) := goodIn_app (goodIn_of _ (by decide +kernel)) ggX2_setOpen_J7_fill_53178
set_option maxRecDepth 20000 in
theorem ggX2_setOpen_X2_isOpen : GoodIn wsX2_setOpen wsX2_isOpen := goodIn_r _ [14, 1, 15, 16, 17, 27, 28, 29, 30, 31, 32, 33, 34, 35, 36, 37, 38, 39, 40, 41, 42, 43, 44, 45] (by decide +kernel) (by decide +kernel)
set_option maxRecDepth 20000 in
theorem gX2_setOpen_X2_isOpen : GoodIn wsX2_setOpen (wsV RX2 90 RX2 yX2_isOpen wsX2_isOpen) := goodIn_app (goodIn_of _ (by decide +kernel)) ggX2_setOpen_X2_isOpen
set_option maxRecDepth 20000 in
theorem ggX2_setOpen_X2_join : GoodIn wsX2_setOpen wsX2_join := goodIn_r _ [21, 2, 22, 23, 24, 13, 25, 26, 27, 28, 29, 30, 31, 32, 33, 34, 35, 36, 37, 38, 39, 40, 41, 42, 43, 44, 45] (by decide +kernel) (by decide +kernel)
set_option maxRecDepth 20000 in
theorem gX2_setOpen_X2_join : GoodIn wsX2_setOpen (wsV RX2 94 RX2 yX2_join wsX2_join) := goodIn_app (goodIn_of _ (by decide +kernel)) ggX2_setOpen_X2_join
theorem dX2_setOpen_0 : decode cX2_setOpen 0 = .ok (.aload_n 0, 1) := by decide +kernel
theorem dX2_setOpen_1 : decode cX2_setOpen 1 = .ok (.iload_n 2, 1) := by decide +kernel
theorem dX2_setOpen_2 : decode cX2_setOpen 2 = .ok (.ifCond .eq 14, 3) := by decide +kernel
theorem dX2_setOpen_5 : decode cX2_setOpen 5 = .ok (.aload_n 0, 1) := by decide +kernel
theorem dX2_setOpen_6 : decode cX2_setOpen 6 = .ok (.getfield 24, 3) := by decide +kernel
theorem dX2_setOpen_9 : decode cX2_setOpen 9 = .ok (.iconst 1, 1) := by decide +kernel
theorem dX2_setOpen_10 : decode cX2_setOpen 10 = .ok (.iload_n 1, 1) := by decide +kernel
theorem dX2_setOpen_11 : decode cX2_setOpen 11 = .ok (.ishl, 1) := by decide +kernel
theorem dX2_setOpen_12 : decode cX2_setOpen 12 = .ok (.ior, 1) := by decide +kernel
theorem dX2_setOpen_13 : decode cX2_setOpen 13 = .ok (.goto 13, 3) := by decide +kernel
theorem dX2_setOpen_16 : decode cX2_setOpen 16 = .ok (.aload_n 0, 1) := by decide +kernel
theorem dX2_setOpen_17 : decode cX2_setOpen 17 = .ok (.getfield 24, 3) := by decide +kernel
theorem dX2_setOpen_20 : decode cX2_setOpen 20 = .ok (.iconst 1, 1) := by decide +kernel
theorem dX2_setOpen_21 : decode cX2_setOpen 21 = .ok (.iload_n 1, 1) := by decide +kernel
theorem dX2_setOpen_22 : decode cX2_setOpen 22 = .ok (.ishl, 1) := by decide +kernel
theorem dX2_setOpen_23 : decode cX2_setOpen 23 = .ok (.iconst (-1), 1) := by decide +kernel
theorem dX2_setOpen_24 : decode cX2_setOpen 24 = .ok (.ixor, 1) := by decide +kernel
theorem dX2_setOpen_25 : decode cX2_setOpen 25 = .ok (.iand, 1) := by decide +kernel
theorem dX2_setOpen_26 : decode cX2_setOpen 26 = .ok (.putfield 24, 3) := by decide +kernel
theorem dX2_setOpen_29 : decode cX2_setOpen 29 = .ok (.aload_n 0, 1) := by decide +kernel
theorem dX2_setOpen_30 : decode cX2_setOpen 30 = .ok (.getfield 40, 3) := by decide +kernel
theorem dX2_setOpen_33 : decode cX2_setOpen 33 = .ok (.iconst 0, 1) := by decide +kernel
theorem dX2_setOpen_34 : decode cX2_setOpen 34 = .ok (.invokestatic 70, 3) := by decide +kernel
theorem dX2_setOpen_37 : decode cX2_setOpen 37 = .ok (.iconst 0, 1) := by decide +kernel
theorem dX2_setOpen_38 : decode cX2_setOpen 38 = .ok (.istore_n 3, 1) := by decide +kernel
theorem dX2_setOpen_39 : decode cX2_setOpen 39 = .ok (.iload_n 3, 1) := by decide +kernel
theorem dX2_setOpen_40 : decode cX2_setOpen 40 = .ok (.aload_n 0, 1) := by decide +kernel
theorem dX2_setOpen_41 : decode cX2_setOpen 41 = .ok (.getfield 15, 3) := by decide +kernel
theorem dX2_setOpen_44 : decode cX2_setOpen 44 = .ok (.if_icmp .ge 55, 3) := by decide +kernel
theorem dX2_setOpen_47 : decode cX2_setOpen 47 = .ok (.iload_n 3, 1) := by decide +kernel
theorem dX2_setOpen_48 : decode cX2_setOpen 48 = .ok (.bipush 20, 2) := by decide +kernel
theorem dX2_setOpen_50 : decode cX2_setOpen 50 = .ok (.if_icmp .ge 49, 3) := by decide +kernel
theorem dX2_setOpen_53 : decode cX2_setOpen 53 = .ok (.aload_n 0, 1) := by decide +kernel
theorem dX2_setOpen_54 : decode cX2_setOpen 54 = .ok (.iload_n 3, 1) := by decide +kernel
theorem dX2_setOpen_55 : decode cX2_setOpen 55 = .ok (.invokevirtual 90, 3) := by decide +kernel
theorem dX2_setOpen_58 : decode cX2_setOpen 58 = .ok (.ifCond .eq 35, 3) := by decide +kernel
theorem dX2_setOpen_61 : decode cX2_setOpen 61 = .ok (.aload_n 0, 1) := by decide +kernel
theorem dX2_setOpen_62 : decode cX2_setOpen 62 = .ok (.aload_n 0, 1) := by decide +kernel
theorem dX2_setOpen_63 : decode cX2_setOpen 63 = .ok (.getfield 33, 3) := by decide +kernel
theorem dX2_setOpen_66 : decode cX2_setOpen 66 = .ok (.iload_n 3, 1) := by decide +kernel
theorem dX2_setOpen_67 : decode cX2_setOpen 67 = .ok (.iaload, 1) := by decide +kernel
theorem dX2_setOpen_68 : decode cX2_setOpen 68 = .ok (.aload_n 0, 1) := by decide +kernel
theorem dX2_setOpen_69 : decode cX2_setOpen 69 = .ok (.getfield 37, 3) := by decide +kernel
theorem dX2_setOpen_72 : decode cX2_setOpen 72 = .ok (.iload_n 3, 1) := by decide +kernel
theorem dX2_setOpen_73 : decode cX2_setOpen 73 = .ok (.iaload, 1) := by decide +kernel
theorem dX2_setOpen_74 : decode cX2_setOpen 74 = .ok (.invokevirtual 94, 3) := by decide +kernel
theorem dX2_setOpen_77 : decode cX2_setOpen 77 = .ok (.aload_n 0, 1) := by decide +kernel
theorem dX2_setOpen_78 : decode cX2_setOpen 78 = .ok (.aload_n 0, 1) := by decide +kernel
theorem dX2_setOpen_79 : decode cX2_setOpen 79 = .ok (.getfield 37, 3) := by decide +kernel
theorem dX2_setOpen_82 : decode cX2_setOpen 82 = .ok (.iload_n 3, 1) := by decide +kernel
theorem dX2_setOpen_83 : decode cX2_setOpen 83 = .ok (.iaload, 1) := by decide +kernel
theorem dX2_setOpen_84 : decode cX2_setOpen 84 = .ok (.aload_n 0, 1) := by decide +kernel
theorem dX2_setOpen_85 : decode cX2_setOpen 85 = .ok (.getfield 33, 3) := by decide +kernel
theorem dX2_setOpen_88 : decode cX2_setOpen 88 = .ok (.iload_n 3, 1) := by decide +kernel
theorem dX2_setOpen_89 : decode cX2_setOpen 89 = .ok (.iaload, 1) := by decide +kernel
theorem dX2_setOpen_90 : decode cX2_setOpen 90 = .ok (.invokevirtual 94, 3) := by decide +kernel
theorem dX2_setOpen_93 : decode cX2_setOpen 93 = .ok (.iinc 3 1, 3) := by decide +kernel
theorem dX2_setOpen_96 : decode cX2_setOpen 96 = .ok (.goto (-57), 3) := by decide +kernel
theorem dX2_setOpen_99 : decode cX2_setOpen 99 = .ok (.return_, 1) := by decide +kernel
set_option maxRecDepth 20000 in
theorem ggX2_join_X2_hasRoom : GoodIn wsX2_join wsX2_hasRoom := goodIn_r _ [6, 7, 8, 9, 10, 11, 12, 13, 14, 15, 16, 17, 18, 19, 20, 21, 22, 23, 24, 25, 26] (by decide +kernel) (by decide +kernel)
set_option maxRecDepth 20000 in
theorem gX2_join_X2_hasRoom : GoodIn wsX2_join (wsV RX2 98 RX2 yX2_hasRoom wsX2_hasRoom) := goodIn_app (goodIn_of _ (by decide +kernel)) ggX2_join_X2_hasRoom
theorem dX2_join_0 : decode cX2_join 0 = .ok (.aload_n 0, 1) := by decide +kernel
theorem dX2_join_1 : decode cX2_join 1 = .ok (.iload_n 1, 1) := by decide +kernel
theorem dX2_join_2 : decode cX2_join 2 = .ok (.invokevirtual 98, 3) := by decide +kernel
theorem dX2_join_5 : decode cX2_join 5 = .ok (.ifCond .eq 15, 3) := by decide +kernel
theorem dX2_join_8 : decode cX2_join 8 = .ok (.aload_n 0, 1) := by decide +kernel
theorem dX2_join_9 : decode cX2_join 9 = .ok (.getfield 40, 3) := by decide +kernel
theorem dX2_join_12 : decode cX2_join 12 = .ok (.iload_n 1, 1) := by decide +kernel
theorem dX2_join_13 : decode cX2_join 13 = .ok (.dup2, 1) := by decide +kernel
theorem dX2_join_14 : decode cX2_join 14 = .ok (.iaload, 1) := by decide +kernel
theorem dX2_join_15 : decode cX2_join 15 = .ok (.iconst 1, 1) := by decide +kernel
theorem dX2_join_16 : decode cX2_join 16 = .ok (.iload_n 2, 1) := by decide +kernel
theorem dX2_join_17 : decode cX2_join 17 = .ok (.ishl, 1) := by decide +kernel
theorem dX2_join_18 : decode cX2_join 18 = .ok (.ior, 1) := by decide +kernel
theorem dX2_join_19 : decode cX2_join 19 = .ok (.iastore, 1) := by decide +kernel
theorem dX2_join_20 : decode cX2_join 20 = .ok (.return_, 1) := by decide +kernel
set_option maxRecDepth 20000 in
theorem ggX2_countOpenDoors_J6_bitCount_0f7a4 : GoodIn wsX2_countOpenDoors wsJ6_bitCount_0f7a4 := goodIn_r _ [5, 6, 7, 8] (by decide +kernel) (by decide +kernel)
set_option maxRecDepth 20000 in
theorem gX2_countOpenDoors_J6_bitCount_0f7a4 : GoodIn wsX2_countOpenDoors (va_wsS RX2 101 yJ6_bitCount_0f7a4 wsJ6_bitCount_0f7a4) := goodIn_app (goodIn_of _ (by decide +kernel)) ggX2_countOpenDoors_J6_bitCount_0f7a4
theorem dX2_countOpenDoors_0 : decode cX2_countOpenDoors 0 = .ok (.aload_n 0, 1) := by decide +kernel
theorem dX2_countOpenDoors_1 : decode cX2_countOpenDoors 1 = .ok (.getfield 24, 3) := by decide +kernel
theorem dX2_countOpenDoors_4 : decode cX2_countOpenDoors 4 = .ok (.invokestatic 101, 3) := by decide +kernel
theorem dX2_countOpenDoors_7 : decode cX2_countOpenDoors 7 = .ok (.ireturn, 1) := by decide +kernel
set_option maxRecDepth 20000 in
theorem ggX2_hasOtherOpenDoor_X2_isOpen : GoodIn wsX2_hasOtherOpenDoor wsX2_isOpen := goodIn_r _ [6, 7, 8, 9, 10, 21, 22, 23, 24, 25, 26, 27, 28, 29, 30, 31, 32, 33, 34, 35, 36, 37, 38, 39] (by decide +kernel) (by decide +kernel)
set_option maxRecDepth 20000 in
theorem gX2_hasOtherOpenDoor_X2_isOpen : GoodIn wsX2_hasOtherOpenDoor (wsV RX2 90 RX2 yX2_isOpen wsX2_isOpen) := goodIn_app (goodIn_of _ (by decide +kernel)) ggX2_hasOtherOpenDoor_X2_isOpen
set_option maxRecDepth 20000 in
theorem ggX2_hasOtherOpenDoor_X2_isBetweenSameRooms : GoodIn wsX2_hasOtherOpenDoor wsX2_isBetweenSameRooms := goodIn_r _ [14, 15, 16, 17, 18, 19, 5, 20, 1, 21, 22, 23, 24, 25, 26, 27, 28, 29, 30, 31, 32, 33, 34, 35, 36, 37, 38, 39] (by decide +kernel) (by decide +kernel)
set_option maxRecDepth 20000 in
theorem gX2_hasOtherOpenDoor_X2_isBetweenSameRooms : GoodIn wsX2_hasOtherOpenDoor (wsV RX2 107 RX2 yX2_isBetweenSameRooms wsX2_isBetweenSameRooms) := goodIn_app (goodIn_of _ (by decide +kernel)) ggX2_hasOtherOpenDoor_X2_isBetweenSameRooms
theorem dX2_hasOtherOpenDoor_0 : decode cX2_hasOtherOpenDoor 0 = .ok (.iconst 0, 1) := by decide +kernel
theorem dX2_hasOtherOpenDoor_1 : decode cX2_hasOtherOpenDoor 1 = .ok (.istore_n 2, 1) := by decide +kernel
theorem dX2_hasOtherOpenDoor_2 : decode cX2_hasOtherOpenDoor 2 = .ok (.iload_n 2, 1) := by decide +kernel
theorem dX2_hasOtherOpenDoor_3 : decode cX2_hasOtherOpenDoor 3 = .ok (.aload_n 0, 1) := by decide +kernel
theorem dX2_hasOtherOpenDoor_4 : decode cX2_hasOtherOpenDoor 4 = .ok (.getfield 15, 3) := by decide +kernel
theorem dX2_hasOtherOpenDoor_7 : decode cX2_hasOtherOpenDoor 7 = .ok (.if_icmp .ge 39, 3) := by decide +kernel
theorem dX2_hasOtherOpenDoor_10 : decode cX2_hasOtherOpenDoor 10 = .ok (.iload_n 2, 1) := by decide +kernel
theorem dX2_hasOtherOpenDoor_11 : decode cX2_hasOtherOpenDoor 11 = .ok (.bipush 20, 2) := by decide +kernel
theorem dX2_hasOtherOpenDoor_13 : decode cX2_hasOtherOpenDoor 13 = .ok (.if_icmp .ge 33, 3) := by decide +kernel
theorem dX2_hasOtherOpenDoor_16 : decode cX2_hasOtherOpenDoor 16 = .ok (.iload_n 2, 1) := by decide +kernel
theorem dX2_hasOtherOpenDoor_17 : decode cX2_hasOtherOpenDoor 17 = .ok (.iload_n 1, 1) := by decide +kernel
theorem dX2_hasOtherOpenDoor_18 : decode cX2_hasOtherOpenDoor 18 = .ok (.if_icmp .eq 22, 3) := by decide +kernel
theorem dX2_hasOtherOpenDoor_21 : decode cX2_hasOtherOpenDoor 21 = .ok (.aload_n 0, 1) := by decide +kernel
theorem dX2_hasOtherOpenDoor_22 : decode cX2_hasOtherOpenDoor 22 = .ok (.iload_n 2, 1) := by decide +kernel
theorem dX2_hasOtherOpenDoor_23 : decode cX2_hasOtherOpenDoor 23 = .ok (.invokevirtual 90, 3) := by decide +kernel
theorem dX2_hasOtherOpenDoor_26 : decode cX2_hasOtherOpenDoor 26 = .ok (.ifCond .eq 14, 3) := by decide +kernel
theorem dX2_hasOtherOpenDoor_29 : decode cX2_hasOtherOpenDoor 29 = .ok (.aload_n 0, 1) := by decide +kernel
theorem dX2_hasOtherOpenDoor_30 : decode cX2_hasOtherOpenDoor 30 = .ok (.iload_n 2, 1) := by decide +kernel
theorem dX2_hasOtherOpenDoor_31 : decode cX2_hasOtherOpenDoor 31 = .ok (.iload_n 1, 1) := by decide +kernel
theorem dX2_hasOtherOpenDoor_32 : decode cX2_hasOtherOpenDoor 32 = .ok (.invokevirtual 107, 3) := by decide +kernel
theorem dX2_hasOtherOpenDoor_35 : decode cX2_hasOtherOpenDoor 35 = .ok (.ifCond .eq 5, 3) := by decide +kernel
theorem dX2_hasOtherOpenDoor_38 : decode cX2_hasOtherOpenDoor 38 = .ok (.iconst 1, 1) := by decide +kernel
theorem dX2_hasOtherOpenDoor_39 : decode cX2_hasOtherOpenDoor 39 = .ok (.ireturn, 1) := by decide +kernel
theorem dX2_hasOtherOpenDoor_40 : decode cX2_hasOtherOpenDoor 40 = .ok (.iinc 2 1, 3) := by decide +kernel
theorem dX2_hasOtherOpenDoor_43 : decode cX2_hasOtherOpenDoor 43 = .ok (.goto (-41), 3) := by decide +kernel
theorem dX2_hasOtherOpenDoor_46 : decode cX2_hasOtherOpenDoor 46 = .ok (.iconst 0, 1) := by decide +kernel
theorem dX2_hasOtherOpenDoor_47 : decode cX2_hasOtherOpenDoor 47 = .ok (.ireturn, 1) := by decide +kernel
set_option maxRecDepth 20000 in
theorem ggX2_isBetweenSameRooms_X2_hasDoor : GoodIn wsX2_isBetweenSameRooms wsX2_hasDoor := goodIn_r _ [7, 8, 9, 10, 11, 12, 13, 14, 15, 16, 17, 18, 19, 20, 21, 22, 23, 24, 25, 26, 27] (by decide +kernel) (by decide +kernel)
set_option maxRecDepth 20000 in
theorem gX2_isBetweenSameRooms_X2_hasDoor : GoodIn wsX2_isBetweenSameRooms (wsV RX2 110 RX2 yX2_hasDoor wsX2_hasDoor) := goodIn_app (goodIn_of _ (by decide +kernel)) ggX2_isBetweenSameRooms_X2_hasDoor
theorem dX2_isBetweenSameRooms_0 : decode cX2_isBetweenSameRooms 0 = .ok (.aload_n 0, 1) := by decide +kernel
theorem dX2_isBetweenSameRooms_1 : decode cX2_isBetweenSameRooms 1 = .ok (.iload_n 1, 1) := by decide +kernel
theorem dX2_isBetweenSameRooms_2 : decode cX2_isBetweenSameRooms 2 = .ok (.invokevirtual 110, 3) := by decide +kernel
theorem dX2_isBetweenSameRooms_5 : decode cX2_isBetweenSameRooms 5 = .ok (.ifCond .eq 75, 3) := by decide +kernel
theorem dX2_isBetweenSameRooms_8 : decode cX2_isBetweenSameRooms 8 = .ok (.aload_n 0, 1) := by decide +kernel
theorem dX2_isBetweenSameRooms_9 : decode cX2_isBetweenSameRooms 9 = .ok (.iload_n 2, 1) := by decide +kernel
theorem dX2_isBetweenSameRooms_10 : decode cX2_isBetweenSameRooms 10 = .ok (.invokevirtual 110, 3) := by decide +kernel
theorem dX2_isBetweenSameRooms_13 : decode cX2_isBetweenSameRooms 13 = .ok (.ifCond .eq 67, 3) := by decide +kernel
theorem dX2_isBetweenSameRooms_16 : decode cX2_isBetweenSameRooms 16 = .ok (.aload_n 0, 1) := by decide +kernel
theorem dX2_isBetweenSameRooms_17 : decode cX2_isBetweenSameRooms 17 = .ok (.getfield 33, 3) := by decide +kernel
theorem dX2_isBetweenSameRooms_20 : decode cX2_isBetweenSameRooms 20 = .ok (.iload_n 1, 1) := by decide +kernel
theorem dX2_isBetweenSameRooms_21 : decode cX2_isBetweenSameRooms 21 = .ok (.iaload, 1) := by decide +kernel
theorem dX2_isBetweenSameRooms_22 : decode cX2_isBetweenSameRooms 22 = .ok (.aload_n 0, 1) := by decide +kernel
theorem dX2_isBetweenSameRooms_23 : decode cX2_isBetweenSameRooms 23 = .ok (.getfield 33, 3) := by decide +kernel
theorem dX2_isBetweenSameRooms_26 : decode cX2_isBetweenSameRooms 26 = .ok (.iload_n 2, 1) := by decide +kernel
theorem dX2_isBetweenSameRooms_27 : decode cX2_isBetweenSameRooms 27 = .ok (.iaload, 1) := by decide +kernel
theorem dX2_isBetweenSameRooms_28 : decode cX2_isBetweenSameRooms 28 = .ok (.if_icmp .ne 18, 3) := by decide +kernel
theorem dX2_isBetweenSameRooms_31 : decode cX2_isBetweenSameRooms 31 = .ok (.aload_n 0, 1) := by decide +kernel
theorem dX2_isBetweenSameRooms_32 : decode cX2_isBetweenSameRooms 32 = .ok (.getfield 37, 3) := by decide +kernel
theorem dX2_isBetweenSameRooms_35 : decode cX2_isBetweenSameRooms 35 = .ok (.iload_n 1, 1) := by decide +kernel
theorem dX2_isBetweenSameRooms_36 : decode cX2_isBetweenSameRooms 36 = .ok (.iaload, 1) := by decide +kernel
theorem dX2_isBetweenSameRooms_37 : decode cX2_isBetweenSameRooms 37 = .ok (.aload_n 0, 1) := by decide +kernel
theorem dX2_isBetweenSameRooms_38 : decode cX2_isBetweenSameRooms 38 = .ok (.getfield 37, 3) := by decide +kernel
theorem dX2_isBetweenSameRooms_41 : decode cX2_isBetweenSameRooms 41 = .ok (.iload_n 2, 1) := by decide +kernel
theorem dX2_isBetweenSameRooms_42 : decode cX2_isBetweenSameRooms 42 = .ok (.iaload, 1) := by decide +kernel
theorem dX2_isBetweenSameRooms_43 : decode cX2_isBetweenSameRooms 43 = .ok (.if_icmp .eq 33, 3) := by decide +kernel
theorem dX2_isBetweenSameRooms_46 : decode cX2_isBetweenSameRooms 46 = .ok (.aload_n 0, 1) := by decide +kernel
theorem dX2_isBetweenSameRooms_47 : decode cX2_isBetweenSameRooms 47 = .ok (.getfield 33, 3) := by decide +kernel
theorem dX2_isBetweenSameRooms_50 : decode cX2_isBetweenSameRooms 50 = .ok (.iload_n 1, 1) := by decide +kernel
theorem dX2_isBetweenSameRooms_51 : decode cX2_isBetweenSameRooms 51 = .ok (.iaload, 1) := by decide +kernel
theorem dX2_isBetweenSameRooms_52 : decode cX2_isBetweenSameRooms 52 = .ok (.aload_n 0, 1) := by decide +kernel
theorem dX2_isBetweenSameRooms_53 : decode cX2_isBetweenSameRooms 53 = .ok (.getfield 37, 3) := by decide +kernel
theorem dX2_isBetweenSameRooms_56 : decode cX2_isBetweenSameRooms 56 = .ok (.iload_n 2, 1) := by decide +kernel
theorem dX2_isBetweenSameRooms_57 : decode cX2_isBetweenSameRooms 57 = .ok (.iaload, 1) := by decide +kernel
theorem dX2_isBetweenSameRooms_58 : decode cX2_isBetweenSameRooms 58 = .ok (.if_icmp .ne 22, 3) := by decide +kernel
theorem dX2_isBetweenSameRooms_61 : decode cX2_isBetweenSameRooms 61 = .ok (.aload_n 0, 1) := by decide +kernel
theorem dX2_isBetweenSameRooms_62 : decode cX2_isBetweenSameRooms 62 = .ok (.getfield 37, 3) := by decide +kernel
theorem dX2_isBetweenSameRooms_65 : decode cX2_isBetweenSameRooms 65 = .ok (.iload_n 1, 1) := by decide +kernel
theorem dX2_isBetweenSameRooms_66 : decode cX2_isBetweenSameRooms 66 = .ok (.iaload, 1) := by decide +kernel
theorem dX2_isBetweenSameRooms_67 : decode cX2_isBetweenSameRooms 67 = .ok (.aload_n 0, 1) := by decide +kernel
theorem dX2_isBetweenSameRooms_68 : decode cX2_isBetweenSameRooms 68 = .ok (.getfield 33, 3) := by decide +kernel
theorem dX2_isBetweenSameRooms_71 : decode cX2_isBetweenSameRooms 71 = .ok (.iload_n 2, 1) := by decide +kernel
theorem dX2_isBetweenSameRooms_72 : decode cX2_isBetweenSameRooms 72 = .ok (.iaload, 1) := by decide +kernel
theorem dX2_isBetweenSameRooms_73 : decode cX2_isBetweenSameRooms 73 = .ok (.if_icmp .ne 7, 3) := by decide +kernel
theorem dX2_isBetweenSameRooms_76 : decode cX2_isBetweenSameRooms 76 = .ok (.iconst 1, 1) := by decide +kernel
theorem dX2_isBetweenSameRooms_77 : decode cX2_isBetweenSameRooms 77 = .ok (.goto 4, 3) := by decide +kernel
theorem dX2_isBetweenSameRooms_80 : decode cX2_isBetweenSameRooms 80 = .ok (.iconst 0, 1) := by decide +kernel
theorem dX2_isBetweenSameRooms_81 : decode cX2_isBetweenSameRooms 81 = .ok (.ireturn, 1) := by decide +kernel
set_option maxRecDepth 20000 in
theorem ggX2_areJoined_X2_hasRoom : GoodIn wsX2_areJoined wsX2_hasRoom := goodIn_r _ [6, 7, 11, 12, 13, 14, 15, 16, 17, 18, 19, 20, 21, 22, 23, 24, 25, 26, 27, 28, 29] (by decide +kernel) (by decide +kernel)
set_option maxRecDepth 20000 in
theorem gX2_areJoined_X2_hasRoom : GoodIn wsX2_areJoined (wsV RX2 98 RX2 yX2_hasRoom wsX2_hasRoom) := goodIn_app (goodIn_of _ (by decide +kernel)) ggX2_areJoined_X2_hasRoom
set_option maxRecDepth 20000 in
theorem ggX2_areJoined_X8_has : GoodIn wsX2_areJoined wsX8_has := goodIn_r _ [10] (by decide +kernel) (by decide +kernel)
set_option maxRecDepth 20000 in
theorem gX2_areJoined_X8_has_n86 : GoodIn wsX2_areJoined (wsX8_has) := ggX2_areJoined_X8_has
theorem dX2_areJoined_0 : decode cX2_areJoined 0 = .ok (.aload_n 0, 1) := by decide +kernel
theorem dX2_areJoined_1 : decode cX2_areJoined 1 = .ok (.iload_n 1, 1) := by decide +kernel
theorem dX2_areJoined_2 : decode cX2_areJoined 2 = .ok (.invokevirtual 98, 3) := by decide +kernel
theorem dX2_areJoined_5 : decode cX2_areJoined 5 = .ok (.ifCond .eq 20, 3) := by decide +kernel
theorem dX2_areJoined_8 : decode cX2_areJoined 8 = .ok (.aload_n 0, 1) := by decide +kernel
theorem dX2_areJoined_9 : decode cX2_areJoined 9 = .ok (.getfield 40, 3) := by decide +kernel
theorem dX2_areJoined_12 : decode cX2_areJoined 12 = .ok (.iload_n 1, 1) := by decide +kernel
theorem dX2_areJoined_13 : decode cX2_areJoined 13 = .ok (.iaload, 1) := by decide +kernel
theorem dX2_areJoined_14 : decode cX2_areJoined 14 = .ok (.iload_n 2, 1) := by decide +kernel
theorem dX2_areJoined_15 : decode cX2_areJoined 15 = .ok (.invokestatic 86, 3) := by decide +kernel
theorem dX2_areJoined_18 : decode cX2_areJoined 18 = .ok (.ifCond .eq 7, 3) := by decide +kernel
theorem dX2_areJoined_21 : decode cX2_areJoined 21 = .ok (.iconst 1, 1) := by decide +kernel
theorem dX2_areJoined_22 : decode cX2_areJoined 22 = .ok (.goto 4, 3) := by decide +kernel
theorem dX2_areJoined_25 : decode cX2_areJoined 25 = .ok (.iconst 0, 1) := by decide +kernel
theorem dX2_areJoined_26 : decode cX2_areJoined 26 = .ok (.ireturn, 1) := by decide +kernel
set_option maxRecDepth 20000 in
theorem ggX2_doorsBetween_X8_has : GoodIn wsX2_doorsBetween wsX8_has := goodIn_r _ [5] (by decide +kernel) (by decide +kernel)
set_option maxRecDepth 20000 in
theorem gX2_doorsBetween_X8_has_n86 : GoodIn wsX2_doorsBetween (wsX8_has) := ggX2_doorsBetween_X8_has
theorem dX2_doorsBetween_0 : decode cX2_doorsBetween 0 = .ok (.iconst 1, 1) := by decide +kernel
theorem dX2_doorsBetween_1 : decode cX2_doorsBetween 1 = .ok (.iload_n 1, 1) := by decide +kernel
theorem dX2_doorsBetween_2 : decode cX2_doorsBetween 2 = .ok (.ishl, 1) := by decide +kernel
theorem dX2_doorsBetween_3 : decode cX2_doorsBetween 3 = .ok (.istore_n 3, 1) := by decide +kernel
theorem dX2_doorsBetween_4 : decode cX2_doorsBetween 4 = .ok (.iconst 0, 1) := by decide +kernel
theorem dX2_doorsBetween_5 : decode cX2_doorsBetween 5 = .ok (.istore 4, 2) := by decide +kernel
theorem dX2_doorsBetween_7 : decode cX2_doorsBetween 7 = .ok (.iload 4, 2) := by decide +kernel
theorem dX2_doorsBetween_9 : decode cX2_doorsBetween 9 = .ok (.bipush 12, 2) := by decide +kernel
theorem dX2_doorsBetween_11 : decode cX2_doorsBetween 11 = .ok (.if_icmp .ge 72, 3) := by decide +kernel
theorem dX2_doorsBetween_14 : decode cX2_doorsBetween 14 = .ok (.iload_n 3, 1) := by decide +kernel
theorem dX2_doorsBetween_15 : decode cX2_doorsBetween 15 = .ok (.iload_n 2, 1) := by decide +kernel
theorem dX2_doorsBetween_16 : decode cX2_doorsBetween 16 = .ok (.invokestatic 86, 3) := by decide +kernel
theorem dX2_doorsBetween_19 : decode cX2_doorsBetween 19 = .ok (.ifCond .eq 6, 3) := by decide +kernel
theorem dX2_doorsBetween_22 : decode cX2_doorsBetween 22 = .ok (.iload 4, 2) := by decide +kernel
theorem dX2_doorsBetween_24 : decode cX2_doorsBetween 24 = .ok (.ireturn, 1) := by decide +kernel
theorem dX2_doorsBetween_25 : decode cX2_doorsBetween 25 = .ok (.iload_n 3, 1) := by decide +kernel
theorem dX2_doorsBetween_26 : decode cX2_doorsBetween 26 = .ok (.istore 5, 2) := by decide +kernel
theorem dX2_doorsBetween_28 : decode cX2_doorsBetween 28 = .ok (.iconst 0, 1) := by decide +kernel
theorem dX2_doorsBetween_29 : decode cX2_doorsBetween 29 = .ok (.istore 6, 2) := by decide +kernel
theorem dX2_doorsBetween_31 : decode cX2_doorsBetween 31 = .ok (.iload 6, 2) := by decide +kernel
theorem dX2_doorsBetween_33 : decode cX2_doorsBetween 33 = .ok (.aload_n 0, 1) := by decide +kernel
theorem dX2_doorsBetween_34 : decode cX2_doorsBetween 34 = .ok (.getfield 9, 3) := by decide +kernel
theorem dX2_doorsBetween_37 : decode cX2_doorsBetween 37 = .ok (.if_icmp .ge 37, 3) := by decide +kernel
theorem dX2_doorsBetween_40 : decode cX2_doorsBetween 40 = .ok (.iload 6, 2) := by decide +kernel
theorem dX2_doorsBetween_42 : decode cX2_doorsBetween 42 = .ok (.bipush 12, 2) := by decide +kernel
theorem dX2_doorsBetween_44 : decode cX2_doorsBetween 44 = .ok (.if_icmp .ge 30, 3) := by decide +kernel
theorem dX2_doorsBetween_47 : decode cX2_doorsBetween 47 = .ok (.iload_n 3, 1) := by decide +kernel
theorem dX2_doorsBetween_48 : decode cX2_doorsBetween 48 = .ok (.iload 6, 2) := by decide +kernel
theorem dX2_doorsBetween_50 : decode cX2_doorsBetween 50 = .ok (.invokestatic 86, 3) := by decide +kernel
theorem dX2_doorsBetween_53 : decode cX2_doorsBetween 53 = .ok (.ifCond .eq 15, 3) := by decide +kernel
theorem dX2_doorsBetween_56 : decode cX2_doorsBetween 56 = .ok (.iload 5, 2) := by decide +kernel
theorem dX2_doorsBetween_58 : decode cX2_doorsBetween 58 = .ok (.aload_n 0, 1) := by decide +kernel
theorem dX2_doorsBetween_59 : decode cX2_doorsBetween 59 = .ok (.getfield 40, 3) := by decide +kernel
theorem dX2_doorsBetween_62 : decode cX2_doorsBetween 62 = .ok (.iload 6, 2) := by decide +kernel
theorem dX2_doorsBetween_64 : decode cX2_doorsBetween 64 = .ok (.iaload, 1) := by decide +kernel
theorem dX2_doorsBetween_65 : decode cX2_doorsBetween 65 = .ok (.ior, 1) := by decide +kernel
theorem dX2_doorsBetween_66 : decode cX2_doorsBetween 66 = .ok (.istore 5, 2) := by decide +kernel
theorem dX2_doorsBetween_68 : decode cX2_doorsBetween 68 = .ok (.iinc 6 1, 3) := by decide +kernel
theorem dX2_doorsBetween_71 : decode cX2_doorsBetween 71 = .ok (.goto (-40), 3) := by decide +kernel
theorem dX2_doorsBetween_74 : decode cX2_doorsBetween 74 = .ok (.iload 5, 2) := by decide +kernel
theorem dX2_doorsBetween_76 : decode cX2_doorsBetween 76 = .ok (.istore_n 3, 1) := by decide +kernel
theorem dX2_doorsBetween_77 : decode cX2_doorsBetween 77 = .ok (.iinc 4 1, 3) := by decide +kernel
theorem dX2_doorsBetween_80 : decode cX2_doorsBetween 80 = .ok (.goto (-73), 3) := by decide +kernel
theorem dX2_doorsBetween_83 : decode cX2_doorsBetween 83 = .ok (.iconst (-1), 1) := by decide +kernel
theorem dX2_doorsBetween_84 : decode cX2_doorsBetween 84 = .ok (.ireturn, 1) := by decide +kernel
set_option maxRecDepth 20000 in
theorem ggX2_emptyWalk_X2_hasGuard : GoodIn wsX2_emptyWalk wsX2_hasGuard := goodIn_r _ [8, 9, 10, 11, 12, 13, 14, 15, 16, 17, 18, 19, 20, 21, 22, 23, 24, 25, 26, 27, 28] (by decide +kernel) (by decide +kernel)
set_option maxRecDepth 20000 in
theorem gX2_emptyWalk_X2_hasGuard : GoodIn wsX2_emptyWalk (wsV RX2 113 RX2 yX2_hasGuard wsX2_hasGuard) := goodIn_app (goodIn_of _ (by decide +kernel)) ggX2_emptyWalk_X2_hasGuard
theorem dX2_emptyWalk_0 : decode cX2_emptyWalk 0 = .ok (.aload_n 0, 1) := by decide +kernel
theorem dX2_emptyWalk_1 : decode cX2_emptyWalk 1 = .ok (.iload_n 1, 1) := by decide +kernel
theorem dX2_emptyWalk_2 : decode cX2_emptyWalk 2 = .ok (.invokevirtual 113, 3) := by decide +kernel
theorem dX2_emptyWalk_5 : decode cX2_emptyWalk 5 = .ok (.ifCond .eq 24, 3) := by decide +kernel
theorem dX2_emptyWalk_8 : decode cX2_emptyWalk 8 = .ok (.aload_n 0, 1) := by decide +kernel
theorem dX2_emptyWalk_9 : decode cX2_emptyWalk 9 = .ok (.getfield 46, 3) := by decide +kernel
theorem dX2_emptyWalk_12 : decode cX2_emptyWalk 12 = .ok (.iload_n 1, 1) := by decide +kernel
theorem dX2_emptyWalk_13 : decode cX2_emptyWalk 13 = .ok (.iconst 0, 1) := by decide +kernel
theorem dX2_emptyWalk_14 : decode cX2_emptyWalk 14 = .ok (.iastore, 1) := by decide +kernel
theorem dX2_emptyWalk_15 : decode cX2_emptyWalk 15 = .ok (.aload_n 0, 1) := by decide +kernel
theorem dX2_emptyWalk_16 : decode cX2_emptyWalk 16 = .ok (.getfield 49, 3) := by decide +kernel
theorem dX2_emptyWalk_19 : decode cX2_emptyWalk 19 = .ok (.iload_n 1, 1) := by decide +kernel
theorem dX2_emptyWalk_20 : decode cX2_emptyWalk 20 = .ok (.iconst 0, 1) := by decide +kernel
theorem dX2_emptyWalk_21 : decode cX2_emptyWalk 21 = .ok (.iastore, 1) := by decide +kernel
theorem dX2_emptyWalk_22 : decode cX2_emptyWalk 22 = .ok (.aload_n 0, 1) := by decide +kernel
theorem dX2_emptyWalk_23 : decode cX2_emptyWalk 23 = .ok (.getfield 55, 3) := by decide +kernel
theorem dX2_emptyWalk_26 : decode cX2_emptyWalk 26 = .ok (.iload_n 1, 1) := by decide +kernel
theorem dX2_emptyWalk_27 : decode cX2_emptyWalk 27 = .ok (.iconst 0, 1) := by decide +kernel
theorem dX2_emptyWalk_28 : decode cX2_emptyWalk 28 = .ok (.iastore, 1) := by decide +kernel
theorem dX2_emptyWalk_29 : decode cX2_emptyWalk 29 = .ok (.return_, 1) := by decide +kernel
set_option maxRecDepth 20000 in
theorem ggX2_addStep_X2_hasGuard : GoodIn wsX2_addStep wsX2_hasGuard := goodIn_r _ [8, 9, 10, 11, 12, 13, 14, 15, 16, 17, 18, 19, 20, 21, 22, 23, 24, 25, 26, 27, 28] (by decide +kernel) (by decide +kernel)
set_option maxRecDepth 20000 in
theorem gX2_addStep_X2_hasGuard : GoodIn wsX2_addStep (wsV RX2 113 RX2 yX2_hasGuard wsX2_hasGuard) := goodIn_app (goodIn_of _ (by decide +kernel)) ggX2_addStep_X2_hasGuard
theorem dX2_addStep_0 : decode cX2_addStep 0 = .ok (.aload_n 0, 1) := by decide +kernel
theorem dX2_addStep_1 : decode cX2_addStep 1 = .ok (.iload_n 1, 1) := by decide +kernel
theorem dX2_addStep_2 : decode cX2_addStep 2 = .ok (.invokevirtual 113, 3) := by decide +kernel
theorem dX2_addStep_5 : decode cX2_addStep 5 = .ok (.ifCond .eq 62, 3) := by decide +kernel
theorem dX2_addStep_8 : decode cX2_addStep 8 = .ok (.aload_n 0, 1) := by decide +kernel
theorem dX2_addStep_9 : decode cX2_addStep 9 = .ok (.getfield 46, 3) := by decide +kernel
theorem dX2_addStep_12 : decode cX2_addStep 12 = .ok (.iload_n 1, 1) := by decide +kernel
theorem dX2_addStep_13 : decode cX2_addStep 13 = .ok (.iaload, 1) := by decide +kernel
theorem dX2_addStep_14 : decode cX2_addStep 14 = .ok (.ifCond .lt 53, 3) := by decide +kernel
theorem dX2_addStep_17 : decode cX2_addStep 17 = .ok (.aload_n 0, 1) := by decide +kernel
theorem dX2_addStep_18 : decode cX2_addStep 18 = .ok (.getfield 46, 3) := by decide +kernel
theorem dX2_addStep_21 : decode cX2_addStep 21 = .ok (.iload_n 1, 1) := by decide +kernel
theorem dX2_addStep_22 : decode cX2_addStep 22 = .ok (.iaload, 1) := by decide +kernel
theorem dX2_addStep_23 : decode cX2_addStep 23 = .ok (.bipush 10, 2) := by decide +kernel
theorem dX2_addStep_25 : decode cX2_addStep 25 = .ok (.if_icmp .ge 42, 3) := by decide +kernel
theorem dX2_addStep_28 : decode cX2_addStep 28 = .ok (.aload_n 0, 1) := by decide +kernel
theorem dX2_addStep_29 : decode cX2_addStep 29 = .ok (.getfield 52, 3) := by decide +kernel
theorem dX2_addStep_32 : decode cX2_addStep 32 = .ok (.iload_n 1, 1) := by decide +kernel
theorem dX2_addStep_33 : decode cX2_addStep 33 = .ok (.bipush 10, 2) := by decide +kernel
theorem dX2_addStep_35 : decode cX2_addStep 35 = .ok (.imul, 1) := by decide +kernel
theorem dX2_addStep_36 : decode cX2_addStep 36 = .ok (.aload_n 0, 1) := by decide +kernel
theorem dX2_addStep_37 : decode cX2_addStep 37 = .ok (.getfield 46, 3) := by decide +kernel
theorem dX2_addStep_40 : decode cX2_addStep 40 = .ok (.iload_n 1, 1) := by decide +kernel
theorem dX2_addStep_41 : decode cX2_addStep 41 = .ok (.iaload, 1) := by decide +kernel
theorem dX2_addStep_42 : decode cX2_addStep 42 = .ok (.iadd, 1) := by decide +kernel
theorem dX2_addStep_43 : decode cX2_addStep 43 = .ok (.iload_n 2, 1) := by decide +kernel
theorem dX2_addStep_44 : decode cX2_addStep 44 = .ok (.iastore, 1) := by decide +kernel
theorem dX2_addStep_45 : decode cX2_addStep 45 = .ok (.aload_n 0, 1) := by decide +kernel
theorem dX2_addStep_46 : decode cX2_addStep 46 = .ok (.getfield 55, 3) := by decide +kernel
theorem dX2_addStep_49 : decode cX2_addStep 49 = .ok (.iload_n 1, 1) := by decide +kernel
theorem dX2_addStep_50 : decode cX2_addStep 50 = .ok (.dup2, 1) := by decide +kernel
theorem dX2_addStep_51 : decode cX2_addStep 51 = .ok (.iaload, 1) := by decide +kernel
theorem dX2_addStep_52 : decode cX2_addStep 52 = .ok (.iconst 1, 1) := by decide +kernel
theorem dX2_addStep_53 : decode cX2_addStep 53 = .ok (.iload_n 2, 1) := by decide +kernel
theorem dX2_addStep_54 : decode cX2_addStep 54 = .ok (.ishl, 1) := by decide +kernel
theorem dX2_addStep_55 : decode cX2_addStep 55 = .ok (.ior, 1) := by decide +kernel
theorem dX2_addStep_56 : decode cX2_addStep 56 = .ok (.iastore, 1) := by decide +kernel
theorem dX2_addStep_57 : decode cX2_addStep 57 = .ok (.aload_n 0, 1) := by decide +kernel
theorem dX2_addStep_58 : decode cX2_addStep 58 = .ok (.getfield 46, 3) := by decide +kernel
theorem dX2_addStep_61 : decode cX2_addStep 61 = .ok (.iload_n 1, 1) := by decide +kernel
theorem dX2_addStep_62 : decode cX2_addStep 62 = .ok (.dup2, 1) := by decide +kernel
theorem dX2_addStep_63 : decode cX2_addStep 63 = .ok (.iaload, 1) := by decide +kernel
theorem dX2_addStep_64 : decode cX2_addStep 64 = .ok (.iconst 1, 1) := by decide +kernel
theorem dX2_addStep_65 : decode cX2_addStep 65 = .ok (.iadd, 1) := by decide +kernel
theorem dX2_addStep_66 : decode cX2_addStep 66 = .ok (.iastore, 1) := by decide +kernel
theorem dX2_addStep_67 : decode cX2_addStep 67 = .ok (.return_, 1) := by decide +kernel
set_option maxRecDepth 20000 in
theorem ggX2_walkRoom_X2_hasGuard : GoodIn wsX2_walkRoom wsX2_hasGuard := goodIn_r _ [7, 8, 9, 10, 11, 12, 13, 14, 15, 16, 17, 18, 19, 20, 21, 22, 23, 24, 25, 26, 27] (by decide +kernel) (by decide +kernel)
set_option maxRecDepth 20000 in
theorem gX2_walkRoom_X2_hasGuard : GoodIn wsX2_walkRoom (wsV RX2 113 RX2 yX2_hasGuard wsX2_hasGuard) := goodIn_app (goodIn_of _ (by decide +kernel)) ggX2_walkRoom_X2_hasGuard
theorem dX2_walkRoom_0 : decode cX2_walkRoom 0 = .ok (.aload_n 0, 1) := by decide +kernel
theorem dX2_walkRoom_1 : decode cX2_walkRoom 1 = .ok (.iload_n 1, 1) := by decide +kernel
theorem dX2_walkRoom_2 : decode cX2_walkRoom 2 = .ok (.invokevirtual 113, 3) := by decide +kernel
theorem dX2_walkRoom_5 : decode cX2_walkRoom 5 = .ok (.ifCond .eq 23, 3) := by decide +kernel
theorem dX2_walkRoom_8 : decode cX2_walkRoom 8 = .ok (.iload_n 2, 1) := by decide +kernel
theorem dX2_walkRoom_9 : decode cX2_walkRoom 9 = .ok (.ifCond .lt 19, 3) := by decide +kernel
theorem dX2_walkRoom_12 : decode cX2_walkRoom 12 = .ok (.iload_n 2, 1) := by decide +kernel
theorem dX2_walkRoom_13 : decode cX2_walkRoom 13 = .ok (.aload_n 0, 1) := by decide +kernel
theorem dX2_walkRoom_14 : decode cX2_walkRoom 14 = .ok (.getfield 46, 3) := by decide +kernel
theorem dX2_walkRoom_17 : decode cX2_walkRoom 17 = .ok (.iload_n 1, 1) := by decide +kernel
theorem dX2_walkRoom_18 : decode cX2_walkRoom 18 = .ok (.iaload, 1) := by decide +kernel
theorem dX2_walkRoom_19 : decode cX2_walkRoom 19 = .ok (.if_icmp .ge 9, 3) := by decide +kernel
theorem dX2_walkRoom_22 : decode cX2_walkRoom 22 = .ok (.iload_n 2, 1) := by decide +kernel
theorem dX2_walkRoom_23 : decode cX2_walkRoom 23 = .ok (.bipush 10, 2) := by decide +kernel
theorem dX2_walkRoom_25 : decode cX2_walkRoom 25 = .ok (.if_icmp .lt 5, 3) := by decide +kernel
theorem dX2_walkRoom_28 : decode cX2_walkRoom 28 = .ok (.iconst (-1), 1) := by decide +kernel
theorem dX2_walkRoom_29 : decode cX2_walkRoom 29 = .ok (.ireturn, 1) := by decide +kernel
theorem dX2_walkRoom_30 : decode cX2_walkRoom 30 = .ok (.aload_n 0, 1) := by decide +kernel
theorem dX2_walkRoom_31 : decode cX2_walkRoom 31 = .ok (.getfield 52, 3) := by decide +kernel
theorem dX2_walkRoom_34 : decode cX2_walkRoom 34 = .ok (.iload_n 1, 1) := by decide +kernel
theorem dX2_walkRoom_35 : decode cX2_walkRoom 35 = .ok (.bipush 10, 2) := by decide +kernel
theorem dX2_walkRoom_37 : decode cX2_walkRoom 37 = .ok (.imul, 1) := by decide +kernel
theorem dX2_walkRoom_38 : decode cX2_walkRoom 38 = .ok (.iload_n 2, 1) := by decide +kernel
theorem dX2_walkRoom_39 : decode cX2_walkRoom 39 = .ok (.iadd, 1) := by decide +kernel
theorem dX2_walkRoom_40 : decode cX2_walkRoom 40 = .ok (.iaload, 1) := by decide +kernel
theorem dX2_walkRoom_41 : decode cX2_walkRoom 41 = .ok (.ireturn, 1) := by decide +kernel
set_option maxRecDepth 20000 in
theorem ggX2_lastRoom_X2_hasGuard : GoodIn wsX2_lastRoom wsX2_hasGuard := goodIn_r _ [7, 8, 9, 10, 11, 12, 13, 14, 15, 16, 17, 18, 19, 20, 21, 22, 23, 24, 25, 26, 27] (by decide +kernel) (by decide +kernel)
set_option maxRecDepth 20000 in
theorem gX2_lastRoom_X2_hasGuard : GoodIn wsX2_lastRoom (wsV RX2 113 RX2 yX2_hasGuard wsX2_hasGuard) := goodIn_app (goodIn_of _ (by decide +kernel)) ggX2_lastRoom_X2_hasGuard
theorem dX2_lastRoom_0 : decode cX2_lastRoom 0 = .ok (.aload_n 0, 1) := by decide +kernel
theorem dX2_lastRoom_1 : decode cX2_lastRoom 1 = .ok (.iload_n 1, 1) := by decide +kernel
theorem dX2_lastRoom_2 : decode cX2_lastRoom 2 = .ok (.invokevirtual 113, 3) := by decide +kernel
theorem dX2_lastRoom_5 : decode cX2_lastRoom 5 = .ok (.ifCond .eq 24, 3) := by decide +kernel
theorem dX2_lastRoom_8 : decode cX2_lastRoom 8 = .ok (.aload_n 0, 1) := by decide +kernel
theorem dX2_lastRoom_9 : decode cX2_lastRoom 9 = .ok (.getfield 46, 3) := by decide +kernel
theorem dX2_lastRoom_12 : decode cX2_lastRoom 12 = .ok (.iload_n 1, 1) := by decide +kernel
theorem dX2_lastRoom_13 : decode cX2_lastRoom 13 = .ok (.iaload, 1) := by decide +kernel
theorem dX2_lastRoom_14 : decode cX2_lastRoom 14 = .ok (.iconst 1, 1) := by decide +kernel
theorem dX2_lastRoom_15 : decode cX2_lastRoom 15 = .ok (.if_icmp .lt 14, 3) := by decide +kernel
theorem dX2_lastRoom_18 : decode cX2_lastRoom 18 = .ok (.aload_n 0, 1) := by decide +kernel
theorem dX2_lastRoom_19 : decode cX2_lastRoom 19 = .ok (.getfield 46, 3) := by decide +kernel
theorem dX2_lastRoom_22 : decode cX2_lastRoom 22 = .ok (.iload_n 1, 1) := by decide +kernel
theorem dX2_lastRoom_23 : decode cX2_lastRoom 23 = .ok (.iaload, 1) := by decide +kernel
theorem dX2_lastRoom_24 : decode cX2_lastRoom 24 = .ok (.bipush 10, 2) := by decide +kernel
theorem dX2_lastRoom_26 : decode cX2_lastRoom 26 = .ok (.if_icmp .le 5, 3) := by decide +kernel
theorem dX2_lastRoom_29 : decode cX2_lastRoom 29 = .ok (.iconst (-1), 1) := by decide +kernel
theorem dX2_lastRoom_30 : decode cX2_lastRoom 30 = .ok (.ireturn, 1) := by decide +kernel
theorem dX2_lastRoom_31 : decode cX2_lastRoom 31 = .ok (.aload_n 0, 1) := by decide +kernel
theorem dX2_lastRoom_32 : decode cX2_lastRoom 32 = .ok (.getfield 52, 3) := by decide +kernel
theorem dX2_lastRoom_35 : decode cX2_lastRoom 35 = .ok (.iload_n 1, 1) := by decide +kernel
theorem dX2_lastRoom_36 : decode cX2_lastRoom 36 = .ok (.bipush 10, 2) := by decide +kernel
theorem dX2_lastRoom_38 : decode cX2_lastRoom 38 = .ok (.imul, 1) := by decide +kernel
theorem dX2_lastRoom_39 : decode cX2_lastRoom 39 = .ok (.aload_n 0, 1) := by decide +kernel
theorem dX2_lastRoom_40 : decode cX2_lastRoom 40 = .ok (.getfield 46, 3) := by decide +kernel
theorem dX2_lastRoom_43 : decode cX2_lastRoom 43 = .ok (.iload_n 1, 1) := by decide +kernel
theorem dX2_lastRoom_44 : decode cX2_lastRoom 44 = .ok (.iaload, 1) := by decide +kernel
theorem dX2_lastRoom_45 : decode cX2_lastRoom 45 = .ok (.iadd, 1) := by decide +kernel
theorem dX2_lastRoom_46 : decode cX2_lastRoom 46 = .ok (.iconst 1, 1) := by decide +kernel
theorem dX2_lastRoom_47 : decode cX2_lastRoom 47 = .ok (.isub, 1) := by decide +kernel
theorem dX2_lastRoom_48 : decode cX2_lastRoom 48 = .ok (.iaload, 1) := by decide +kernel
theorem dX2_lastRoom_49 : decode cX2_lastRoom 49 = .ok (.ireturn, 1) := by decide +kernel
set_option maxRecDepth 20000 in
theorem ggX2_canGo_X2_hasRoom : GoodIn wsX2_canGo wsX2_hasRoom := goodIn_r _ [6, 7, 11, 12, 13, 14, 15, 16, 17, 18, 19, 20, 21, 22, 23, 24, 25, 26, 27, 28, 29] (by decide +kernel) (by decide +kernel)
set_option maxRecDepth 20000 in
theorem gX2_canGo_X2_hasRoom : GoodIn wsX2_canGo (wsV RX2 98 RX2 yX2_hasRoom wsX2_hasRoom) := goodIn_app (goodIn_of _ (by decide +kernel)) ggX2_canGo_X2_hasRoom
set_option maxRecDepth 20000 in
theorem ggX2_canGo_X8_has : GoodIn wsX2_canGo wsX8_has := goodIn_r _ [10] (by decide +kernel) (by decide +kernel)
set_option maxRecDepth 20000 in
theorem gX2_canGo_X8_has_n86 : GoodIn wsX2_canGo (wsX8_has) := ggX2_canGo_X8_has
theorem dX2_canGo_0 : decode cX2_canGo 0 = .ok (.iload_n 1, 1) := by decide +kernel
theorem dX2_canGo_1 : decode cX2_canGo 1 = .ok (.iconst (-1), 1) := by decide +kernel
theorem dX2_canGo_2 : decode cX2_canGo 2 = .ok (.if_icmp .eq 29, 3) := by decide +kernel
theorem dX2_canGo_5 : decode cX2_canGo 5 = .ok (.iload_n 1, 1) := by decide +kernel
theorem dX2_canGo_6 : decode cX2_canGo 6 = .ok (.iload_n 2, 1) := by decide +kernel
theorem dX2_canGo_7 : decode cX2_canGo 7 = .ok (.if_icmp .eq 24, 3) := by decide +kernel
theorem dX2_canGo_10 : decode cX2_canGo 10 = .ok (.aload_n 0, 1) := by decide +kernel
theorem dX2_canGo_11 : decode cX2_canGo 11 = .ok (.iload_n 1, 1) := by decide +kernel
theorem dX2_canGo_12 : decode cX2_canGo 12 = .ok (.invokevirtual 98, 3) := by decide +kernel
theorem dX2_canGo_15 : decode cX2_canGo 15 = .ok (.ifCond .eq 20, 3) := by decide +kernel
theorem dX2_canGo_18 : decode cX2_canGo 18 = .ok (.aload_n 0, 1) := by decide +kernel
theorem dX2_canGo_19 : decode cX2_canGo 19 = .ok (.getfield 40, 3) := by decide +kernel
theorem dX2_canGo_22 : decode cX2_canGo 22 = .ok (.iload_n 1, 1) := by decide +kernel
theorem dX2_canGo_23 : decode cX2_canGo 23 = .ok (.iaload, 1) := by decide +kernel
theorem dX2_canGo_24 : decode cX2_canGo 24 = .ok (.iload_n 2, 1) := by decide +kernel
theorem dX2_canGo_25 : decode cX2_canGo 25 = .ok (.invokestatic 86, 3) := by decide +kernel
theorem dX2_canGo_28 : decode cX2_canGo 28 = .ok (.ifCond .eq 7, 3) := by decide +kernel
theorem dX2_canGo_31 : decode cX2_canGo 31 = .ok (.iconst 1, 1) := by decide +kernel
theorem dX2_canGo_32 : decode cX2_canGo 32 = .ok (.goto 4, 3) := by decide +kernel
theorem dX2_canGo_35 : decode cX2_canGo 35 = .ok (.iconst 0, 1) := by decide +kernel
theorem dX2_canGo_36 : decode cX2_canGo 36 = .ok (.ireturn, 1) := by decide +kernel
set_option maxRecDepth 20000 in
theorem ggX2_countGuardsThrough_X2_hasDoor : GoodIn wsX2_countGuardsThrough wsX2_hasDoor := goodIn_r _ [8, 9, 28, 29, 30, 31, 32, 33, 34, 35, 36, 37, 38, 39, 40, 41, 42, 43, 44, 45, 46] (by decide +kernel) (by decide +kernel)
set_option maxRecDepth 20000 in
theorem gX2_countGuardsThrough_X2_hasDoor : GoodIn wsX2_countGuardsThrough (wsV RX2 110 RX2 yX2_hasDoor wsX2_hasDoor) := goodIn_app (goodIn_of _ (by decide +kernel)) ggX2_countGuardsThrough_X2_hasDoor
set_option maxRecDepth 20000 in
theorem ggX2_countGuardsThrough_X2_goesThrough : GoodIn wsX2_countGuardsThrough wsX2_goesThrough := goodIn_r _ [13, 14, 15, 16, 7, 17, 18, 19, 20, 21, 22, 23, 1, 24, 25, 26, 27, 28, 29, 30, 31, 32, 33, 34, 35, 36, 37, 38, 39, 40, 41, 42, 43, 44, 45, 46] (by decide +kernel) (by decide +kernel)
set_option maxRecDepth 20000 in
theorem gX2_countGuardsThrough_X2_goesThrough : GoodIn wsX2_countGuardsThrough (wsV RX2 116 RX2 yX2_goesThrough wsX2_goesThrough) := goodIn_app (goodIn_of _ (by decide +kernel)) ggX2_countGuardsThrough_X2_goesThrough
theorem dX2_countGuardsThrough_0 : decode cX2_countGuardsThrough 0 = .ok (.aload_n 0, 1) := by decide +kernel
theorem dX2_countGuardsThrough_1 : decode cX2_countGuardsThrough 1 = .ok (.iload_n 1, 1) := by decide +kernel
theorem dX2_countGuardsThrough_2 : decode cX2_countGuardsThrough 2 = .ok (.invokevirtual 110, 3) := by decide +kernel
theorem dX2_countGuardsThrough_5 : decode cX2_countGuardsThrough 5 = .ok (.ifCond .ne 5, 3) := by decide +kernel
theorem dX2_countGuardsThrough_8 : decode cX2_countGuardsThrough 8 = .ok (.iconst 0, 1) := by decide +kernel
theorem dX2_countGuardsThrough_9 : decode cX2_countGuardsThrough 9 = .ok (.ireturn, 1) := by decide +kernel
theorem dX2_countGuardsThrough_10 : decode cX2_countGuardsThrough 10 = .ok (.iconst 0, 1) := by decide +kernel
theorem dX2_countGuardsThrough_11 : decode cX2_countGuardsThrough 11 = .ok (.istore_n 2, 1) := by decide +kernel
theorem dX2_countGuardsThrough_12 : decode cX2_countGuardsThrough 12 = .ok (.iconst 0, 1) := by decide +kernel
theorem dX2_countGuardsThrough_13 : decode cX2_countGuardsThrough 13 = .ok (.istore_n 3, 1) := by decide +kernel
theorem dX2_countGuardsThrough_14 : decode cX2_countGuardsThrough 14 = .ok (.iload_n 3, 1) := by decide +kernel
theorem dX2_countGuardsThrough_15 : decode cX2_countGuardsThrough 15 = .ok (.aload_n 0, 1) := by decide +kernel
theorem dX2_countGuardsThrough_16 : decode cX2_countGuardsThrough 16 = .ok (.getfield 18, 3) := by decide +kernel
theorem dX2_countGuardsThrough_19 : decode cX2_countGuardsThrough 19 = .ok (.if_icmp .ge 32, 3) := by decide +kernel
theorem dX2_countGuardsThrough_22 : decode cX2_countGuardsThrough 22 = .ok (.aload_n 0, 1) := by decide +kernel
theorem dX2_countGuardsThrough_23 : decode cX2_countGuardsThrough 23 = .ok (.iload_n 3, 1) := by decide +kernel
theorem dX2_countGuardsThrough_24 : decode cX2_countGuardsThrough 24 = .ok (.aload_n 0, 1) := by decide +kernel
theorem dX2_countGuardsThrough_25 : decode cX2_countGuardsThrough 25 = .ok (.getfield 33, 3) := by decide +kernel
theorem dX2_countGuardsThrough_28 : decode cX2_countGuardsThrough 28 = .ok (.iload_n 1, 1) := by decide +kernel
theorem dX2_countGuardsThrough_29 : decode cX2_countGuardsThrough 29 = .ok (.iaload, 1) := by decide +kernel
theorem dX2_countGuardsThrough_30 : decode cX2_countGuardsThrough 30 = .ok (.aload_n 0, 1) := by decide +kernel
theorem dX2_countGuardsThrough_31 : decode cX2_countGuardsThrough 31 = .ok (.getfield 37, 3) := by decide +kernel
theorem dX2_countGuardsThrough_34 : decode cX2_countGuardsThrough 34 = .ok (.iload_n 1, 1) := by decide +kernel
theorem dX2_countGuardsThrough_35 : decode cX2_countGuardsThrough 35 = .ok (.iaload, 1) := by decide +kernel
theorem dX2_countGuardsThrough_36 : decode cX2_countGuardsThrough 36 = .ok (.invokevirtual 116, 3) := by decide +kernel
theorem dX2_countGuardsThrough_39 : decode cX2_countGuardsThrough 39 = .ok (.ifCond .eq 6, 3) := by decide +kernel
theorem dX2_countGuardsThrough_42 : decode cX2_countGuardsThrough 42 = .ok (.iinc 2 1, 3) := by decide +kernel
theorem dX2_countGuardsThrough_45 : decode cX2_countGuardsThrough 45 = .ok (.iinc 3 1, 3) := by decide +kernel
theorem dX2_countGuardsThrough_48 : decode cX2_countGuardsThrough 48 = .ok (.goto (-34), 3) := by decide +kernel
theorem dX2_countGuardsThrough_51 : decode cX2_countGuardsThrough 51 = .ok (.iload_n 2, 1) := by decide +kernel
theorem dX2_countGuardsThrough_52 : decode cX2_countGuardsThrough 52 = .ok (.ireturn, 1) := by decide +kernel
set_option maxRecDepth 20000 in
theorem ggX2_goesThrough_X2_lastRoom : GoodIn wsX2_goesThrough wsX2_lastRoom := goodIn_r _ [5, 6, 7, 8, 9, 10, 4, 11, 12, 17, 18, 19, 20, 21, 22, 23, 24, 25, 26, 27, 28, 29, 30, 31, 32, 33, 34, 35] (by decide +kernel) (by decide +kernel)
set_option maxRecDepth 20000 in
theorem gX2_goesThrough_X2_lastRoom : GoodIn wsX2_goesThrough (wsV RX2 120 RX2 yX2_lastRoom wsX2_lastRoom) := goodIn_app (goodIn_of _ (by decide +kernel)) ggX2_goesThrough_X2_lastRoom
set_option maxRecDepth 20000 in
theorem ggX2_goesThrough_X2_walkRoom : GoodIn wsX2_goesThrough wsX2_walkRoom := goodIn_r _ [16, 6, 7, 8, 9, 10, 4, 11, 12, 17, 18, 19, 20, 21, 22, 23, 24, 25, 26, 27, 28, 29, 30, 31, 32, 33, 34, 35] (by decide +kernel) (by decide +kernel)
set_option maxRecDepth 20000 in
theorem gX2_goesThrough_X2_walkRoom : GoodIn wsX2_goesThrough (wsV RX2 123 RX2 yX2_walkRoom wsX2_walkRoom) := goodIn_app (goodIn_of _ (by decide +kernel)) ggX2_goesThrough_X2_walkRoom
theorem dX2_goesThrough_0 : decode cX2_goesThrough 0 = .ok (.aload_n 0, 1) := by decide +kernel
theorem dX2_goesThrough_1 : decode cX2_goesThrough 1 = .ok (.iload_n 1, 1) := by decide +kernel
theorem dX2_goesThrough_2 : decode cX2_goesThrough 2 = .ok (.invokevirtual 120, 3) := by decide +kernel
theorem dX2_goesThrough_5 : decode cX2_goesThrough 5 = .ok (.istore 4, 2) := by decide +kernel
theorem dX2_goesThrough_7 : decode cX2_goesThrough 7 = .ok (.iconst 0, 1) := by decide +kernel
theorem dX2_goesThrough_8 : decode cX2_goesThrough 8 = .ok (.istore 5, 2) := by decide +kernel
theorem dX2_goesThrough_10 : decode cX2_goesThrough 10 = .ok (.iload 5, 2) := by decide +kernel
theorem dX2_goesThrough_12 : decode cX2_goesThrough 12 = .ok (.bipush 10, 2) := by decide +kernel
theorem dX2_goesThrough_14 : decode cX2_goesThrough 14 = .ok (.if_icmp .ge 59, 3) := by decide +kernel
theorem dX2_goesThrough_17 : decode cX2_goesThrough 17 = .ok (.aload_n 0, 1) := by decide +kernel
theorem dX2_goesThrough_18 : decode cX2_goesThrough 18 = .ok (.iload_n 1, 1) := by decide +kernel
theorem dX2_goesThrough_19 : decode cX2_goesThrough 19 = .ok (.iload 5, 2) := by decide +kernel
theorem dX2_goesThrough_21 : decode cX2_goesThrough 21 = .ok (.invokevirtual 123, 3) := by decide +kernel
theorem dX2_goesThrough_24 : decode cX2_goesThrough 24 = .ok (.iconst (-1), 1) := by decide +kernel
theorem dX2_goesThrough_25 : decode cX2_goesThrough 25 = .ok (.if_icmp .eq 48, 3) := by decide +kernel
theorem dX2_goesThrough_28 : decode cX2_goesThrough 28 = .ok (.aload_n 0, 1) := by decide +kernel
theorem dX2_goesThrough_29 : decode cX2_goesThrough 29 = .ok (.iload_n 1, 1) := by decide +kernel
theorem dX2_goesThrough_30 : decode cX2_goesThrough 30 = .ok (.iload 5, 2) := by decide +kernel
theorem dX2_goesThrough_32 : decode cX2_goesThrough 32 = .ok (.invokevirtual 123, 3) := by decide +kernel
theorem dX2_goesThrough_35 : decode cX2_goesThrough 35 = .ok (.istore 6, 2) := by decide +kernel
theorem dX2_goesThrough_37 : decode cX2_goesThrough 37 = .ok (.iload 4, 2) := by decide +kernel
theorem dX2_goesThrough_39 : decode cX2_goesThrough 39 = .ok (.iload_n 2, 1) := by decide +kernel
theorem dX2_goesThrough_40 : decode cX2_goesThrough 40 = .ok (.if_icmp .ne 9, 3) := by decide +kernel
theorem dX2_goesThrough_43 : decode cX2_goesThrough 43 = .ok (.iload 6, 2) := by decide +kernel
theorem dX2_goesThrough_45 : decode cX2_goesThrough 45 = .ok (.iload_n 3, 1) := by decide +kernel
theorem dX2_goesThrough_46 : decode cX2_goesThrough 46 = .ok (.if_icmp .eq 15, 3) := by decide +kernel
theorem dX2_goesThrough_49 : decode cX2_goesThrough 49 = .ok (.iload 4, 2) := by decide +kernel
theorem dX2_goesThrough_51 : decode cX2_goesThrough 51 = .ok (.iload_n 3, 1) := by decide +kernel
theorem dX2_goesThrough_52 : decode cX2_goesThrough 52 = .ok (.if_icmp .ne 11, 3) := by decide +kernel
theorem dX2_goesThrough_55 : decode cX2_goesThrough 55 = .ok (.iload 6, 2) := by decide +kernel
theorem dX2_goesThrough_57 : decode cX2_goesThrough 57 = .ok (.iload_n 2, 1) := by decide +kernel
theorem dX2_goesThrough_58 : decode cX2_goesThrough 58 = .ok (.if_icmp .ne 5, 3) := by decide +kernel
theorem dX2_goesThrough_61 : decode cX2_goesThrough 61 = .ok (.iconst 1, 1) := by decide +kernel
theorem dX2_goesThrough_62 : decode cX2_goesThrough 62 = .ok (.ireturn, 1) := by decide +kernel
theorem dX2_goesThrough_63 : decode cX2_goesThrough 63 = .ok (.iload 6, 2) := by decide +kernel
theorem dX2_goesThrough_65 : decode cX2_goesThrough 65 = .ok (.istore 4, 2) := by decide +kernel
theorem dX2_goesThrough_67 : decode cX2_goesThrough 67 = .ok (.iinc 5 1, 3) := by decide +kernel
theorem dX2_goesThrough_70 : decode cX2_goesThrough 70 = .ok (.goto (-60), 3) := by decide +kernel
theorem dX2_goesThrough_73 : decode cX2_goesThrough 73 = .ok (.iconst 0, 1) := by decide +kernel
theorem dX2_goesThrough_74 : decode cX2_goesThrough 74 = .ok (.ireturn, 1) := by decide +kernel
set_option maxRecDepth 20000 in
theorem ggX2_cycleLength_X8_leastMultiple : GoodIn wsX2_cycleLength wsX8_leastMultiple := goodIn_r _ [5] (by decide +kernel) (by decide +kernel)
set_option maxRecDepth 20000 in
theorem gX2_cycleLength_X8_leastMultiple_n127 : GoodIn wsX2_cycleLength (wsX8_leastMultiple) := ggX2_cycleLength_X8_leastMultiple
theorem dX2_cycleLength_0 : decode cX2_cycleLength 0 = .ok (.iconst 1, 1) := by decide +kernel
theorem dX2_cycleLength_1 : decode cX2_cycleLength 1 = .ok (.istore_n 1, 1) := by decide +kernel
theorem dX2_cycleLength_2 : decode cX2_cycleLength 2 = .ok (.iconst 0, 1) := by decide +kernel
theorem dX2_cycleLength_3 : decode cX2_cycleLength 3 = .ok (.istore_n 2, 1) := by decide +kernel
theorem dX2_cycleLength_4 : decode cX2_cycleLength 4 = .ok (.iload_n 2, 1) := by decide +kernel
theorem dX2_cycleLength_5 : decode cX2_cycleLength 5 = .ok (.aload_n 0, 1) := by decide +kernel
theorem dX2_cycleLength_6 : decode cX2_cycleLength 6 = .ok (.getfield 18, 3) := by decide +kernel
theorem dX2_cycleLength_9 : decode cX2_cycleLength 9 = .ok (.if_icmp .ge 25, 3) := by decide +kernel
theorem dX2_cycleLength_12 : decode cX2_cycleLength 12 = .ok (.iload_n 2, 1) := by decide +kernel
theorem dX2_cycleLength_13 : decode cX2_cycleLength 13 = .ok (.iconst 4, 1) := by decide +kernel
theorem dX2_cycleLength_14 : decode cX2_cycleLength 14 = .ok (.if_icmp .ge 20, 3) := by decide +kernel
theorem dX2_cycleLength_17 : decode cX2_cycleLength 17 = .ok (.iload_n 1, 1) := by decide +kernel
theorem dX2_cycleLength_18 : decode cX2_cycleLength 18 = .ok (.aload_n 0, 1) := by decide +kernel
theorem dX2_cycleLength_19 : decode cX2_cycleLength 19 = .ok (.getfield 46, 3) := by decide +kernel
theorem dX2_cycleLength_22 : decode cX2_cycleLength 22 = .ok (.iload_n 2, 1) := by decide +kernel
theorem dX2_cycleLength_23 : decode cX2_cycleLength 23 = .ok (.iaload, 1) := by decide +kernel
theorem dX2_cycleLength_24 : decode cX2_cycleLength 24 = .ok (.invokestatic 127, 3) := by decide +kernel
theorem dX2_cycleLength_27 : decode cX2_cycleLength 27 = .ok (.istore_n 1, 1) := by decide +kernel
theorem dX2_cycleLength_28 : decode cX2_cycleLength 28 = .ok (.iinc 2 1, 3) := by decide +kernel
theorem dX2_cycleLength_31 : decode cX2_cycleLength 31 = .ok (.goto (-27), 3) := by decide +kernel
theorem dX2_cycleLength_34 : decode cX2_cycleLength 34 = .ok (.iload_n 1, 1) := by decide +kernel
theorem dX2_cycleLength_35 : decode cX2_cycleLength 35 = .ok (.ireturn, 1) := by decide +kernel
set_option maxRecDepth 20000 in
theorem ggX2_roomAt_X2_hasGuard : GoodIn wsX2_roomAt wsX2_hasGuard := goodIn_r _ [8, 9, 10, 11, 12, 13, 14, 15, 16, 17, 18, 19, 20, 21, 22, 23, 24, 25, 26, 27, 28] (by decide +kernel) (by decide +kernel)
set_option maxRecDepth 20000 in
theorem gX2_roomAt_X2_hasGuard : GoodIn wsX2_roomAt (wsV RX2 113 RX2 yX2_hasGuard wsX2_hasGuard) := goodIn_app (goodIn_of _ (by decide +kernel)) ggX2_roomAt_X2_hasGuard
theorem dX2_roomAt_0 : decode cX2_roomAt 0 = .ok (.aload_n 0, 1) := by decide +kernel
theorem dX2_roomAt_1 : decode cX2_roomAt 1 = .ok (.iload_n 1, 1) := by decide +kernel
theorem dX2_roomAt_2 : decode cX2_roomAt 2 = .ok (.invokevirtual 113, 3) := by decide +kernel
theorem dX2_roomAt_5 : decode cX2_roomAt 5 = .ok (.ifCond .eq 17, 3) := by decide +kernel
theorem dX2_roomAt_8 : decode cX2_roomAt 8 = .ok (.iload_n 2, 1) := by decide +kernel
theorem dX2_roomAt_9 : decode cX2_roomAt 9 = .ok (.ifCond .lt 13, 3) := by decide +kernel
theorem dX2_roomAt_12 : decode cX2_roomAt 12 = .ok (.aload_n 0, 1) := by decide +kernel
theorem dX2_roomAt_13 : decode cX2_roomAt 13 = .ok (.getfield 46, 3) := by decide +kernel
theorem dX2_roomAt_16 : decode cX2_roomAt 16 = .ok (.iload_n 1, 1) := by decide +kernel
theorem dX2_roomAt_17 : decode cX2_roomAt 17 = .ok (.iaload, 1) := by decide +kernel
theorem dX2_roomAt_18 : decode cX2_roomAt 18 = .ok (.iconst 1, 1) := by decide +kernel
theorem dX2_roomAt_19 : decode cX2_roomAt 19 = .ok (.if_icmp .ge 5, 3) := by decide +kernel
theorem dX2_roomAt_22 : decode cX2_roomAt 22 = .ok (.iconst (-1), 1) := by decide +kernel
theorem dX2_roomAt_23 : decode cX2_roomAt 23 = .ok (.ireturn, 1) := by decide +kernel
theorem dX2_roomAt_24 : decode cX2_roomAt 24 = .ok (.iload_n 2, 1) := by decide +kernel
theorem dX2_roomAt_25 : decode cX2_roomAt 25 = .ok (.aload_n 0, 1) := by decide +kernel
theorem dX2_roomAt_26 : decode cX2_roomAt 26 = .ok (.getfield 46, 3) := by decide +kernel
theorem dX2_roomAt_29 : decode cX2_roomAt 29 = .ok (.iload_n 1, 1) := by decide +kernel
theorem dX2_roomAt_30 : decode cX2_roomAt 30 = .ok (.iaload, 1) := by decide +kernel
theorem dX2_roomAt_31 : decode cX2_roomAt 31 = .ok (.irem, 1) := by decide +kernel
theorem dX2_roomAt_32 : decode cX2_roomAt 32 = .ok (.aload_n 0, 1) := by decide +kernel
theorem dX2_roomAt_33 : decode cX2_roomAt 33 = .ok (.getfield 49, 3) := by decide +kernel
theorem dX2_roomAt_36 : decode cX2_roomAt 36 = .ok (.iload_n 1, 1) := by decide +kernel
theorem dX2_roomAt_37 : decode cX2_roomAt 37 = .ok (.iaload, 1) := by decide +kernel
theorem dX2_roomAt_38 : decode cX2_roomAt 38 = .ok (.iadd, 1) := by decide +kernel
theorem dX2_roomAt_39 : decode cX2_roomAt 39 = .ok (.istore_n 3, 1) := by decide +kernel
theorem dX2_roomAt_40 : decode cX2_roomAt 40 = .ok (.iload_n 3, 1) := by decide +kernel
theorem dX2_roomAt_41 : decode cX2_roomAt 41 = .ok (.aload_n 0, 1) := by decide +kernel
theorem dX2_roomAt_42 : decode cX2_roomAt 42 = .ok (.getfield 46, 3) := by decide +kernel
theorem dX2_roomAt_45 : decode cX2_roomAt 45 = .ok (.iload_n 1, 1) := by decide +kernel
theorem dX2_roomAt_46 : decode cX2_roomAt 46 = .ok (.iaload, 1) := by decide +kernel
theorem dX2_roomAt_47 : decode cX2_roomAt 47 = .ok (.if_icmp .lt 12, 3) := by decide +kernel
theorem dX2_roomAt_50 : decode cX2_roomAt 50 = .ok (.iload_n 3, 1) := by decide +kernel
theorem dX2_roomAt_51 : decode cX2_roomAt 51 = .ok (.aload_n 0, 1) := by decide +kernel
theorem dX2_roomAt_52 : decode cX2_roomAt 52 = .ok (.getfield 46, 3) := by decide +kernel
theorem dX2_roomAt_55 : decode cX2_roomAt 55 = .ok (.iload_n 1, 1) := by decide +kernel
theorem dX2_roomAt_56 : decode cX2_roomAt 56 = .ok (.iaload, 1) := by decide +kernel
theorem dX2_roomAt_57 : decode cX2_roomAt 57 = .ok (.isub, 1) := by decide +kernel
theorem dX2_roomAt_58 : decode cX2_roomAt 58 = .ok (.istore_n 3, 1) := by decide +kernel
theorem dX2_roomAt_59 : decode cX2_roomAt 59 = .ok (.iload_n 3, 1) := by decide +kernel
theorem dX2_roomAt_60 : decode cX2_roomAt 60 = .ok (.ifCond .lt 9, 3) := by decide +kernel
theorem dX2_roomAt_63 : decode cX2_roomAt 63 = .ok (.iload_n 3, 1) := by decide +kernel
theorem dX2_roomAt_64 : decode cX2_roomAt 64 = .ok (.bipush 10, 2) := by decide +kernel
theorem dX2_roomAt_66 : decode cX2_roomAt 66 = .ok (.if_icmp .lt 7, 3) := by decide +kernel
theorem dX2_roomAt_69 : decode cX2_roomAt 69 = .ok (.iconst (-1), 1) := by decide +kernel
theorem dX2_roomAt_70 : decode cX2_roomAt 70 = .ok (.goto 14, 3) := by decide +kernel
theorem dX2_roomAt_73 : decode cX2_roomAt 73 = .ok (.aload_n 0, 1) := by decide +kernel
theorem dX2_roomAt_74 : decode cX2_roomAt 74 = .ok (.getfield 52, 3) := by decide +kernel
theorem dX2_roomAt_77 : decode cX2_roomAt 77 = .ok (.iload_n 1, 1) := by decide +kernel
theorem dX2_roomAt_78 : decode cX2_roomAt 78 = .ok (.bipush 10, 2) := by decide +kernel
theorem dX2_roomAt_80 : decode cX2_roomAt 80 = .ok (.imul, 1) := by decide +kernel
theorem dX2_roomAt_81 : decode cX2_roomAt 81 = .ok (.iload_n 3, 1) := by decide +kernel
theorem dX2_roomAt_82 : decode cX2_roomAt 82 = .ok (.iadd, 1) := by decide +kernel
theorem dX2_roomAt_83 : decode cX2_roomAt 83 = .ok (.iaload, 1) := by decide +kernel
theorem dX2_roomAt_84 : decode cX2_roomAt 84 = .ok (.ireturn, 1) := by decide +kernel
set_option maxRecDepth 20000 in
theorem ggX2_guardsAt_X2_roomAt : GoodIn wsX2_guardsAt wsX2_roomAt := goodIn_r _ [6, 7, 8, 9, 10, 11, 12, 5, 13, 1, 14, 15, 16, 17, 18, 19, 20, 21, 22, 23, 24, 25, 26, 27, 28, 29, 30, 31, 32] (by decide +kernel) (by decide +kernel)
set_option maxRecDepth 20000 in
theorem gX2_guardsAt_X2_roomAt : GoodIn wsX2_guardsAt (wsV RX2 130 RX2 yX2_roomAt wsX2_roomAt) := goodIn_app (goodIn_of _ (by decide +kernel)) ggX2_guardsAt_X2_roomAt
theorem dX2_guardsAt_0 : decode cX2_guardsAt 0 = .ok (.iconst 0, 1) := by decide +kernel
theorem dX2_guardsAt_1 : decode cX2_guardsAt 1 = .ok (.istore_n 3, 1) := by decide +kernel
theorem dX2_guardsAt_2 : decode cX2_guardsAt 2 = .ok (.iconst 0, 1) := by decide +kernel
theorem dX2_guardsAt_3 : decode cX2_guardsAt 3 = .ok (.istore 4, 2) := by decide +kernel
theorem dX2_guardsAt_5 : decode cX2_guardsAt 5 = .ok (.iload 4, 2) := by decide +kernel
theorem dX2_guardsAt_7 : decode cX2_guardsAt 7 = .ok (.aload_n 0, 1) := by decide +kernel
theorem dX2_guardsAt_8 : decode cX2_guardsAt 8 = .ok (.getfield 18, 3) := by decide +kernel
theorem dX2_guardsAt_11 : decode cX2_guardsAt 11 = .ok (.if_icmp .ge 27, 3) := by decide +kernel
theorem dX2_guardsAt_14 : decode cX2_guardsAt 14 = .ok (.aload_n 0, 1) := by decide +kernel
theorem dX2_guardsAt_15 : decode cX2_guardsAt 15 = .ok (.iload 4, 2) := by decide +kernel
theorem dX2_guardsAt_17 : decode cX2_guardsAt 17 = .ok (.iload_n 2, 1) := by decide +kernel
theorem dX2_guardsAt_18 : decode cX2_guardsAt 18 = .ok (.invokevirtual 130, 3) := by decide +kernel
theorem dX2_guardsAt_21 : decode cX2_guardsAt 21 = .ok (.iload_n 1, 1) := by decide +kernel
theorem dX2_guardsAt_22 : decode cX2_guardsAt 22 = .ok (.if_icmp .ne 10, 3) := by decide +kernel
theorem dX2_guardsAt_25 : decode cX2_guardsAt 25 = .ok (.iload_n 3, 1) := by decide +kernel
theorem dX2_guardsAt_26 : decode cX2_guardsAt 26 = .ok (.iconst 1, 1) := by decide +kernel
theorem dX2_guardsAt_27 : decode cX2_guardsAt 27 = .ok (.iload 4, 2) := by decide +kernel
theorem dX2_guardsAt_29 : decode cX2_guardsAt 29 = .ok (.ishl, 1) := by decide +kernel
theorem dX2_guardsAt_30 : decode cX2_guardsAt 30 = .ok (.ior, 1) := by decide +kernel
theorem dX2_guardsAt_31 : decode cX2_guardsAt 31 = .ok (.istore_n 3, 1) := by decide +kernel
theorem dX2_guardsAt_32 : decode cX2_guardsAt 32 = .ok (.iinc 4 1, 3) := by decide +kernel
theorem dX2_guardsAt_35 : decode cX2_guardsAt 35 = .ok (.goto (-30), 3) := by decide +kernel
theorem dX2_guardsAt_38 : decode cX2_guardsAt 38 = .ok (.iload_n 3, 1) := by decide +kernel
theorem dX2_guardsAt_39 : decode cX2_guardsAt 39 = .ok (.ireturn, 1) := by decide +kernel
set_option maxRecDepth 20000 in
theorem ggX2_roomsSeenAt_X2_roomAt : GoodIn wsX2_roomsSeenAt wsX2_roomAt := goodIn_r _ [6, 7, 8, 9, 10, 11, 12, 5, 13, 1, 14, 15, 16, 17, 18, 19, 20, 21, 22, 23, 24, 25, 26, 27, 28, 29, 30, 31, 32] (by decide +kernel) (by decide +kernel)
set_option maxRecDepth 20000 in
theorem gX2_roomsSeenAt_X2_roomAt : GoodIn wsX2_roomsSeenAt (wsV RX2 130 RX2 yX2_roomAt wsX2_roomAt) := goodIn_app (goodIn_of _ (by decide +kernel)) ggX2_roomsSeenAt_X2_roomAt
theorem dX2_roomsSeenAt_0 : decode cX2_roomsSeenAt 0 = .ok (.iconst 0, 1) := by decide +kernel
theorem dX2_roomsSeenAt_1 : decode cX2_roomsSeenAt 1 = .ok (.istore_n 2, 1) := by decide +kernel
theorem dX2_roomsSeenAt_2 : decode cX2_roomsSeenAt 2 = .ok (.iconst 0, 1) := by decide +kernel
theorem dX2_roomsSeenAt_3 : decode cX2_roomsSeenAt 3 = .ok (.istore_n 3, 1) := by decide +kernel
theorem dX2_roomsSeenAt_4 : decode cX2_roomsSeenAt 4 = .ok (.iload_n 3, 1) := by decide +kernel
theorem dX2_roomsSeenAt_5 : decode cX2_roomsSeenAt 5 = .ok (.aload_n 0, 1) := by decide +kernel
theorem dX2_roomsSeenAt_6 : decode cX2_roomsSeenAt 6 = .ok (.getfield 18, 3) := by decide +kernel
theorem dX2_roomsSeenAt_9 : decode cX2_roomsSeenAt 9 = .ok (.if_icmp .ge 30, 3) := by decide +kernel
theorem dX2_roomsSeenAt_12 : decode cX2_roomsSeenAt 12 = .ok (.aload_n 0, 1) := by decide +kernel
theorem dX2_roomsSeenAt_13 : decode cX2_roomsSeenAt 13 = .ok (.iload_n 3, 1) := by decide +kernel
theorem dX2_roomsSeenAt_14 : decode cX2_roomsSeenAt 14 = .ok (.iload_n 1, 1) := by decide +kernel
theorem dX2_roomsSeenAt_15 : decode cX2_roomsSeenAt 15 = .ok (.invokevirtual 130, 3) := by decide +kernel
theorem dX2_roomsSeenAt_18 : decode cX2_roomsSeenAt 18 = .ok (.istore 4, 2) := by decide +kernel
theorem dX2_roomsSeenAt_20 : decode cX2_roomsSeenAt 20 = .ok (.iload 4, 2) := by decide +kernel
theorem dX2_roomsSeenAt_22 : decode cX2_roomsSeenAt 22 = .ok (.iconst (-1), 1) := by decide +kernel
theorem dX2_roomsSeenAt_23 : decode cX2_roomsSeenAt 23 = .ok (.if_icmp .eq 10, 3) := by decide +kernel
theorem dX2_roomsSeenAt_26 : decode cX2_roomsSeenAt 26 = .ok (.iload_n 2, 1) := by decide +kernel
theorem dX2_roomsSeenAt_27 : decode cX2_roomsSeenAt 27 = .ok (.iconst 1, 1) := by decide +kernel
theorem dX2_roomsSeenAt_28 : decode cX2_roomsSeenAt 28 = .ok (.iload 4, 2) := by decide +kernel
theorem dX2_roomsSeenAt_30 : decode cX2_roomsSeenAt 30 = .ok (.ishl, 1) := by decide +kernel
theorem dX2_roomsSeenAt_31 : decode cX2_roomsSeenAt 31 = .ok (.ior, 1) := by decide +kernel
theorem dX2_roomsSeenAt_32 : decode cX2_roomsSeenAt 32 = .ok (.istore_n 2, 1) := by decide +kernel
theorem dX2_roomsSeenAt_33 : decode cX2_roomsSeenAt 33 = .ok (.iinc 3 1, 3) := by decide +kernel
theorem dX2_roomsSeenAt_36 : decode cX2_roomsSeenAt 36 = .ok (.goto (-32), 3) := by decide +kernel
theorem dX2_roomsSeenAt_39 : decode cX2_roomsSeenAt 39 = .ok (.iload_n 2, 1) := by decide +kernel
theorem dX2_roomsSeenAt_40 : decode cX2_roomsSeenAt 40 = .ok (.ireturn, 1) := by decide +kernel
set_option maxRecDepth 20000 in
theorem ggX2_countPair_X2_cycleLength : GoodIn wsX2_countPair wsX2_cycleLength := goodIn_r _ [5, 6, 7, 8, 9, 10, 21, 22, 23, 24, 25, 26, 27, 28, 29, 30, 31, 32, 33, 34, 35, 36, 37, 38, 39] (by decide +kernel) (by decide +kernel)
set_option maxRecDepth 20000 in
theorem gX2_countPair_X2_cycleLength : GoodIn wsX2_countPair (wsV RX2 133 RX2 yX2_cycleLength wsX2_cycleLength) := goodIn_app (goodIn_of _ (by decide +kernel)) ggX2_countPair_X2_cycleLength
set_option maxRecDepth 20000 in
theorem ggX2_countPair_X2_roomAt : GoodIn wsX2_countPair wsX2_roomAt := goodIn_r _ [14, 7, 15, 16, 17, 18, 19, 4, 20, 6, 21, 22, 23, 24, 25, 26, 27, 28, 29, 30, 31, 32, 33, 34, 35, 36, 37, 38, 39] (by decide +kernel) (by decide +kernel)
set_option maxRecDepth 20000 in
theorem gX2_countPair_X2_roomAt : GoodIn wsX2_countPair (wsV RX2 130 RX2 yX2_roomAt wsX2_roomAt) := goodIn_app (goodIn_of _ (by decide +kernel)) ggX2_countPair_X2_roomAt
theorem dX2_countPair_0 : decode cX2_countPair 0 = .ok (.iload_n 1, 1) := by decide +kernel
theorem dX2_countPair_1 : decode cX2_countPair 1 = .ok (.iload_n 2, 1) := by decide +kernel
theorem dX2_countPair_2 : decode cX2_countPair 2 = .ok (.if_icmp .ne 5, 3) := by decide +kernel
theorem dX2_countPair_5 : decode cX2_countPair 5 = .ok (.iconst 0, 1) := by decide +kernel
theorem dX2_countPair_6 : decode cX2_countPair 6 = .ok (.ireturn, 1) := by decide +kernel
theorem dX2_countPair_7 : decode cX2_countPair 7 = .ok (.aload_n 0, 1) := by decide +kernel
theorem dX2_countPair_8 : decode cX2_countPair 8 = .ok (.invokevirtual 133, 3) := by decide +kernel
theorem dX2_countPair_11 : decode cX2_countPair 11 = .ok (.istore 5, 2) := by decide +kernel
theorem dX2_countPair_13 : decode cX2_countPair 13 = .ok (.iconst 0, 1) := by decide +kernel
theorem dX2_countPair_14 : decode cX2_countPair 14 = .ok (.istore 6, 2) := by decide +kernel
theorem dX2_countPair_16 : decode cX2_countPair 16 = .ok (.aload_n 0, 1) := by decide +kernel
theorem dX2_countPair_17 : decode cX2_countPair 17 = .ok (.iload_n 1, 1) := by decide +kernel
theorem dX2_countPair_18 : decode cX2_countPair 18 = .ok (.iconst 0, 1) := by decide +kernel
theorem dX2_countPair_19 : decode cX2_countPair 19 = .ok (.invokevirtual 130, 3) := by decide +kernel
theorem dX2_countPair_22 : decode cX2_countPair 22 = .ok (.istore 7, 2) := by decide +kernel

set_option maxRecDepth 20000 in
theorem wsL_law0_r15_in : ∀ w ∈ wsL_law0_r15, w ∈ lw_tbl := wx_mem _ [639, 8, 640, 642, 643, 644, 645, 647, 649, 9, 650, 116, 651, 652, 654, 10, 655, 300, 656, 657, 658, 659, 660, 662] (by decide +kernel)
set_option maxRecDepth 20000 in
theorem wsL_law0_r16_in : ∀ w ∈ wsL_law0_r16, w ∈ lw_tbl := wx_mem _ [661, 66, 663, 665, 11, 666, 103, 667, 669, 12, 670, 106, 671, 672, 673, 674, 675, 676, 677, 678, 748, 68, 91, 96] (by decide +kernel)
set_option maxRecDepth 20000 in
theorem wsL_law0_r17_in : ∀ w ∈ wsL_law0_r17, w ∈ lw_tbl := wx_mem _ [99, 221, 679, 680, 681, 682, 684, 685, 686, 688, 13, 689, 223, 690, 691, 692, 693, 123, 695, 85, 710, 711, 712, 105] (by decide +kernel)
set_option maxRecDepth 20000 in
theorem wsL_law0_r18_in : ∀ w ∈ wsL_law0_r18, w ∈ lw_tbl := wx_mem _ [694, 696, 697, 699, 14, 700, 93, 119, 701, 702, 704, 15, 705, 706, 708, 16, 709, 713, 714, 715, 716, 717, 718, 719] (by decide +kernel)
set_option maxRecDepth 20000 in
theorem wsL_law0_r19_in : ∀ w ∈ wsL_law0_r19, w ∈ lw_tbl := wx_mem _ [720, 114, 721, 722, 723, 724, 725, 726, 727, 728, 729, 730, 731, 732, 733, 734, 735, 736, 737, 738, 739, 67, 740, 741] (by decide +kernel)
set_option maxRecDepth 20000 in
theorem wsL_law0_r20_in : ∀ w ∈ wsL_law0_r20, w ∈ lw_tbl := wx_mem _ [742, 743, 744, 745, 746, 747, 776, 777, 778, 779, 780, 782, 18, 783, 784, 786, 787, 788, 790, 764, 765, 766, 767, 115] (by decide +kernel)
set_option maxRecDepth 20000 in
theorem wsL_law0_r21_in : ∀ w ∈ wsL_law0_r21, w ∈ lw_tbl := wx_mem _ [213, 211, 131, 133, 135, 137, 768, 770, 17, 771, 772, 774, 804, 805, 806, 807, 808, 809, 810, 811, 812, 845, 846, 847] (by decide +kernel)

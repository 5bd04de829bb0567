set_option maxRecDepth 20000 in
theorem wsL_law0_r36_in : ∀ w ∈ wsL_law0_r36, w ∈ lw_tbl := wx_mem _ [254, 1208, 1209, 1210, 1211, 256, 1212, 1213, 1214, 1215, 1216, 1217, 1218, 1219, 889, 890, 891, 892, 893, 894, 895, 896, 1220, 1221] (by decide +kernel)
set_option maxRecDepth 20000 in
theorem wsL_law0_r37_in : ∀ w ∈ wsL_law0_r37, w ∈ lw_tbl := wx_mem _ [1222, 905, 906, 907, 908, 909, 910, 911, 912] (by decide +kernel)

set_option maxRecDepth 20000 in
theorem wsL_law0_r1_in : ∀ w ∈ wsL_law0_r1, w ∈ lw_tbl := wx_mem _ [70, 71, 47, 177, 1224, 72, 73, 74, 75, 76, 77, 78, 79, 48, 360, 361, 178, 179, 49, 362, 204, 205, 50, 363] (by decide +kernel)
set_option maxRecDepth 20000 in
theorem wsL_law0_r2_in : ∀ w ∈ wsL_law0_r2, w ∈ lw_tbl := wx_mem _ [364, 241, 242, 51, 365, 277, 278, 52, 366, 290, 291, 53, 367, 321, 322, 54, 368, 331, 332, 55, 369, 370, 371, 372] (by decide +kernel)
set_option maxRecDepth 20000 in
theorem wsL_law0_r3_in : ∀ w ∈ wsL_law0_r3, w ∈ lw_tbl := wx_mem _ [373, 81, 82, 83, 84, 89, 92, 98, 100, 101, 104, 107, 109, 111, 113, 117, 122, 127, 128, 130, 132, 134, 136, 180] (by decide +kernel)
set_option maxRecDepth 20000 in
theorem wsL_law0_r4_in : ∀ w ∈ wsL_law0_r4, w ∈ lw_tbl := wx_mem _ [181, 182, 183, 184, 187, 188, 189, 190, 191, 207, 208, 209, 210, 212, 214, 216, 217, 218, 219, 222, 244, 245, 246, 251] (by decide +kernel)
set_option maxRecDepth 20000 in
theorem wsL_law0_r5_in : ∀ w ∈ wsL_law0_r5, w ∈ lw_tbl := wx_mem _ [253, 255, 257, 259, 247, 260, 249, 261, 280, 281, 282, 283, 284, 293, 294, 295, 296, 297, 299, 301, 303, 304, 305, 323] (by decide +kernel)
set_option maxRecDepth 20000 in
theorem wsL_law0_r6_in : ∀ w ∈ wsL_law0_r6, w ∈ lw_tbl := wx_mem _ [324, 325, 326, 327, 333, 334, 335, 336, 338, 339, 340, 341, 337, 353, 354, 355, 356, 357, 358, 56, 359, 986, 987, 46] (by decide +kernel)
set_option maxRecDepth 20000 in
theorem wsL_law0_r7_in : ∀ w ∈ wsL_law0_r7, w ∈ lw_tbl := wx_mem _ [988, 989, 501, 502, 57, 503, 1240, 504, 505, 506, 507, 508, 1241, 990, 511, 512, 513, 514, 515, 516, 517, 518, 519, 58] (by decide +kernel)

set_option maxRecDepth 20000 in
theorem wsL_law0_r8_in : ∀ w ∈ wsL_law0_r8, w ∈ lw_tbl := wx_mem _ [520, 521, 522, 523, 524, 526, 527, 59, 528, 529, 530, 60, 531, 532, 533, 534, 535, 536, 537, 538, 539, 540, 541, 542] (by decide +kernel)
set_option maxRecDepth 20000 in
theorem wsL_law0_r9_in : ∀ w ∈ wsL_law0_r9, w ∈ lw_tbl := wx_mem _ [544, 546, 919, 920, 921, 922, 923, 924, 925, 298, 926, 927, 928, 929, 916, 917, 918, 403, 404, 405, 406, 86, 407, 408] (by decide +kernel)
set_option maxRecDepth 20000 in
theorem wsL_law0_r10_in : ∀ w ∈ wsL_law0_r10, w ∈ lw_tbl := wx_mem _ [409, 410, 64, 477, 478, 479, 480, 481, 482, 65, 483, 484, 485, 486, 487, 488, 489, 490, 491, 492, 493, 494, 302, 496] (by decide +kernel)
set_option maxRecDepth 20000 in
theorem wsL_law0_r11_in : ∀ w ∈ wsL_law0_r11, w ∈ lw_tbl := wx_mem _ [497, 498, 499, 500, 510, 548, 549, 550, 551, 552, 553, 554, 556, 1, 557, 558, 559, 560, 561, 562, 563, 564, 565, 566] (by decide +kernel)
set_option maxRecDepth 20000 in
theorem wsL_law0_r12_in : ∀ w ∈ wsL_law0_r12, w ∈ lw_tbl := wx_mem _ [568, 2, 569, 90, 95, 571, 573, 3, 574, 88, 576, 577, 578, 579, 580, 581, 582, 583, 584, 585, 586, 587, 589, 590] (by decide +kernel)
set_option maxRecDepth 20000 in
theorem wsL_law0_r13_in : ∀ w ∈ wsL_law0_r13, w ∈ lw_tbl := wx_mem _ [591, 593, 4, 594, 595, 596, 597, 598, 600, 602, 5, 603, 604, 606, 6, 607, 121, 126, 608, 609, 610, 611, 612, 613] (by decide +kernel)
set_option maxRecDepth 20000 in
theorem wsL_law0_r14_in : ∀ w ∈ wsL_law0_r14, w ∈ lw_tbl := wx_mem _ [614, 615, 616, 617, 618, 619, 620, 621, 623, 7, 624, 625, 626, 627, 628, 629, 630, 631, 632, 633, 634, 635, 636, 637] (by decide +kernel)

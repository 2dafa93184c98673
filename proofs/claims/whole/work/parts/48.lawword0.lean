set_option maxRecDepth 20000
theorem llr_1 : ∀ w ∈ wsL_law0_r1, w ∈ lw_tbl := fun w h => (goodIn_p wsL_law0_r1 [111, 114] (by decide +kernel) (by decide +kernel) w h).1
theorem llr_2 : ∀ w ∈ wsL_law0_r2, w ∈ lw_tbl := fun w h => (goodIn_p wsL_law0_r2 [119, 123] (by decide +kernel) (by decide +kernel) w h).1
theorem llr_3 : ∀ w ∈ wsL_law0_r3, w ∈ lw_tbl := fun w h => (goodIn_p wsL_law0_r3 [137, 160, 176] (by decide +kernel) (by decide +kernel) w h).1
theorem llr_4 : ∀ w ∈ wsL_law0_r4, w ∈ lw_tbl := fun w h => (goodIn_p wsL_law0_r4 [182, 204] (by decide +kernel) (by decide +kernel) w h).1
theorem llr_5 : ∀ w ∈ wsL_law0_r5, w ∈ lw_tbl := fun w h => (goodIn_p wsL_law0_r5 [240, 254, 258] (by decide +kernel) (by decide +kernel) w h).1
theorem llr_6 : ∀ w ∈ wsL_law0_r6, w ∈ lw_tbl := fun w h => (goodIn_p wsL_law0_r6 [262, 265, 268, 274, 1154] (by decide +kernel) (by decide +kernel) w h).1
theorem llr_7 : ∀ w ∈ wsL_law0_r7, w ∈ lw_tbl := fun w h => (goodIn_p wsL_law0_r7 [1159, 1162, 1166, 504] (by decide +kernel) (by decide +kernel) w h).1
theorem llr_8 : ∀ w ∈ wsL_law0_r8, w ∈ lw_tbl := fun w h => (goodIn_p wsL_law0_r8 [572, 481, 1239, 1231] (by decide +kernel) (by decide +kernel) w h).1
theorem llr_9 : ∀ w ∈ wsL_law0_r9, w ∈ lw_tbl := fun w h => (goodIn_p wsL_law0_r9 [580, 583, 602, 607, 611] (by decide +kernel) (by decide +kernel) w h).1
theorem llr_10 : ∀ w ∈ wsL_law0_r10, w ∈ lw_tbl := fun w h => (goodIn_p wsL_law0_r10 [615, 619, 624, 628, 632] (by decide +kernel) (by decide +kernel) w h).1
theorem llr_11 : ∀ w ∈ wsL_law0_r11, w ∈ lw_tbl := fun w h => (goodIn_p wsL_law0_r11 [638, 642, 645, 648, 653, 656] (by decide +kernel) (by decide +kernel) w h).1
theorem llr_12 : ∀ w ∈ wsL_law0_r12, w ∈ lw_tbl := fun w h => (goodIn_p wsL_law0_r12 [659, 662, 666, 676, 680, 684] (by decide +kernel) (by decide +kernel) w h).1
theorem llr_13 : ∀ w ∈ wsL_law0_r13, w ∈ lw_tbl := fun w h => (goodIn_p wsL_law0_r13 [367, 687, 693, 697, 420] (by decide +kernel) (by decide +kernel) w h).1
theorem llr_14 : ∀ w ∈ wsL_law0_r14, w ∈ lw_tbl := fun w h => (goodIn_p wsL_law0_r14 [403, 412, 426, 430, 434, 438] (by decide +kernel) (by decide +kernel) w h).1
theorem llr_15 : ∀ w ∈ wsL_law0_r15, w ∈ lw_tbl := fun w h => (goodIn_p wsL_law0_r15 [442, 447, 702, 706, 713, 718] (by decide +kernel) (by decide +kernel) w h).1
theorem llr_16 : ∀ w ∈ wsL_law0_r16, w ∈ lw_tbl := fun w h => (goodIn_p wsL_law0_r16 [349, 353, 357, 361, 364] (by decide +kernel) (by decide +kernel) w h).1
theorem llr_17 : ∀ w ∈ wsL_law0_r17, w ∈ lw_tbl := fun w h => (goodIn_p wsL_law0_r17 [374, 379, 384, 1243, 1246] (by decide +kernel) (by decide +kernel) w h).1

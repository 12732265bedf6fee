theorem inLr1 : ∀ w ∈ wsL_law_r1, w ∈ lw_tbl := fun w h => (goodIn_p wsL_law_r1 [81, 84] (by decide +kernel) (by decide +kernel) w h).1
theorem inLr2 : ∀ w ∈ wsL_law_r2, w ∈ lw_tbl := fun w h => (goodIn_p wsL_law_r2 [89, 107] (by decide +kernel) (by decide +kernel) w h).1
theorem inLr3 : ∀ w ∈ wsL_law_r3, w ∈ lw_tbl := fun w h => (goodIn_p wsL_law_r3 [170, 176] (by decide +kernel) (by decide +kernel) w h).1
theorem inLr4 : ∀ w ∈ wsL_law_r4, w ∈ lw_tbl := fun w h => (goodIn_p wsL_law_r4 [217, 223, 251, 268] (by decide +kernel) (by decide +kernel) w h).1
theorem inLr5 : ∀ w ∈ wsL_law_r5, w ∈ lw_tbl := fun w h => (goodIn_p wsL_law_r5 [762] (by decide +kernel) (by decide +kernel) w h).1
theorem inLr6 : ∀ w ∈ wsL_law_r6, w ∈ lw_tbl := fun w h => (goodIn_p wsL_law_r6 [318, 321, 325, 848, 851] (by decide +kernel) (by decide +kernel) w h).1
theorem inLr7 : ∀ w ∈ wsL_law_r7, w ∈ lw_tbl := fun w h => (goodIn_p wsL_law_r7 [329, 855, 333, 337, 343] (by decide +kernel) (by decide +kernel) w h).1
theorem inLr8 : ∀ w ∈ wsL_law_r8, w ∈ lw_tbl := fun w h => (goodIn_p wsL_law_r8 [347, 351, 355, 359] (by decide +kernel) (by decide +kernel) w h).1
theorem inLr9 : ∀ w ∈ wsL_law_r9, w ∈ lw_tbl := fun w h => (goodIn_p wsL_law_r9 [362, 366, 370, 374, 377, 381] (by decide +kernel) (by decide +kernel) w h).1
theorem inLr10 : ∀ w ∈ wsL_law_r10, w ∈ lw_tbl := fun w h => (goodIn_p wsL_law_r10 [385, 389, 393, 399] (by decide +kernel) (by decide +kernel) w h).1
theorem inLr11 : ∀ w ∈ wsL_law_r11, w ∈ lw_tbl := fun w h => (goodIn_p wsL_law_r11 [406, 410, 414, 859] (by decide +kernel) (by decide +kernel) w h).1
theorem inLr12 : ∀ w ∈ wsL_law_r12, w ∈ lw_tbl := fun w h => (goodIn_p wsL_law_r12 [863, 867, 871, 875] (by decide +kernel) (by decide +kernel) w h).1

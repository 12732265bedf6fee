theorem inLr13 : ∀ w ∈ wsL_law_r13, w ∈ lw_tbl := fun w h => (goodIn_p wsL_law_r13 [879, 883, 887, 418, 422] (by decide +kernel) (by decide +kernel) w h).1
theorem inLr14 : ∀ w ∈ wsL_law_r14, w ∈ lw_tbl := fun w h => (goodIn_p wsL_law_r14 [426, 429, 432, 436, 440] (by decide +kernel) (by decide +kernel) w h).1
theorem inLr15 : ∀ w ∈ wsL_law_r15, w ∈ lw_tbl := fun w h => (goodIn_p wsL_law_r15 [443, 891, 895, 899, 903, 447] (by decide +kernel) (by decide +kernel) w h).1
theorem inLr16 : ∀ w ∈ wsL_law_r16, w ∈ lw_tbl := fun w h => (goodIn_p wsL_law_r16 [451, 455, 459, 465, 468, 907] (by decide +kernel) (by decide +kernel) w h).1
theorem inLr17 : ∀ w ∈ wsL_law_r17, w ∈ lw_tbl := fun w h => (goodIn_p wsL_law_r17 [911, 915, 919, 472, 476, 480] (by decide +kernel) (by decide +kernel) w h).1
theorem inLr18 : ∀ w ∈ wsL_law_r18, w ∈ lw_tbl := fun w h => (goodIn_p wsL_law_r18 [484, 487, 493, 923, 927] (by decide +kernel) (by decide +kernel) w h).1
theorem inLr19 : ∀ w ∈ wsL_law_r19, w ∈ lw_tbl := fun w h => (goodIn_p wsL_law_r19 [930, 498, 934, 502, 938, 506] (by decide +kernel) (by decide +kernel) w h).1
theorem inLr20 : ∀ w ∈ wsL_law_r20, w ∈ lw_tbl := fun w h => (goodIn_p wsL_law_r20 [510, 942, 946, 514, 518, 950] (by decide +kernel) (by decide +kernel) w h).1
theorem inLr21 : ∀ w ∈ wsL_law_r21, w ∈ lw_tbl := fun w h => (goodIn_p wsL_law_r21 [522, 526, 954, 530, 534] (by decide +kernel) (by decide +kernel) w h).1
theorem inLr22 : ∀ w ∈ wsL_law_r22, w ∈ lw_tbl := fun w h => (goodIn_p wsL_law_r22 [538, 542, 551, 555] (by decide +kernel) (by decide +kernel) w h).1
theorem inLr23 : ∀ w ∈ wsL_law_r23, w ∈ lw_tbl := fun w h => (goodIn_p wsL_law_r23 [559, 958, 962, 966, 970] (by decide +kernel) (by decide +kernel) w h).1
theorem inLr24 : ∀ w ∈ wsL_law_r24, w ∈ lw_tbl := fun w h => (goodIn_p wsL_law_r24 [974, 977, 568, 981, 573, 577] (by decide +kernel) (by decide +kernel) w h).1

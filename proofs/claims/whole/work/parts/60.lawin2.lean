theorem inLr25 : ∀ w ∈ wsL_law_r25, w ∈ lw_tbl := fun w h => (goodIn_p wsL_law_r25 [593, 581, 585, 589, 596] (by decide +kernel) (by decide +kernel) w h).1
theorem inLr26 : ∀ w ∈ wsL_law_r26, w ∈ lw_tbl := fun w h => (goodIn_p wsL_law_r26 [599, 985, 989, 603, 607, 612] (by decide +kernel) (by decide +kernel) w h).1
theorem inLr27 : ∀ w ∈ wsL_law_r27, w ∈ lw_tbl := fun w h => (goodIn_p wsL_law_r27 [993, 617, 620, 625, 631] (by decide +kernel) (by decide +kernel) w h).1
theorem inLr28 : ∀ w ∈ wsL_law_r28, w ∈ lw_tbl := fun w h => (goodIn_p wsL_law_r28 [997, 637, 641, 646] (by decide +kernel) (by decide +kernel) w h).1
theorem inLr29 : ∀ w ∈ wsL_law_r29, w ∈ lw_tbl := fun w h => (goodIn_p wsL_law_r29 [650, 654, 660, 1001] (by decide +kernel) (by decide +kernel) w h).1
theorem inLr30 : ∀ w ∈ wsL_law_r30, w ∈ lw_tbl := fun w h => (goodIn_p wsL_law_r30 [1005, 1009, 665, 669, 1013, 673] (by decide +kernel) (by decide +kernel) w h).1
theorem inLr31 : ∀ w ∈ wsL_law_r31, w ∈ lw_tbl := fun w h => (goodIn_p wsL_law_r31 [1017, 677, 681, 685, 688, 693] (by decide +kernel) (by decide +kernel) w h).1
theorem inLr32 : ∀ w ∈ wsL_law_r32, w ∈ lw_tbl := fun w h => (goodIn_p wsL_law_r32 [1021, 1025, 1028, 697, 701, 1032] (by decide +kernel) (by decide +kernel) w h).1
theorem inLr33 : ∀ w ∈ wsL_law_r33, w ∈ lw_tbl := fun w h => (goodIn_p wsL_law_r33 [1036, 707, 712, 716, 721] (by decide +kernel) (by decide +kernel) w h).1
theorem inLr34 : ∀ w ∈ wsL_law_r34, w ∈ lw_tbl := fun w h => (goodIn_p wsL_law_r34 [726, 731, 736, 1040] (by decide +kernel) (by decide +kernel) w h).1
theorem inLr35 : ∀ w ∈ wsL_law_r35, w ∈ lw_tbl := fun w h => (goodIn_p wsL_law_r35 [1044, 741, 745, 1053, 749, 1057] (by decide +kernel) (by decide +kernel) w h).1
theorem inLr36 : ∀ w ∈ wsL_law_r36, w ∈ lw_tbl := fun w h => (goodIn_p wsL_law_r36 [753, 1061, 757, 1049] (by decide +kernel) (by decide +kernel) w h).1

theorem kd_small (q : Nat) : (kd q).2 ≤ 3584 := by
  rcases Nat.lt_or_ge q 227 with h | h
  · exact (by decide +kernel : ∀ q, q < 227 → (kd q).2 ≤ 3584) q h
  · have : kd q = (99, 0) := by
      unfold kd
      rw [List.getD_eq_getElem?_getD, List.getElem?_eq_none (show kdt.length ≤ q from h)]
      rfl
    rw [this]
    decide
theorem ra {S : ST} {q t j : Nat} (ht : (kd q).1 = t) (h3 : t < 3) (hj : j < (kd q).2) : o_aI (hp S) q t (nI j) = some (S.1 q j) := by
  have := kd_small q
  exact rd_a (n := (kd q).2) (by rw [← ht]) h3 hj (by omega)
theorem wa {S : ST} {q t j : Nat} {x : Int32} (ht : (kd q).1 = t) (h3 : t < 3) (hj : j < (kd q).2) : o_sI (hp S) q t (nI j) x = some (hp (stI S q (upd (S.1 q) j x))) := by
  have := kd_small q
  exact wr_a (n := (kd q).2) (by rw [← ht]) h3 hj (by omega)
theorem raR {S : ST} {q t j v : Nat} (ht : (kd q).1 = t) (h3 : t = 3 ∨ t = 4) (hj : j < (kd q).2) (hv : S.2.2.2 q j = some v) : o_aR (hp S) q t (nI j) = some v := by
  have := kd_small q
  exact rd_aR (n := (kd q).2) (by rw [← ht]) h3 hj (by omega) hv
theorem wcp {S : ST} {q0 q1 n : Nat} (h0 : (kd q0).1 = 0) (h1 : (kd q1).1 = 0) (hn0 : n ≤ (kd q0).2) (hn1 : n ≤ (kd q1).2) : o_cp (hp S) q0 0 q1 0 (nI n) = some (hp (stI S q1 (va_cpy (S.1 q0) (S.1 q1) 0 0 n))) := by
  have := kd_small q0
  exact wr_cp (n0 := (kd q0).2) (n1 := (kd q1).2) (by rw [← h0]) (by rw [← h1]) hn0 hn1 (by omega)
theorem ob0 {S : ST} {q : Nat} (h : kd q = (10, 0)) : o_ob (hp S) q 0 = some () := rd_ob (ci := 0) h (by decide)
theorem g0_0 {S : ST} {q : Nat} (h : kd q = (10, 0)) : o_gR (hp S) q 0 0 = some (q + 1) := rd_R (ci := 0) h (by decide) rfl
theorem g0_1 {S : ST} {q : Nat} (h : kd q = (10, 0)) : o_gR (hp S) q 0 1 = some (q + 2) := rd_R (ci := 0) h (by decide) rfl
theorem ob1 {S : ST} {q : Nat} (h : kd q = (11, 0)) : o_ob (hp S) q 1 = some () := rd_ob (ci := 1) h (by decide)
theorem g1_0 {S : ST} {q : Nat} (h : kd q = (11, 0)) : o_gR (hp S) q 1 0 = some (q + 1) := rd_R (ci := 1) h (by decide) rfl
theorem g1_1 {S : ST} {q : Nat} (h : kd q = (11, 0)) : o_gR (hp S) q 1 1 = some (q + 2) := rd_R (ci := 1) h (by decide) rfl
theorem g1_2 {S : ST} {q : Nat} (h : kd q = (11, 0)) : o_gI (hp S) q 1 2 = some (S.2.1 q 2) := rd_I (ci := 1) h (by decide) rfl
theorem p1_2 {S : ST} {q : Nat} {v : Int32} (h : kd q = (11, 0)) : o_p (hp S) q 1 2 (.int v) = some (hp (stJ S q 2 v)) := wr_p (ci := 1) h (by decide) rfl
theorem g1_3 {S : ST} {q : Nat} (h : kd q = (11, 0)) : o_gR (hp S) q 1 3 = some (q + 3) := rd_R (ci := 1) h (by decide) rfl
theorem ob2 {S : ST} {q : Nat} (h : kd q = (12, 0)) : o_ob (hp S) q 2 = some () := rd_ob (ci := 2) h (by decide)
theorem g2_0 {S : ST} {q : Nat} (h : kd q = (12, 0)) : o_gR (hp S) q 2 0 = some (q + 1) := rd_R (ci := 2) h (by decide) rfl
theorem g2_1 {S : ST} {q : Nat} (h : kd q = (12, 0)) : o_gR (hp S) q 2 1 = some (q + 2) := rd_R (ci := 2) h (by decide) rfl
theorem g2_2 {S : ST} {q : Nat} (h : kd q = (12, 0)) : o_gR (hp S) q 2 2 = some (q + 3) := rd_R (ci := 2) h (by decide) rfl
theorem g2_3 {S : ST} {q : Nat} (h : kd q = (12, 0)) : o_gR (hp S) q 2 3 = some (q + 4) := rd_R (ci := 2) h (by decide) rfl
theorem g2_4 {S : ST} {q : Nat} (h : kd q = (12, 0)) : o_gI (hp S) q 2 4 = some (S.2.1 q 4) := rd_I (ci := 2) h (by decide) rfl
theorem p2_4 {S : ST} {q : Nat} {v : Int32} (h : kd q = (12, 0)) : o_p (hp S) q 2 4 (.int v) = some (hp (stJ S q 4 v)) := wr_p (ci := 2) h (by decide) rfl
theorem ob3 {S : ST} {q : Nat} (h : kd q = (13, 0)) : o_ob (hp S) q 3 = some () := rd_ob (ci := 3) h (by decide)
theorem g3_0 {S : ST} {q : Nat} (h : kd q = (13, 0)) : o_gR (hp S) q 3 0 = some (q + 1) := rd_R (ci := 3) h (by decide) rfl
theorem g3_1 {S : ST} {q : Nat} (h : kd q = (13, 0)) : o_gR (hp S) q 3 1 = some (q + 6) := rd_R (ci := 3) h (by decide) rfl
theorem g3_2 {S : ST} {q : Nat} (h : kd q = (13, 0)) : o_gI (hp S) q 3 2 = some (S.2.1 q 2) := rd_I (ci := 3) h (by decide) rfl
theorem p3_2 {S : ST} {q : Nat} {v : Int32} (h : kd q = (13, 0)) : o_p (hp S) q 3 2 (.int v) = some (hp (stJ S q 2 v)) := wr_p (ci := 3) h (by decide) rfl
theorem ob4 {S : ST} {q : Nat} (h : kd q = (14, 0)) : o_ob (hp S) q 4 = some () := rd_ob (ci := 4) h (by decide)
theorem g4_0 {S : ST} {q : Nat} (h : kd q = (14, 0)) : o_gI (hp S) q 4 0 = some (S.2.1 q 0) := rd_I (ci := 4) h (by decide) rfl
theorem p4_0 {S : ST} {q : Nat} {v : Int32} (h : kd q = (14, 0)) : o_p (hp S) q 4 0 (.int v) = some (hp (stJ S q 0 v)) := wr_p (ci := 4) h (by decide) rfl
theorem g4_1 {S : ST} {q : Nat} (h : kd q = (14, 0)) : o_gI (hp S) q 4 1 = some (S.2.1 q 1) := rd_I (ci := 4) h (by decide) rfl
theorem p4_1 {S : ST} {q : Nat} {v : Int32} (h : kd q = (14, 0)) : o_p (hp S) q 4 1 (.int v) = some (hp (stJ S q 1 v)) := wr_p (ci := 4) h (by decide) rfl
theorem g4_2 {S : ST} {q : Nat} (h : kd q = (14, 0)) : o_gI (hp S) q 4 2 = some (S.2.1 q 2) := rd_I (ci := 4) h (by decide) rfl
theorem p4_2 {S : ST} {q : Nat} {v : Int32} (h : kd q = (14, 0)) : o_p (hp S) q 4 2 (.int v) = some (hp (stJ S q 2 v)) := wr_p (ci := 4) h (by decide) rfl
theorem g4_3 {S : ST} {q : Nat} (h : kd q = (14, 0)) : o_gR (hp S) q 4 3 = some (q + 1) := rd_R (ci := 4) h (by decide) rfl
theorem g4_4 {S : ST} {q : Nat} (h : kd q = (14, 0)) : o_gR (hp S) q 4 4 = some (q + 2) := rd_R (ci := 4) h (by decide) rfl
theorem g4_5 {S : ST} {q : Nat} (h : kd q = (14, 0)) : o_gR (hp S) q 4 5 = some (q + 3) := rd_R (ci := 4) h (by decide) rfl
theorem g4_6 {S : ST} {q : Nat} (h : kd q = (14, 0)) : o_gR (hp S) q 4 6 = some (q + 4) := rd_R (ci := 4) h (by decide) rfl
theorem g4_7 {S : ST} {q : Nat} (h : kd q = (14, 0)) : o_gR (hp S) q 4 7 = some (q + 5) := rd_R (ci := 4) h (by decide) rfl
theorem g4_8 {S : ST} {q : Nat} (h : kd q = (14, 0)) : o_gR (hp S) q 4 8 = some (q + 6) := rd_R (ci := 4) h (by decide) rfl
theorem ob5 {S : ST} {q : Nat} (h : kd q = (15, 0)) : o_ob (hp S) q 5 = some () := rd_ob (ci := 5) h (by decide)
theorem g5_0 {S : ST} {q : Nat} (h : kd q = (15, 0)) : o_gR (hp S) q 5 0 = some (q + 1) := rd_R (ci := 5) h (by decide) rfl
theorem g5_1 {S : ST} {q : Nat} (h : kd q = (15, 0)) : o_gI (hp S) q 5 1 = some (S.2.1 q 1) := rd_I (ci := 5) h (by decide) rfl
theorem p5_1 {S : ST} {q : Nat} {v : Int32} (h : kd q = (15, 0)) : o_p (hp S) q 5 1 (.int v) = some (hp (stJ S q 1 v)) := wr_p (ci := 5) h (by decide) rfl
theorem g5_2 {S : ST} {q : Nat} (h : kd q = (15, 0)) : o_gI (hp S) q 5 2 = some (S.2.1 q 2) := rd_I (ci := 5) h (by decide) rfl
theorem p5_2 {S : ST} {q : Nat} {v : Int32} (h : kd q = (15, 0)) : o_p (hp S) q 5 2 (.int v) = some (hp (stJ S q 2 v)) := wr_p (ci := 5) h (by decide) rfl
theorem ob6 {S : ST} {q : Nat} (h : kd q = (16, 0)) : o_ob (hp S) q 6 = some () := rd_ob (ci := 6) h (by decide)
theorem g6_0 {S : ST} {q : Nat} (h : kd q = (16, 0)) : o_gI (hp S) q 6 0 = some (S.2.1 q 0) := rd_I (ci := 6) h (by decide) rfl
theorem p6_0 {S : ST} {q : Nat} {v : Int32} (h : kd q = (16, 0)) : o_p (hp S) q 6 0 (.int v) = some (hp (stJ S q 0 v)) := wr_p (ci := 6) h (by decide) rfl
theorem g6_1 {S : ST} {q : Nat} (h : kd q = (16, 0)) : o_gI (hp S) q 6 1 = some (S.2.1 q 1) := rd_I (ci := 6) h (by decide) rfl
theorem p6_1 {S : ST} {q : Nat} {v : Int32} (h : kd q = (16, 0)) : o_p (hp S) q 6 1 (.int v) = some (hp (stJ S q 1 v)) := wr_p (ci := 6) h (by decide) rfl
theorem g6_2 {S : ST} {q : Nat} (h : kd q = (16, 0)) : o_gI (hp S) q 6 2 = some (S.2.1 q 2) := rd_I (ci := 6) h (by decide) rfl
theorem p6_2 {S : ST} {q : Nat} {v : Int32} (h : kd q = (16, 0)) : o_p (hp S) q 6 2 (.int v) = some (hp (stJ S q 2 v)) := wr_p (ci := 6) h (by decide) rfl
theorem g6_3 {S : ST} {q : Nat} (h : kd q = (16, 0)) : o_gR (hp S) q 6 3 = some (q + 1) := rd_R (ci := 6) h (by decide) rfl
theorem g6_4 {S : ST} {q : Nat} (h : kd q = (16, 0)) : o_gR (hp S) q 6 4 = some (q + 2) := rd_R (ci := 6) h (by decide) rfl
theorem g6_5 {S : ST} {q : Nat} (h : kd q = (16, 0)) : o_gR (hp S) q 6 5 = some (q + 3) := rd_R (ci := 6) h (by decide) rfl
theorem g6_6 {S : ST} {q : Nat} (h : kd q = (16, 0)) : o_gR (hp S) q 6 6 = some (q + 4) := rd_R (ci := 6) h (by decide) rfl
theorem g6_7 {S : ST} {q : Nat} (h : kd q = (16, 0)) : o_gR (hp S) q 6 7 = some (q + 5) := rd_R (ci := 6) h (by decide) rfl
theorem ob7 {S : ST} {q : Nat} (h : kd q = (17, 0)) : o_ob (hp S) q 7 = some () := rd_ob (ci := 7) h (by decide)
theorem g7_0 {S : ST} {q : Nat} (h : kd q = (17, 0)) : o_gR (hp S) q 7 0 = some (q + 1) := rd_R (ci := 7) h (by decide) rfl
theorem g7_1 {S : ST} {q : Nat} (h : kd q = (17, 0)) : o_gR (hp S) q 7 1 = some (q + 8) := rd_R (ci := 7) h (by decide) rfl
theorem ob8 {S : ST} {q : Nat} (h : kd q = (18, 0)) : o_ob (hp S) q 8 = some () := rd_ob (ci := 8) h (by decide)
theorem g8_0 {S : ST} {q : Nat} (h : kd q = (18, 0)) : o_gR (hp S) q 8 0 = some (1) := rd_R (ci := 8) h (by decide) rfl
theorem g8_1 {S : ST} {q : Nat} (h : kd q = (18, 0)) : o_gR (hp S) q 8 1 = some (3) := rd_R (ci := 8) h (by decide) rfl
theorem g8_2 {S : ST} {q : Nat} (h : kd q = (18, 0)) : o_gR (hp S) q 8 2 = some (9) := rd_R (ci := 8) h (by decide) rfl
theorem g8_3 {S : ST} {q : Nat} (h : kd q = (18, 0)) : o_gR (hp S) q 8 3 = some (15) := rd_R (ci := 8) h (by decide) rfl
theorem g8_4 {S : ST} {q : Nat} (h : kd q = (18, 0)) : o_gR (hp S) q 8 4 = some (72) := rd_R (ci := 8) h (by decide) rfl
theorem g8_5 {S : ST} {q : Nat} (h : kd q = (18, 0)) : o_gI (hp S) q 8 5 = some (S.2.1 q 5) := rd_I (ci := 8) h (by decide) rfl
theorem p8_5 {S : ST} {q : Nat} {v : Int32} (h : kd q = (18, 0)) : o_p (hp S) q 8 5 (.int v) = some (hp (stJ S q 5 v)) := wr_p (ci := 8) h (by decide) rfl
theorem g8_6 {S : ST} {q : Nat} (h : kd q = (18, 0)) : o_gR (hp S) q 8 6 = some (187) := rd_R (ci := 8) h (by decide) rfl
theorem g8_7 {S : ST} {q : Nat} (h : kd q = (18, 0)) : o_gR (hp S) q 8 7 = some (196) := rd_R (ci := 8) h (by decide) rfl
theorem g8_8 {S : ST} {q : Nat} (h : kd q = (18, 0)) : o_gR (hp S) q 8 8 = some (205) := rd_R (ci := 8) h (by decide) rfl
theorem g8_9 {S : ST} {q : Nat} (h : kd q = (18, 0)) : o_gJ (hp S) q 8 9 = some (S.2.2.1 q) := rd_J (ci := 8) h (by decide) rfl
theorem p8_9 {S : ST} {q : Nat} {v : Int64} (h : kd q = (18, 0)) : o_p (hp S) q 8 9 (.long v) = some (hp (stT S q v)) := wr_t (ci := 8) h (by decide)
theorem ob9 {S : ST} {q : Nat} (h : kd q = (19, 0)) : o_ob (hp S) q 9 = some () := rd_ob (ci := 9) h (by decide)
theorem g9_0 {S : ST} {q : Nat} (h : kd q = (19, 0)) : o_gR (hp S) q 9 0 = some (210) := rd_R (ci := 9) h (by decide) rfl
theorem g9_1 {S : ST} {q : Nat} (h : kd q = (19, 0)) : o_gI (hp S) q 9 1 = some (S.2.1 q 1) := rd_I (ci := 9) h (by decide) rfl
theorem p9_1 {S : ST} {q : Nat} {v : Int32} (h : kd q = (19, 0)) : o_p (hp S) q 9 1 (.int v) = some (hp (stJ S q 1 v)) := wr_p (ci := 9) h (by decide) rfl
theorem g9_2 {S : ST} {q : Nat} (h : kd q = (19, 0)) : o_gR (hp S) q 9 2 = some (211) := rd_R (ci := 9) h (by decide) rfl
theorem g9_3 {S : ST} {q : Nat} (h : kd q = (19, 0)) : o_gR (hp S) q 9 3 = some (212) := rd_R (ci := 9) h (by decide) rfl
theorem g9_4 {S : ST} {q : Nat} (h : kd q = (19, 0)) : o_gR (hp S) q 9 4 = some (213) := rd_R (ci := 9) h (by decide) rfl
theorem g9_5 {S : ST} {q : Nat} (h : kd q = (19, 0)) : o_gR (hp S) q 9 5 = some (214) := rd_R (ci := 9) h (by decide) rfl
theorem g9_6 {S : ST} {q : Nat} (h : kd q = (19, 0)) : o_gR (hp S) q 9 6 = some (215) := rd_R (ci := 9) h (by decide) rfl
theorem g9_7 {S : ST} {q : Nat} (h : kd q = (19, 0)) : o_gR (hp S) q 9 7 = some (216) := rd_R (ci := 9) h (by decide) rfl
theorem g9_8 {S : ST} {q : Nat} (h : kd q = (19, 0)) : o_gR (hp S) q 9 8 = some (217) := rd_R (ci := 9) h (by decide) rfl
theorem g9_9 {S : ST} {q : Nat} (h : kd q = (19, 0)) : o_gR (hp S) q 9 9 = some (218) := rd_R (ci := 9) h (by decide) rfl
theorem g9_10 {S : ST} {q : Nat} (h : kd q = (19, 0)) : o_gI (hp S) q 9 10 = some (S.2.1 q 10) := rd_I (ci := 9) h (by decide) rfl
theorem p9_10 {S : ST} {q : Nat} {v : Int32} (h : kd q = (19, 0)) : o_p (hp S) q 9 10 (.int v) = some (hp (stJ S q 10 v)) := wr_p (ci := 9) h (by decide) rfl
theorem g9_11 {S : ST} {q : Nat} (h : kd q = (19, 0)) : o_gI (hp S) q 9 11 = some (S.2.1 q 11) := rd_I (ci := 9) h (by decide) rfl
theorem p9_11 {S : ST} {q : Nat} {v : Int32} (h : kd q = (19, 0)) : o_p (hp S) q 9 11 (.int v) = some (hp (stJ S q 11 v)) := wr_p (ci := 9) h (by decide) rfl
theorem g9_12 {S : ST} {q : Nat} (h : kd q = (19, 0)) : o_gI (hp S) q 9 12 = some (S.2.1 q 12) := rd_I (ci := 9) h (by decide) rfl
theorem p9_12 {S : ST} {q : Nat} {v : Int32} (h : kd q = (19, 0)) : o_p (hp S) q 9 12 (.int v) = some (hp (stJ S q 12 v)) := wr_p (ci := 9) h (by decide) rfl
theorem g9_13 {S : ST} {q : Nat} (h : kd q = (19, 0)) : o_gI (hp S) q 9 13 = some (S.2.1 q 13) := rd_I (ci := 9) h (by decide) rfl
theorem p9_13 {S : ST} {q : Nat} {v : Int32} (h : kd q = (19, 0)) : o_p (hp S) q 9 13 (.int v) = some (hp (stJ S q 13 v)) := wr_p (ci := 9) h (by decide) rfl
theorem g9_14 {S : ST} {q : Nat} (h : kd q = (19, 0)) : o_gI (hp S) q 9 14 = some (S.2.1 q 14) := rd_I (ci := 9) h (by decide) rfl
theorem p9_14 {S : ST} {q : Nat} {v : Int32} (h : kd q = (19, 0)) : o_p (hp S) q 9 14 (.int v) = some (hp (stJ S q 14 v)) := wr_p (ci := 9) h (by decide) rfl
theorem g9_15 {S : ST} {q : Nat} (h : kd q = (19, 0)) : o_gI (hp S) q 9 15 = some (S.2.1 q 15) := rd_I (ci := 9) h (by decide) rfl
theorem p9_15 {S : ST} {q : Nat} {v : Int32} (h : kd q = (19, 0)) : o_p (hp S) q 9 15 (.int v) = some (hp (stJ S q 15 v)) := wr_p (ci := 9) h (by decide) rfl
theorem g9_16 {S : ST} {q : Nat} (h : kd q = (19, 0)) : o_gR (hp S) q 9 16 = some (219) := rd_R (ci := 9) h (by decide) rfl
theorem g9_17 {S : ST} {q : Nat} (h : kd q = (19, 0)) : o_gR (hp S) q 9 17 = some (220) := rd_R (ci := 9) h (by decide) rfl
theorem g9_18 {S : ST} {q : Nat} (h : kd q = (19, 0)) : o_gR (hp S) q 9 18 = some (221) := rd_R (ci := 9) h (by decide) rfl
theorem g9_19 {S : ST} {q : Nat} (h : kd q = (19, 0)) : o_gR (hp S) q 9 19 = some (222) := rd_R (ci := 9) h (by decide) rfl
theorem g9_20 {S : ST} {q : Nat} (h : kd q = (19, 0)) : o_gR (hp S) q 9 20 = some (223) := rd_R (ci := 9) h (by decide) rfl
theorem g9_21 {S : ST} {q : Nat} (h : kd q = (19, 0)) : o_gR (hp S) q 9 21 = some (224) := rd_R (ci := 9) h (by decide) rfl
theorem g9_22 {S : ST} {q : Nat} (h : kd q = (19, 0)) : o_gR (hp S) q 9 22 = some (225) := rd_R (ci := 9) h (by decide) rfl
theorem g9_23 {S : ST} {q : Nat} (h : kd q = (19, 0)) : o_gR (hp S) q 9 23 = some (226) := rd_R (ci := 9) h (by decide) rfl
theorem g9_24 {S : ST} {q : Nat} (h : kd q = (19, 0)) : o_gI (hp S) q 9 24 = some (S.2.1 q 24) := rd_I (ci := 9) h (by decide) rfl
theorem p9_24 {S : ST} {q : Nat} {v : Int32} (h : kd q = (19, 0)) : o_p (hp S) q 9 24 (.int v) = some (hp (stJ S q 24 v)) := wr_p (ci := 9) h (by decide) rfl
theorem g9_25 {S : ST} {q : Nat} (h : kd q = (19, 0)) : o_gJ (hp S) q 9 25 = some (S.2.2.1 q) := rd_J (ci := 9) h (by decide) rfl
theorem p9_25 {S : ST} {q : Nat} {v : Int64} (h : kd q = (19, 0)) : o_p (hp S) q 9 25 (.long v) = some (hp (stT S q v)) := wr_t (ci := 9) h (by decide)

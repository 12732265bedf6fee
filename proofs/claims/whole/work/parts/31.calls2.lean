theorem Ok.of {R : Type} {S : ST} {fk fm : HL → Option (R × HL)} (hI : Inv S) (h : ∃ r, fk (hp S) = some (r, hp S) ∧ fm (hp S) = some (r, hp S)) : Ok S fk fm := by
  obtain ⟨r, a, b⟩ := h
  exact ⟨r, S, S, a, b, hI⟩
theorem c_citizen (F : Nat) (hF : 4000 ≤ F) {S : ST} (h : Inv S) (x w : Int32) : Ok S (fun L => fX9_citizen F L 0 x w) (fun L => fX10_citizen F L 209 x w) := by
  refine Ok.of h ?_
  obtain ⟨Y, n, c, on, ot, wn, μ, k, ms, T, tx, f, mw, mn, kp, im, ik, ims, htw, hwa, hk, hm, htr⟩ := h
  obtain ⟨kt, kn, kx, kf, ki⟩ := hk
  obtain ⟨mt0, mnow, mx, mf, mi⟩ := hm
  have h9 := htw.2.1
  have h6 := htw.2.2.1
  have km := kn.1
  have mm := mnow.1
  have wm := hwa.1
  unfold fX9_citizen fX10_citizen
  simp only [Option.bind_some, Nat.reduceAdd, ob8 kd_0, g8_0 kd_0, g8_1 kd_0, g8_2 kd_0, g8_3 kd_0, g8_4 kd_0, g8_5 kd_0, g8_6 kd_0, g8_7 kd_0, g8_8 kd_0, g8_9 kd_0, p8_5 kd_0, p8_9 kd_0, ob9 kd_209, g9_0 kd_209, g9_1 kd_209, g9_2 kd_209, g9_3 kd_209, g9_4 kd_209, g9_5 kd_209, g9_6 kd_209, g9_7 kd_209, g9_8 kd_209, g9_9 kd_209, g9_10 kd_209, g9_11 kd_209, g9_12 kd_209, g9_13 kd_209, g9_14 kd_209, g9_15 kd_209, g9_16 kd_209, g9_17 kd_209, g9_18 kd_209, g9_19 kd_209, g9_20 kd_209, g9_21 kd_209, g9_22 kd_209, g9_23 kd_209, g9_24 kd_209, g9_25 kd_209, p9_1 kd_209, p9_10 kd_209, p9_11 kd_209, p9_12 kd_209, p9_13 kd_209, p9_14 kd_209, p9_15 kd_209, p9_24 kd_209, p9_25 kd_209, isCitizen_eq F kt.2.2.1, mIsPerson_eq F mt0.2.2.1]
  rcases rowc x (show c < 2 ^ 30 by omega) with ⟨s, hs, rfl, hx⟩ | hx
  · simp only [if_pos hx, e10, if_false]
    simp only [ob6 kd_9, g6_0 kd_9, g6_1 kd_9, g6_2 kd_9, g6_3 kd_9, g6_4 kd_9, g6_5 kd_9, g6_6 kd_9, g6_7 kd_9, p6_0 kd_9, p6_1 kd_9, p6_2 kd_9, ob3 kd_15, g3_0 kd_15, g3_1 kd_15, g3_2 kd_15, p3_2 kd_15, ob2 kd_16, g2_0 kd_16, g2_1 kd_16, g2_2 kd_16, g2_3 kd_16, g2_4 kd_16, p2_4 kd_16, Option.bind_some, Nat.reduceAdd, la28]
    have r20 : o_aI (hp S) 20 0 (nI s) = some (nI (μ 3 s)) := by rw [ra (by rfl) (by decide) (by rw [kd_20]; show s < 6; omega)]; exact congrArg some (km.2.2.2.1 s hs)
    have r14 : o_aI (hp S) 14 0 (nI s) = some (nI (wn s)) := by rw [ra (by rfl) (by decide) (by rw [kd_14]; show s < 6; omega), kt.2.2.2.2.2 s hs]
    have q20 : o_aI (hp S) 219 0 (nI (28 + s)) = some (nI (μ 3 s)) := by rw [ra (by rfl) (by decide) (by rw [kd_219]; show 28 + s < 34; omega), mm.2.2.2.2 s hs]
    have q14 : o_aI (hp S) 218 0 (nI s) = some (nI (wn s)) := by rw [ra (by rfl) (by decide) (by rw [kd_218]; show s < 12; omega), mt0.2.2.2.2.2 s hs]
    simp only [r20, r14, q20, q14, Option.bind_some, Nat.reduceAdd, witnessesOf_eq F hF kt htw km wm hs, mWitnesses_eq F hF mt0 htw mm wm hs]
    by_cases h0 : w = 0
    · simp only [if_pos h0]; exact ⟨_, rfl, rfl⟩
    · by_cases h1 : w = 1
      · simp only [if_neg h0, if_pos h1]; exact ⟨_, rfl, rfl⟩
      · by_cases h2 : w = 2
        · simp only [if_neg h0, if_neg h1, if_pos h2]; exact ⟨_, rfl, rfl⟩
        · simp only [if_neg h0, if_neg h1, if_neg h2]; exact ⟨_, rfl, rfl⟩
  · simp only [if_neg hx, if_true]
    exact ⟨_, rfl, rfl⟩
theorem mHidden_eq (F : Nat) (hF : 4000 ≤ F) {S : ST} {n c : Nat} {μ : Mo} (hn : S.1 212 0 = nI n) (h9 : n ≤ 9) (hm : MM S n c μ) (hw : WM n c μ) : fX10_now_b42 F F 209 0 0 (hp S) = some (nI (cnt n (fun s => decide (0 < μ 1 s))), hp S) := by
  have := loopA (fun k i st => fX10_now_b42 F k 209 st (nI i) (hp S)) n (fun i => nI (cnt i (fun s => decide (0 < μ 1 s)))) (some (nI (cnt n (fun s => decide (0 < μ 1 s))), hp S)) ?_ ?_ F 0 (by omega) (by omega)
  · exact this
  · intro k
    show fX10_now_b42c F _ 209 _ (nI n) (hp S) = _
    unfold fX10_now_b42c
    simp only [Option.bind_some, Nat.reduceAdd, ob9 kd_209, g9_0 kd_209, g9_1 kd_209, g9_2 kd_209, g9_3 kd_209, g9_4 kd_209, g9_5 kd_209, g9_6 kd_209, g9_7 kd_209, g9_8 kd_209, g9_9 kd_209, g9_10 kd_209, g9_11 kd_209, g9_12 kd_209, g9_13 kd_209, g9_14 kd_209, g9_15 kd_209, g9_16 kd_209, g9_17 kd_209, g9_18 kd_209, g9_19 kd_209, g9_20 kd_209, g9_21 kd_209, g9_22 kd_209, g9_23 kd_209, g9_24 kd_209, g9_25 kd_209, p9_1 kd_209, p9_10 kd_209, p9_11 kd_209, p9_12 kd_209, p9_13 kd_209, p9_14 kd_209, p9_15 kd_209, p9_24 kd_209, p9_25 kd_209, m212_0, hn]
    rw [if_pos (nI_le (Nat.le_refl _) (by omega))]
  · intro k i hi
    have := (hw.1 i hi).2.1
    show fX10_now_b42c F _ 209 _ (nI i) (hp S) = _
    unfold fX10_now_b42c fX10_now_b70
    simp only [Option.bind_some, Nat.reduceAdd, ob9 kd_209, g9_0 kd_209, g9_1 kd_209, g9_2 kd_209, g9_3 kd_209, g9_4 kd_209, g9_5 kd_209, g9_6 kd_209, g9_7 kd_209, g9_8 kd_209, g9_9 kd_209, g9_10 kd_209, g9_11 kd_209, g9_12 kd_209, g9_13 kd_209, g9_14 kd_209, g9_15 kd_209, g9_16 kd_209, g9_17 kd_209, g9_18 kd_209, g9_19 kd_209, g9_20 kd_209, g9_21 kd_209, g9_22 kd_209, g9_23 kd_209, g9_24 kd_209, g9_25 kd_209, p9_1 kd_209, p9_10 kd_209, p9_11 kd_209, p9_12 kd_209, p9_13 kd_209, p9_14 kd_209, p9_15 kd_209, p9_24 kd_209, p9_25 kd_209, m212_0, hn, la10]
    rw [if_neg (nI_ge hi (by omega)), ra (by rfl) (by decide) (by rw [kd_219]; show 10 + i < 34; omega)]
    simp only [Option.bind_some, Nat.reduceAdd]
    rw [hm.2.2.1 i hi, show (0 : Int32) = nI 0 from rfl]
    simp only [nI_1, cnt, nI_add]
    by_cases h0 : μ 1 i = 0
    · rw [if_pos ((nI_leI (by omega) (by omega)).mpr (by omega))]
      simp [h0]
    · rw [if_neg (fun h => h0 (by have := (nI_leI (a := μ 1 i) (b := 0) (by omega) (by omega)).mp h; omega))]
      have : 0 < μ 1 i := by omega
      simp [this]
theorem c_now (F : Nat) (hF : 4000 ≤ F) {S : ST} (h : Inv S) (w : Int32) : Ok S (fun L => fX9_now F L 0 w) (fun L => fX10_now F L 209 w) := by
  refine Ok.of h ?_
  obtain ⟨Y, n, c, on, ot, wn, μ, k, ms, T, tx, f, mw, mn, kp, im, ik, ims, htw, hwa, hk, hm, htr⟩ := h
  obtain ⟨kt, kn, kx, kf, ki⟩ := hk
  obtain ⟨mt0, mnow, mx, mf, mi⟩ := hm
  have h9 := htw.2.1
  have km := kn.1
  have mm := mnow.1
  have wm := hwa.1
  have e4 : S.2.1 16 4 = nI (μ 4 0) := km.2.2.2.2
  unfold fX9_now fX10_now
  simp only [Option.bind_some, Nat.reduceAdd, ob8 kd_0, g8_0 kd_0, g8_1 kd_0, g8_2 kd_0, g8_3 kd_0, g8_4 kd_0, g8_5 kd_0, g8_6 kd_0, g8_7 kd_0, g8_8 kd_0, g8_9 kd_0, p8_5 kd_0, p8_9 kd_0, ob3 kd_15, g3_0 kd_15, g3_1 kd_15, g3_2 kd_15, p3_2 kd_15, ob2 kd_16, g2_0 kd_16, g2_1 kd_16, g2_2 kd_16, g2_3 kd_16, g2_4 kd_16, p2_4 kd_16, ob9 kd_209, g9_0 kd_209, g9_1 kd_209, g9_2 kd_209, g9_3 kd_209, g9_4 kd_209, g9_5 kd_209, g9_6 kd_209, g9_7 kd_209, g9_8 kd_209, g9_9 kd_209, g9_10 kd_209, g9_11 kd_209, g9_12 kd_209, g9_13 kd_209, g9_14 kd_209, g9_15 kd_209, g9_16 kd_209, g9_17 kd_209, g9_18 kd_209, g9_19 kd_209, g9_20 kd_209, g9_21 kd_209, g9_22 kd_209, g9_23 kd_209, g9_24 kd_209, g9_25 kd_209, p9_1 kd_209, p9_10 kd_209, p9_11 kd_209, p9_12 kd_209, p9_13 kd_209, p9_14 kd_209, p9_15 kd_209, p9_24 kd_209, p9_25 kd_209, m219_0, e4, mm.1, widthsTogether_eq F hF kt.2.1 h9 km wm, allWidths_eq F hF mt0.2.1 h9 mm wm, streetsWithHidden_eq F hF kt.2.1 h9 km wm, mHidden_eq F hF mt0.2.1 h9 mm wm]
  by_cases h0 : w = 0
  · simp only [if_pos h0]; exact ⟨_, rfl, rfl⟩
  · by_cases h1 : w = 1
    · simp only [if_neg h0, if_pos h1]; exact ⟨_, rfl, rfl⟩
    · by_cases h2 : w = 2
      · simp only [if_neg h0, if_neg h1, if_pos h2]; exact ⟨_, rfl, rfl⟩
      · simp only [if_neg h0, if_neg h1, if_neg h2]; exact ⟨_, rfl, rfl⟩
theorem c_count (F : Nat) {S : ST} (h : Inv S) (w : Int32) : Ok S (fun L => fX9_count F L 0 w) (fun L => fX10_count F L 209 w) := by
  refine Ok.of h ?_
  obtain ⟨Y, n, c, on, ot, wn, μ, k, ms, T, tx, f, mw, mn, kp, im, ik, ims, htw, hwa, hk, hm, htr⟩ := h
  obtain ⟨kt, kn, kx, kf, ki⟩ := hk
  obtain ⟨mt0, mnow, mx, mf, mi⟩ := hm
  unfold fX9_count fX10_count
  simp only [Option.bind_some, Nat.reduceAdd, ob8 kd_0, g8_0 kd_0, g8_1 kd_0, g8_2 kd_0, g8_3 kd_0, g8_4 kd_0, g8_5 kd_0, g8_6 kd_0, g8_7 kd_0, g8_8 kd_0, g8_9 kd_0, p8_5 kd_0, p8_9 kd_0, ob6 kd_9, g6_0 kd_9, g6_1 kd_9, g6_2 kd_9, g6_3 kd_9, g6_4 kd_9, g6_5 kd_9, g6_6 kd_9, g6_7 kd_9, p6_0 kd_9, p6_1 kd_9, p6_2 kd_9, ob3 kd_15, g3_0 kd_15, g3_1 kd_15, g3_2 kd_15, p3_2 kd_15, ob5 kd_1, g5_0 kd_1, g5_1 kd_1, g5_2 kd_1, p5_1 kd_1, p5_2 kd_1, ob1 kd_205, g1_0 kd_205, g1_1 kd_205, g1_2 kd_205, g1_3 kd_205, p1_2 kd_205, ob9 kd_209, g9_0 kd_209, g9_1 kd_209, g9_2 kd_209, g9_3 kd_209, g9_4 kd_209, g9_5 kd_209, g9_6 kd_209, g9_7 kd_209, g9_8 kd_209, g9_9 kd_209, g9_10 kd_209, g9_11 kd_209, g9_12 kd_209, g9_13 kd_209, g9_14 kd_209, g9_15 kd_209, g9_16 kd_209, g9_17 kd_209, g9_18 kd_209, g9_19 kd_209, g9_20 kd_209, g9_21 kd_209, g9_22 kd_209, g9_23 kd_209, g9_24 kd_209, g9_25 kd_209, p9_1 kd_209, p9_10 kd_209, p9_11 kd_209, p9_12 kd_209, p9_13 kd_209, p9_14 kd_209, p9_15 kd_209, p9_24 kd_209, p9_25 kd_209, m211_0, m212_0, m216_0, m220_0, kt.1, kt.2.1, kt.2.2.1, kf.1, kn.2.1, kx.1, mt0.1, mt0.2.1, mt0.2.2.1, mf.1, mnow.2.1, mx.1]
  by_cases h0 : w = 0
  · simp only [if_pos h0]; exact ⟨_, rfl, rfl⟩
  · by_cases h1 : w = 1
    · simp only [if_neg h0, if_pos h1]; exact ⟨_, rfl, rfl⟩
    · by_cases h2 : w = 2
      · simp only [if_neg h0, if_neg h1, if_pos h2]; exact ⟨_, rfl, rfl⟩
      · by_cases h3 : w = 3
        · simp only [if_neg h0, if_neg h1, if_neg h2, if_pos h3]; exact ⟨_, rfl, rfl⟩
        · by_cases h4 : w = 4
          · simp only [if_neg h0, if_neg h1, if_neg h2, if_neg h3, if_pos h4]; exact ⟨_, rfl, rfl⟩
          · by_cases h5 : w = 5
            · simp only [if_neg h0, if_neg h1, if_neg h2, if_neg h3, if_neg h4, if_pos h5]; exact ⟨_, rfl, rfl⟩
            · simp only [if_neg h0, if_neg h1, if_neg h2, if_neg h3, if_neg h4, if_neg h5]; exact ⟨_, rfl, rfl⟩
theorem c_trace (F : Nat) {S : ST} (h : Inv S) : Ok S (fun L => fX9_trace F L 0) (fun L => fX10_trace F L 209) := by
  refine Ok.of h ?_
  obtain ⟨Y, n, c, on, ot, wn, μ, k, ms, T, tx, f, mw, mn, kp, im, ik, ims, htw, hwa, hk, hm, htr⟩ := h
  unfold fX9_trace fX10_trace
  simp only [Option.bind_some, Nat.reduceAdd, ob8 kd_0, g8_0 kd_0, g8_1 kd_0, g8_2 kd_0, g8_3 kd_0, g8_4 kd_0, g8_5 kd_0, g8_6 kd_0, g8_7 kd_0, g8_8 kd_0, g8_9 kd_0, p8_5 kd_0, p8_9 kd_0, ob9 kd_209, g9_0 kd_209, g9_1 kd_209, g9_2 kd_209, g9_3 kd_209, g9_4 kd_209, g9_5 kd_209, g9_6 kd_209, g9_7 kd_209, g9_8 kd_209, g9_9 kd_209, g9_10 kd_209, g9_11 kd_209, g9_12 kd_209, g9_13 kd_209, g9_14 kd_209, g9_15 kd_209, g9_16 kd_209, g9_17 kd_209, g9_18 kd_209, g9_19 kd_209, g9_20 kd_209, g9_21 kd_209, g9_22 kd_209, g9_23 kd_209, g9_24 kd_209, g9_25 kd_209, p9_1 kd_209, p9_10 kd_209, p9_11 kd_209, p9_12 kd_209, p9_13 kd_209, p9_14 kd_209, p9_15 kd_209, p9_24 kd_209, p9_25 kd_209, htr]
  exact ⟨_, rfl, rfl⟩
theorem c_forget (F : Nat) {S : ST} (h : Inv S) : Ok S (fun L => fX9_forget F L 0) (fun L => fX10_forget F L 209) := by
  obtain ⟨Y, n, c, on, ot, wn, μ, k, ms, T, tx, f, mw, mn, kp, im, ik, ims, htw, hwa, hk, hm, htr⟩ := h
  obtain ⟨kt, kn, kx, kf, ki⟩ := hk
  obtain ⟨w1, w2, w3, w4, w5⟩ := hwa
  have f1 : Fr 205 206 S (stJ S 205 2 0) := Fr.stJ (by omega) (by omega)
  have f2 : Fr 209 210 (stJ S 205 2 0) (stJ (stJ S 205 2 0) 209 24 0) := Fr.stJ (by omega) (by omega)
  have e1 : (stJ S 205 2 0).2.1 209 24 = nI f := by rw [stJ_n _ _ (by decide)]; exact hm.2.2.2.1.1
  refine ⟨nI f, stJ S 205 2 0, stJ (stJ S 205 2 0) 209 24 0, ?_, ?_, ?_⟩
  · try dsimp only
    unfold fX9_forget
    simp only [Option.bind_some, Nat.reduceAdd, ob8 kd_0, g8_0 kd_0, g8_1 kd_0, g8_2 kd_0, g8_3 kd_0, g8_4 kd_0, g8_5 kd_0, g8_6 kd_0, g8_7 kd_0, g8_8 kd_0, g8_9 kd_0, p8_5 kd_0, p8_9 kd_0, ob1 kd_205, g1_0 kd_205, g1_1 kd_205, g1_2 kd_205, g1_3 kd_205, p1_2 kd_205, kf.1]
  · try dsimp only
    unfold fX10_forget
    simp only [Option.bind_some, Nat.reduceAdd, ob9 kd_209, g9_0 kd_209, g9_1 kd_209, g9_2 kd_209, g9_3 kd_209, g9_4 kd_209, g9_5 kd_209, g9_6 kd_209, g9_7 kd_209, g9_8 kd_209, g9_9 kd_209, g9_10 kd_209, g9_11 kd_209, g9_12 kd_209, g9_13 kd_209, g9_14 kd_209, g9_15 kd_209, g9_16 kd_209, g9_17 kd_209, g9_18 kd_209, g9_19 kd_209, g9_20 kd_209, g9_21 kd_209, g9_22 kd_209, g9_23 kd_209, g9_24 kd_209, g9_25 kd_209, p9_1 kd_209, p9_10 kd_209, p9_11 kd_209, p9_12 kd_209, p9_13 kd_209, p9_14 kd_209, p9_15 kd_209, p9_24 kd_209, p9_25 kd_209, e1]
  · obtain ⟨m1, m2, m3, m4, m5⟩ := M_fr hm f1 (by omega)
    refine ⟨Y, n, c, on, ot, wn, μ, k, ms, T, tx, 0, mw, mn, kp, im, ik, ims, htw, ⟨w1, w2, w3, ⟨by omega, fun i hi => absurd hi (by omega)⟩, w5⟩, ⟨(kt.fr f1 (by omega)).fr f2 (by omega), (kn.fr f1 (by omega)).fr f2 (by omega), (kx.fr f1 (by omega)).fr f2 (by omega), ⟨?_, fun i hi => absurd hi (by omega), fun i hi => absurd hi (by omega)⟩, (ki.fr f1 (by omega) (by omega)).fr f2 (by omega) (by omega)⟩, ⟨m1.fr f2 (by omega), m2.fr f2 (by omega), ⟨?_, ?_⟩, ⟨stJ_s _ _ _ _, fun i hi => absurd hi (by omega), fun i hi => absurd hi (by omega)⟩, m5.fr f2 (by omega)⟩, ?_⟩
    · rw [stJ_n _ _ (by decide)]; exact stJ_s _ _ _ _
    · rw [stJ_k _ _ (by decide)]; exact m3.1
    · exact m3.2
    · exact htr
theorem c_measures (F : Nat) {S : ST} (h : Inv S) (x y : Int32) : Ok S (fun L => fX9_measures F L 0 x y) (fun L => fX10_measures F L 209 x y) := by
  have hI := h
  obtain ⟨Y, n, c, on, ot, wn, μ, k, ms, T, tx, f, mw, mn, kp, im, ik, ims, htw, hwa, hk, hm, htr⟩ := h
  obtain ⟨kt, kn, kx, kf, ki⟩ := hk
  obtain ⟨w1, w2, w3, ⟨w4, w4'⟩, w5⟩ := hwa
  have hmf := hm.2.2.2.1
  have hk9 : ∀ S : ST, fX9_measures F (hp S) 0 x y = (if (if (1 : Int32) ≤ x ∧ x ≤ 10 then (1 : Int32) else 0) = 0 then (some ((-1 : Int32), hp S)) else (if (if (0 : Int32) ≤ y ∧ y ≤ 1 then (1 : Int32) else 0) = 0 then (some ((-1 : Int32), hp S)) else if S.2.1 205 2 < 4 then ((fX1_add F (hp S) 205 x y).bind fun z9 => (o_gR z9 0 8 8).bind fun v10 => (o_gI z9 v10 1 2).bind fun v11 => some (v11, z9)) else (some ((-3), hp S)))) := by
    intro S
    unfold fX9_measures fX9_measures_b19
    simp only [Option.bind_some, Nat.reduceAdd, ob8 kd_0, g8_0 kd_0, g8_1 kd_0, g8_2 kd_0, g8_3 kd_0, g8_4 kd_0, g8_5 kd_0, g8_6 kd_0, g8_7 kd_0, g8_8 kd_0, g8_9 kd_0, p8_5 kd_0, p8_9 kd_0, ob1 kd_205, g1_0 kd_205, g1_1 kd_205, g1_2 kd_205, g1_3 kd_205, p1_2 kd_205, within_eq]
  have hm9 : ∀ S : ST, fX10_measures F (hp S) 209 x y = (if (if (1 : Int32) ≤ x ∧ x ≤ 10 then (1 : Int32) else 0) = 0 then (some ((-1 : Int32), hp S)) else (if (if (0 : Int32) ≤ y ∧ y ≤ 1 then (1 : Int32) else 0) = 0 then (some ((-1 : Int32), hp S)) else if S.2.1 209 24 = 4 then (some ((-3), hp S)) else ((o_sI (hp S) 225 0 (S.2.1 209 24) x).bind fun L9 => (o_gR L9 209 9 23).bind fun v10 => (o_gI L9 209 9 24).bind fun v11 => (o_sI L9 v10 0 v11 y).bind fun L12 => (o_gI L12 209 9 24).bind fun v13 => (o_p L12 209 9 24 (.int (v13 + 1))).bind fun L14 => (o_gI L14 209 9 24).bind fun v15 => some (v15, L14)))) := by
    intro S
    unfold fX10_measures fX10_measures_b19
    simp only [Option.bind_some, Nat.reduceAdd, ob9 kd_209, g9_0 kd_209, g9_1 kd_209, g9_2 kd_209, g9_3 kd_209, g9_4 kd_209, g9_5 kd_209, g9_6 kd_209, g9_7 kd_209, g9_8 kd_209, g9_9 kd_209, g9_10 kd_209, g9_11 kd_209, g9_12 kd_209, g9_13 kd_209, g9_14 kd_209, g9_15 kd_209, g9_16 kd_209, g9_17 kd_209, g9_18 kd_209, g9_19 kd_209, g9_20 kd_209, g9_21 kd_209, g9_22 kd_209, g9_23 kd_209, g9_24 kd_209, g9_25 kd_209, p9_1 kd_209, p9_10 kd_209, p9_11 kd_209, p9_12 kd_209, p9_13 kd_209, p9_14 kd_209, p9_15 kd_209, p9_24 kd_209, p9_25 kd_209, in_eq]
  rcases rng1_10 x with ⟨j, j1, j2, rfl, hx⟩ | hx
  · rcases rng0_1 y with ⟨i, i1, i2, rfl, hy⟩ | hy
    · by_cases hf : f < 4
      · refine ⟨nI (f + 1), stJ (stI (stI S 206 (upd (S.1 206) f (nI j))) 207 (upd (S.1 207) f (nI i))) 205 2 (nI (f + 1)), stJ (stI (stI (stJ (stI (stI S 206 (upd (S.1 206) f (nI j))) 207 (upd (S.1 207) f (nI i))) 205 2 (nI (f + 1))) 225 (upd (S.1 225) f (nI j))) 226 (upd (S.1 226) f (nI i))) 209 24 (nI (f + 1)), ?_, ?_, ?_⟩
        · show fX9_measures F (hp S) 0 (nI j) (nI i) = _
          rw [hk9, if_pos hx, if_neg (by decide), if_pos hy, if_neg (by decide), kf.1, if_pos (show nI f < (4 : Int32) from nI_lt (b := 4) hf (by decide))]
          unfold fX1_add
          simp only [Option.bind_some, Nat.reduceAdd, ob1 kd_205, g1_0 kd_205, g1_1 kd_205, g1_2 kd_205, g1_3 kd_205, p1_2 kd_205, kf.1]
          rw [if_neg (show ¬ (4 : Int32) ≤ nI f from nI_ge (b := 4) hf (by decide)), wa (by rfl) (by decide) (by rw [kd_206]; exact hf)]
          simp only [Option.bind_some, Nat.reduceAdd, ob1 kd_205, g1_0 kd_205, g1_1 kd_205, g1_2 kd_205, g1_3 kd_205, p1_2 kd_205, stI_2, kf.1]
          rw [wa (by rfl) (by decide) (by rw [kd_207]; exact hf)]
          simp only [Option.bind_some, Nat.reduceAdd, ob1 kd_205, g1_0 kd_205, g1_1 kd_205, g1_2 kd_205, g1_3 kd_205, p1_2 kd_205, ob8 kd_0, g8_0 kd_0, g8_1 kd_0, g8_2 kd_0, g8_3 kd_0, g8_4 kd_0, g8_5 kd_0, g8_6 kd_0, g8_7 kd_0, g8_8 kd_0, g8_9 kd_0, p8_5 kd_0, p8_9 kd_0, stI_2, kf.1, nI_1, stJ_s]
          rw [stI_n _ _ (by decide)]
        · show fX10_measures F (hp _) 209 (nI j) (nI i) = _
          have e1 : (stJ (stI (stI S 206 (upd (S.1 206) f (nI j))) 207 (upd (S.1 207) f (nI i))) 205 2 (nI (f + 1))).2.1 209 24 = nI f := by
            rw [stJ_n _ _ (by decide)]; exact hmf.1
          rw [hm9, if_pos hx, if_neg (by decide), if_pos hy, if_neg (by decide), e1, if_neg (show ¬ nI f = (4 : Int32) from fun e => by have := (nI_eq (a := f) (b := 4) (by omega) (by decide)).mp e; omega), wa (by rfl) (by decide) (by rw [kd_225]; exact hf)]
          simp only [Option.bind_some, Nat.reduceAdd, ob9 kd_209, g9_0 kd_209, g9_1 kd_209, g9_2 kd_209, g9_3 kd_209, g9_4 kd_209, g9_5 kd_209, g9_6 kd_209, g9_7 kd_209, g9_8 kd_209, g9_9 kd_209, g9_10 kd_209, g9_11 kd_209, g9_12 kd_209, g9_13 kd_209, g9_14 kd_209, g9_15 kd_209, g9_16 kd_209, g9_17 kd_209, g9_18 kd_209, g9_19 kd_209, g9_20 kd_209, g9_21 kd_209, g9_22 kd_209, g9_23 kd_209, g9_24 kd_209, g9_25 kd_209, p9_1 kd_209, p9_10 kd_209, p9_11 kd_209, p9_12 kd_209, p9_13 kd_209, p9_14 kd_209, p9_15 kd_209, p9_24 kd_209, p9_25 kd_209, stI_2, e1]
          rw [wa (by rfl) (by decide) (by rw [kd_226]; exact hf)]
          simp only [Option.bind_some, Nat.reduceAdd, ob9 kd_209, g9_0 kd_209, g9_1 kd_209, g9_2 kd_209, g9_3 kd_209, g9_4 kd_209, g9_5 kd_209, g9_6 kd_209, g9_7 kd_209, g9_8 kd_209, g9_9 kd_209, g9_10 kd_209, g9_11 kd_209, g9_12 kd_209, g9_13 kd_209, g9_14 kd_209, g9_15 kd_209, g9_16 kd_209, g9_17 kd_209, g9_18 kd_209, g9_19 kd_209, g9_20 kd_209, g9_21 kd_209, g9_22 kd_209, g9_23 kd_209, g9_24 kd_209, g9_25 kd_209, p9_1 kd_209, p9_10 kd_209, p9_11 kd_209, p9_12 kd_209, p9_13 kd_209, p9_14 kd_209, p9_15 kd_209, p9_24 kd_209, p9_25 kd_209, stI_2, e1, nI_1, stJ_s]
          rw [stI_n _ _ (by decide), stJ_1, stI_n _ _ (by decide), stI_n _ _ (by decide), stI_n _ _ (by decide), stI_n _ _ (by decide)]
        · have f1 : Fr 205 208 S (stJ (stI (stI S 206 (upd (S.1 206) f (nI j))) 207 (upd (S.1 207) f (nI i))) 205 2 (nI (f + 1))) := Fr.tr (Fr.tr (Fr.stI (by omega) (by omega)) (Fr.stI (by omega) (by omega))) (Fr.stJ (by omega) (by omega))
          have x1 : KF (stJ (stI (stI S 206 (upd (S.1 206) f (nI j))) 207 (upd (S.1 207) f (nI i))) 205 2 (nI (f + 1))) (f + 1) (fun t => if t = f then j else mw t) (fun t => if t = f then i else mn t) := by
            refine ⟨stJ_s _ _ _ _, fun t ht => ?_, fun t ht => ?_⟩
            · rw [stJ_1, stI_n _ _ (by decide), stI_s, upd_at]
              dsimp only
              by_cases h : t = f
              · rw [if_pos h, if_pos h]
              · rw [if_neg h, if_neg h]; exact kf.2.1 t (by omega)
            · rw [stJ_1, stI_s, upd_at]
              dsimp only
              by_cases h : t = f
              · rw [if_pos h, if_pos h]
              · rw [if_neg h, if_neg h]; exact kf.2.2 t (by omega)
          generalize hS1 : stJ (stI (stI S 206 (upd (S.1 206) f (nI j))) 207 (upd (S.1 207) f (nI i))) 205 2 (nI (f + 1)) = S1 at f1 x1
          have f2 : Fr 209 227 S1 (stJ (stI (stI S1 225 (upd (S.1 225) f (nI j))) 226 (upd (S.1 226) f (nI i))) 209 24 (nI (f + 1))) := Fr.tr (Fr.tr (Fr.stI (by omega) (by omega)) (Fr.stI (by omega) (by omega))) (Fr.stJ (by omega) (by omega))
          have f3 : Fr 225 227 S1 (stI (stI S1 225 (upd (S.1 225) f (nI j))) 226 (upd (S.1 226) f (nI i))) := Fr.tr (Fr.stI (by omega) (by omega)) (Fr.stI (by omega) (by omega))
          have f4 : Fr 209 210 (stI (stI S1 225 (upd (S.1 225) f (nI j))) 226 (upd (S.1 226) f (nI i))) (stJ (stI (stI S1 225 (upd (S.1 225) f (nI j))) 226 (upd (S.1 226) f (nI i))) 209 24 (nI (f + 1))) := Fr.stJ (by omega) (by omega)
          refine ⟨Y, n, c, on, ot, wn, μ, k, ms, T, tx, f + 1, (fun t => if t = f then j else mw t), (fun t => if t = f then i else mn t), kp, im, ik, ims, htw, ⟨w1, w2, w3, ⟨by omega, fun t ht => ?_⟩, w5⟩, ⟨(kt.fr f1 (by omega)).fr f2 (by omega), (kn.fr f1 (by omega)).fr f2 (by omega), (kx.fr f1 (by omega)).fr f2 (by omega), x1.fr f2 (by omega), (ki.fr f1 (by omega) (by omega)).fr f2 (by omega) (by omega)⟩, ?_, ?_⟩
          · dsimp only
            by_cases h : t = f
            · rw [if_pos h, if_pos h]; omega
            · rw [if_neg h, if_neg h]; exact w4' t (by omega)
          · obtain ⟨m1, m2, m3, m4, m5⟩ := M_fr hm f1 (by omega)
            refine ⟨(m1.fr f3 (by omega)).fr f4 (by omega), (m2.fr f3 (by omega)).fr f4 (by omega), ⟨?_, ?_⟩, ⟨stJ_s _ _ _ _, fun t ht => ?_, fun t ht => ?_⟩, (m5.fr f3 (by omega)).fr f4 (by omega)⟩
            · rw [stJ_k _ _ (by decide)]; exact m3.1
            · exact fun t ht => by rw [stJ_1, (f3 210 (by omega)).1]; exact m3.2 t ht
            · rw [stJ_1, stI_n _ _ (by decide), stI_s, upd_at]
              dsimp only
              by_cases h : t = f
              · rw [if_pos h, if_pos h]
              · rw [if_neg h, if_neg h]; exact hmf.2.1 t (by omega)
            · rw [stJ_1, stI_s, upd_at]
              dsimp only
              by_cases h : t = f
              · rw [if_pos h, if_pos h]
              · rw [if_neg h, if_neg h]; exact hmf.2.2 t (by omega)
          · show S1.2.2.1 0 = S1.2.2.1 209
            rw [(f1 0 (by omega)).2.2.1, (f1 209 (by omega)).2.2.1]
            exact htr
      · have hf' : f = 4 := by omega
        subst hf'
        refine ⟨-3, S, S, ?_, ?_, hI⟩
        · show fX9_measures F (hp S) 0 (nI j) (nI i) = _
          rw [hk9, if_pos hx, if_neg (by decide), if_pos hy, if_neg (by decide), kf.1, if_neg (by decide)]
        · show fX10_measures F (hp S) 209 (nI j) (nI i) = _
          rw [hm9, if_pos hx, if_neg (by decide), if_pos hy, if_neg (by decide), hmf.1, if_pos (by decide)]
    · refine ⟨-1, S, S, ?_, ?_, hI⟩
      · show fX9_measures F (hp S) 0 (nI j) y = _
        rw [hk9, if_pos hx, if_neg (by decide), if_neg hy, if_pos rfl]
      · show fX10_measures F (hp S) 209 (nI j) y = _
        rw [hm9, if_pos hx, if_neg (by decide), if_neg hy, if_pos rfl]
  · refine ⟨-1, S, S, ?_, ?_, hI⟩
    · show fX9_measures F (hp S) 0 x y = _
      rw [hk9, if_neg hx, if_pos rfl]
    · show fX10_measures F (hp S) 209 x y = _
      rw [hm9, if_neg hx, if_pos rfl]

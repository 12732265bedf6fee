/-! the calls, one by one -/
theorem c_type (F : Nat) {S : ST} (h : Inv S) (x : Int32) : Ok S (fun L => fX9_type F L 0 x) (fun L => fX10_type F L 209 x) := by
  have hI := h
  obtain ⟨Y, n, c, on, ot, wn, μ, k, ms, T, tx, f, mw, mn, kp, im, ik, ims, htw, hwa, hk, hm, htr⟩ := h
  obtain ⟨kt, kn, kx, kf, ki⟩ := hk
  obtain ⟨w1, w2, ⟨wT, wX⟩, w4, w5⟩ := hwa
  have hmx := hm.2.2.1
  have hk9 : ∀ S : ST, fX9_type F (hp S) 0 x = (if (if (0 : Int32) ≤ x ∧ x ≤ 255 then (1 : Int32) else 0) = 0 then (some ((-1 : Int32), hp S)) else (if S.2.1 1 2 < 120 then ((fX6_add F (hp S) 1 x).bind fun z7 => (o_gR z7 0 8 0).bind fun v8 => (o_gI z7 v8 5 2).bind fun v9 => some (v9, z7)) else (some ((-3), hp S)))) := by
    intro S
    unfold fX9_type
    simp only [Option.bind_some, Nat.reduceAdd, ob8 kd_0, g8_0 kd_0, g8_1 kd_0, g8_2 kd_0, g8_3 kd_0, g8_4 kd_0, g8_5 kd_0, g8_6 kd_0, g8_7 kd_0, g8_8 kd_0, g8_9 kd_0, p8_5 kd_0, p8_9 kd_0, ob5 kd_1, g5_0 kd_1, g5_1 kd_1, g5_2 kd_1, p5_1 kd_1, p5_2 kd_1, within_eq]
  have hm9 : ∀ S : ST, fX10_type F (hp S) 209 x = (if (if (0 : Int32) ≤ x ∧ x ≤ 255 then (1 : Int32) else 0) = 0 then (some ((-1 : Int32), hp S)) else (if S.2.1 209 1 = 120 then (some ((-3), hp S)) else ((o_sI (hp S) 210 1 (S.2.1 209 1) (vp_nar .byte x.toInt8.toInt32)).bind fun L7 => (o_gI L7 209 9 1).bind fun v8 => (o_p L7 209 9 1 (.int (v8 + 1))).bind fun L9 => (o_gI L9 209 9 1).bind fun v10 => some (v10, L9)))) := by
    intro S
    unfold fX10_type
    simp only [Option.bind_some, Nat.reduceAdd, ob9 kd_209, g9_0 kd_209, g9_1 kd_209, g9_2 kd_209, g9_3 kd_209, g9_4 kd_209, g9_5 kd_209, g9_6 kd_209, g9_7 kd_209, g9_8 kd_209, g9_9 kd_209, g9_10 kd_209, g9_11 kd_209, g9_12 kd_209, g9_13 kd_209, g9_14 kd_209, g9_15 kd_209, g9_16 kd_209, g9_17 kd_209, g9_18 kd_209, g9_19 kd_209, g9_20 kd_209, g9_21 kd_209, g9_22 kd_209, g9_23 kd_209, g9_24 kd_209, g9_25 kd_209, p9_1 kd_209, p9_10 kd_209, p9_11 kd_209, p9_12 kd_209, p9_13 kd_209, p9_14 kd_209, p9_15 kd_209, p9_24 kd_209, p9_25 kd_209, in_eq]
  by_cases hx : (0 : Int32) ≤ x ∧ x ≤ 255
  · rcases rngc x 0 255 (by decide) (by decide) with ⟨j, j1, j2, rfl, j3⟩ | hn
    · by_cases hT : T < 120
      · refine ⟨nI (T + 1), stJ (stI S 2 (upd (S.1 2) T (nI j))) 1 2 (nI (T + 1)), stJ (stI (stJ (stI S 2 (upd (S.1 2) T (nI j))) 1 2 (nI (T + 1))) 210 (upd (S.1 210) T (nI j).toInt8.toInt32)) 209 1 (nI (T + 1)), ?_, ?_, ?_⟩
        · show fX9_type F (hp S) 0 (nI j) = _
          rw [hk9, if_pos hx, if_neg (by decide), kx.1, if_pos (show nI T < (120 : Int32) from nI_lt (b := 120) hT (by decide))]
          unfold fX6_add
          simp only [Option.bind_some, Nat.reduceAdd, ob5 kd_1, g5_0 kd_1, g5_1 kd_1, g5_2 kd_1, p5_1 kd_1, p5_2 kd_1, kx.1]
          rw [if_neg (show ¬ (120 : Int32) ≤ nI T from nI_ge (b := 120) hT (by decide)), wa (by rfl) (by decide) (by rw [kd_2]; exact hT)]
          simp only [Option.bind_some, Nat.reduceAdd, ob5 kd_1, g5_0 kd_1, g5_1 kd_1, g5_2 kd_1, p5_1 kd_1, p5_2 kd_1, ob8 kd_0, g8_0 kd_0, g8_1 kd_0, g8_2 kd_0, g8_3 kd_0, g8_4 kd_0, g8_5 kd_0, g8_6 kd_0, g8_7 kd_0, g8_8 kd_0, g8_9 kd_0, p8_5 kd_0, p8_9 kd_0, stI_2, kx.1, nI_1, stJ_s]
        · show fX10_type F (hp _) 209 (nI j) = _
          have e1 : (stJ (stI S 2 (upd (S.1 2) T (nI j))) 1 2 (nI (T + 1))).2.1 209 1 = nI T := by
            rw [stJ_n _ _ (by decide)]; exact hmx.1
          rw [hm9, if_pos hx, if_neg (by decide), e1, if_neg (show ¬ nI T = (120 : Int32) from fun e => by have := (nI_eq (a := T) (b := 120) (by omega) (by decide)).mp e; omega), wa (by rfl) (by decide) (by rw [kd_210]; exact hT), pk_vb]
          simp only [Option.bind_some, Nat.reduceAdd, ob9 kd_209, g9_0 kd_209, g9_1 kd_209, g9_2 kd_209, g9_3 kd_209, g9_4 kd_209, g9_5 kd_209, g9_6 kd_209, g9_7 kd_209, g9_8 kd_209, g9_9 kd_209, g9_10 kd_209, g9_11 kd_209, g9_12 kd_209, g9_13 kd_209, g9_14 kd_209, g9_15 kd_209, g9_16 kd_209, g9_17 kd_209, g9_18 kd_209, g9_19 kd_209, g9_20 kd_209, g9_21 kd_209, g9_22 kd_209, g9_23 kd_209, g9_24 kd_209, g9_25 kd_209, p9_1 kd_209, p9_10 kd_209, p9_11 kd_209, p9_12 kd_209, p9_13 kd_209, p9_14 kd_209, p9_15 kd_209, p9_24 kd_209, p9_25 kd_209, stI_2, e1, nI_1, stJ_s]
          rw [stJ_1, stI_n _ _ (by decide)]
        · have f1 : Fr 1 3 S (stJ (stI S 2 (upd (S.1 2) T (nI j))) 1 2 (nI (T + 1))) := Fr.tr (Fr.stI (by omega) (by omega)) (Fr.stJ (by omega) (by omega))
          generalize hS1 : stJ (stI S 2 (upd (S.1 2) T (nI j))) 1 2 (nI (T + 1)) = S1 at f1
          have f2 : Fr 209 211 S1 (stJ (stI S1 210 (upd (S.1 210) T (nI j).toInt8.toInt32)) 209 1 (nI (T + 1))) := Fr.tr (Fr.stI (by omega) (by omega)) (Fr.stJ (by omega) (by omega))
          have x1 : KX S1 (T + 1) (fun i => if i = T then j else tx i) := by
            rw [← hS1]
            refine ⟨stJ_s _ _ _ _, fun i hi => ?_⟩
            rw [stJ_1, stI_s, upd_at]
            dsimp only
            by_cases h : i = T
            · rw [if_pos h, if_pos h]
            · rw [if_neg h, if_neg h]; exact kx.2 i (by omega)
          refine ⟨Y, n, c, on, ot, wn, μ, k, ms, T + 1, (fun i => if i = T then j else tx i), f, mw, mn, kp, im, ik, ims, htw, ⟨w1, w2, ⟨by omega, fun i hi => ?_⟩, w4, w5⟩, ⟨(kt.fr f1 (by omega)).fr f2 (by omega), (kn.fr f1 (by omega)).fr f2 (by omega), x1.fr f2 (by omega), (kf.fr f1 (by omega)).fr f2 (by omega), (ki.fr f1 (by omega) (by omega)).fr f2 (by omega) (by omega)⟩, ?_, ?_⟩
          · dsimp only
            by_cases h : i = T
            · rw [if_pos h]; omega
            · rw [if_neg h]; exact wX i (by omega)
          · obtain ⟨m1, m2, m3, m4, m5⟩ := M_fr hm f1 (by omega)
            refine ⟨m1.fr f2 (by omega), m2.fr f2 (by omega), ⟨stJ_s _ _ _ _, fun i hi => ?_⟩, ⟨?_, ?_, ?_⟩, m5.fr f2 (by omega)⟩
            · rw [stJ_1, stI_s, upd_at]
              by_cases h : i = T
              · rw [if_pos h]
                simp [h]
              · rw [if_neg h]
                simp only [if_neg h]
                exact hmx.2 i (by omega)
            · rw [stJ_k _ _ (by decide)]; exact m4.1
            · exact fun i hi => by rw [(f2 225 (by omega)).1]; exact m4.2.1 i hi
            · exact fun i hi => by rw [(f2 226 (by omega)).1]; exact m4.2.2 i hi
          · show S1.2.2.1 0 = S1.2.2.1 209
            rw [(f1 0 (by omega)).2.2.1, (f1 209 (by omega)).2.2.1]
            exact htr
      · have hT' : T = 120 := by omega
        subst hT'
        refine ⟨-3, S, S, ?_, ?_, hI⟩
        · show fX9_type F (hp S) 0 (nI j) = _
          rw [hk9, if_pos hx, if_neg (by decide), kx.1, if_neg (by decide)]
        · show fX10_type F (hp S) 209 (nI j) = _
          rw [hm9, if_pos hx, if_neg (by decide), hmx.1, if_pos (by decide)]
    · exact absurd hx hn
  · refine ⟨-1, S, S, ?_, ?_, hI⟩
    · show fX9_type F (hp S) 0 x = _
      rw [hk9, if_neg hx, if_pos rfl]
    · show fX10_type F (hp S) 209 x = _
      rw [hm9, if_neg hx, if_pos rfl]
theorem c_clear (F : Nat) {S : ST} (h : Inv S) : Ok S (fun L => fX9_clear F L 0) (fun L => fX10_clear F L 209) := by
  obtain ⟨Y, n, c, on, ot, wn, μ, k, ms, T, tx, f, mw, mn, kp, im, ik, ims, htw, hwa, hk, hm, htr⟩ := h
  obtain ⟨kt, kn, kx, kf, ki⟩ := hk
  obtain ⟨w1, w2, w3, w4, w5⟩ := hwa
  have f1 : Fr 1 3 S (stJ S 1 2 0) := Fr.stJ (by omega) (by omega)
  have f2 : Fr 209 211 (stJ S 1 2 0) (stJ (stJ S 1 2 0) 209 1 0) := Fr.stJ (by omega) (by omega)
  have e1 : (stJ S 1 2 0).2.1 209 1 = nI T := by rw [stJ_n _ _ (by decide)]; exact hm.2.2.1.1
  refine ⟨nI T, stJ S 1 2 0, stJ (stJ S 1 2 0) 209 1 0, ?_, ?_, ?_⟩
  · show fX9_clear F (hp S) 0 = _
    unfold fX9_clear
    simp only [Option.bind_some, Nat.reduceAdd, ob8 kd_0, g8_0 kd_0, g8_1 kd_0, g8_2 kd_0, g8_3 kd_0, g8_4 kd_0, g8_5 kd_0, g8_6 kd_0, g8_7 kd_0, g8_8 kd_0, g8_9 kd_0, p8_5 kd_0, p8_9 kd_0, ob5 kd_1, g5_0 kd_1, g5_1 kd_1, g5_2 kd_1, p5_1 kd_1, p5_2 kd_1, kx.1]
  · show fX10_clear F (hp _) 209 = _
    unfold fX10_clear
    simp only [Option.bind_some, Nat.reduceAdd, ob9 kd_209, g9_0 kd_209, g9_1 kd_209, g9_2 kd_209, g9_3 kd_209, g9_4 kd_209, g9_5 kd_209, g9_6 kd_209, g9_7 kd_209, g9_8 kd_209, g9_9 kd_209, g9_10 kd_209, g9_11 kd_209, g9_12 kd_209, g9_13 kd_209, g9_14 kd_209, g9_15 kd_209, g9_16 kd_209, g9_17 kd_209, g9_18 kd_209, g9_19 kd_209, g9_20 kd_209, g9_21 kd_209, g9_22 kd_209, g9_23 kd_209, g9_24 kd_209, g9_25 kd_209, p9_1 kd_209, p9_10 kd_209, p9_11 kd_209, p9_12 kd_209, p9_13 kd_209, p9_14 kd_209, p9_15 kd_209, p9_24 kd_209, p9_25 kd_209, e1]
  · obtain ⟨m1, m2, m3, m4, m5⟩ := M_fr hm f1 (by omega)
    refine ⟨Y, n, c, on, ot, wn, μ, k, ms, 0, tx, f, mw, mn, kp, im, ik, ims, htw, ⟨w1, w2, ⟨by omega, fun i hi => absurd hi (by omega)⟩, w4, w5⟩, ⟨(kt.fr f1 (by omega)).fr f2 (by omega), (kn.fr f1 (by omega)).fr f2 (by omega), ⟨?_, fun i hi => absurd hi (by omega)⟩, (kf.fr f1 (by omega)).fr f2 (by omega), (ki.fr f1 (by omega) (by omega)).fr f2 (by omega) (by omega)⟩, ⟨m1.fr f2 (by omega), m2.fr f2 (by omega), ⟨stJ_s _ _ _ _, fun i hi => absurd hi (by omega)⟩, ⟨?_, ?_, ?_⟩, m5.fr f2 (by omega)⟩, ?_⟩
    · rw [stJ_n _ _ (by decide)]; exact stJ_s _ _ _ _
    · rw [stJ_k _ _ (by decide)]; exact m4.1
    · exact m4.2.1
    · exact m4.2.2
    · exact htr
theorem c_street (F : Nat) (hF : 4000 ≤ F) {S : ST} (h : Inv S) (x w : Int32) : Ok S (fun L => fX9_street F L 0 x w) (fun L => fX10_street F L 209 x w) := by
  have hI := h
  obtain ⟨Y, n, c, on, ot, wn, μ, k, ms, T, tx, f, mw, mn, kp, im, ik, ims, htw, hwa, hk, hm, htr⟩ := h
  obtain ⟨kt, kn, kx, kf, ki⟩ := hk
  obtain ⟨mt0, mnow, mx, mf, mi⟩ := hm
  have h9 := htw.2.1
  have h6 := htw.2.2.1
  have km := kn.1
  have mm := mnow.1
  have wm := hwa.1
  suffices hh : ∃ r, fX9_street F (hp S) 0 x w = some (r, hp S) ∧ fX10_street F (hp S) 209 x w = some (r, hp S) by
    obtain ⟨r, a, b⟩ := hh
    exact ⟨r, S, S, a, b, hI⟩
  unfold fX9_street fX10_street
  simp only [Option.bind_some, Nat.reduceAdd, ob8 kd_0, g8_0 kd_0, g8_1 kd_0, g8_2 kd_0, g8_3 kd_0, g8_4 kd_0, g8_5 kd_0, g8_6 kd_0, g8_7 kd_0, g8_8 kd_0, g8_9 kd_0, p8_5 kd_0, p8_9 kd_0, ob9 kd_209, g9_0 kd_209, g9_1 kd_209, g9_2 kd_209, g9_3 kd_209, g9_4 kd_209, g9_5 kd_209, g9_6 kd_209, g9_7 kd_209, g9_8 kd_209, g9_9 kd_209, g9_10 kd_209, g9_11 kd_209, g9_12 kd_209, g9_13 kd_209, g9_14 kd_209, g9_15 kd_209, g9_16 kd_209, g9_17 kd_209, g9_18 kd_209, g9_19 kd_209, g9_20 kd_209, g9_21 kd_209, g9_22 kd_209, g9_23 kd_209, g9_24 kd_209, g9_25 kd_209, p9_1 kd_209, p9_10 kd_209, p9_11 kd_209, p9_12 kd_209, p9_13 kd_209, p9_14 kd_209, p9_15 kd_209, p9_24 kd_209, p9_25 kd_209, isStreet_eq F kt.2.1 h9, mIsStreet_eq F mt0.2.1]
  rcases rowc x (show n < 2 ^ 30 by omega) with ⟨s, hs, rfl, hx⟩ | hx
  · simp only [if_pos hx, e10, if_false]
    simp only [ob6 kd_9, g6_0 kd_9, g6_1 kd_9, g6_2 kd_9, g6_3 kd_9, g6_4 kd_9, g6_5 kd_9, g6_6 kd_9, g6_7 kd_9, p6_0 kd_9, p6_1 kd_9, p6_2 kd_9, ob3 kd_15, g3_0 kd_15, g3_1 kd_15, g3_2 kd_15, p3_2 kd_15, ob2 kd_16, g2_0 kd_16, g2_1 kd_16, g2_2 kd_16, g2_3 kd_16, g2_4 kd_16, p2_4 kd_16, Option.bind_some, Nat.reduceAdd, la1, la10, la19]
    have r10 : o_aI (hp S) 10 0 (nI s) = some (nI (on s)) := by rw [ra (by rfl) (by decide) (by rw [kd_10]; show s < 9; omega), kt.2.2.2.1 s hs]
    have r11 : o_aI (hp S) 11 0 (nI s) = some (nI (ot s)) := by rw [ra (by rfl) (by decide) (by rw [kd_11]; show s < 9; omega), kt.2.2.2.2.1 s hs]
    have r17 : o_aI (hp S) 17 0 (nI s) = some (nI (μ 0 s)) := by rw [ra (by rfl) (by decide) (by rw [kd_17]; show s < 9; omega)]; exact congrArg some (km.1 s hs)
    have r18 : o_aI (hp S) 18 0 (nI s) = some (nI (μ 1 s)) := by rw [ra (by rfl) (by decide) (by rw [kd_18]; show s < 9; omega)]; exact congrArg some (km.2.1 s hs)
    have r19 : o_aI (hp S) 19 0 (nI s) = some (nI (μ 2 s)) := by rw [ra (by rfl) (by decide) (by rw [kd_19]; show s < 9; omega)]; exact congrArg some (km.2.2.1 s hs)
    have q10 : o_aI (hp S) 213 0 (nI s) = some (nI (on s)) := by rw [ra (by rfl) (by decide) (by rw [kd_213]; show s < 18; omega), mt0.2.2.2.1 s hs]
    have q11 : o_aI (hp S) 214 0 (nI s) = some (nI (ot s)) := by rw [ra (by rfl) (by decide) (by rw [kd_214]; show s < 18; omega), mt0.2.2.2.2.1 s hs]
    have q17 : o_aI (hp S) 219 0 (nI (1 + s)) = some (nI (μ 0 s)) := by rw [ra (by rfl) (by decide) (by rw [kd_219]; show 1 + s < 34; omega), mm.2.1 s hs]
    have q18 : o_aI (hp S) 219 0 (nI (10 + s)) = some (nI (μ 1 s)) := by rw [ra (by rfl) (by decide) (by rw [kd_219]; show 10 + s < 34; omega), mm.2.2.1 s hs]
    have q19 : o_aI (hp S) 219 0 (nI (19 + s)) = some (nI (μ 2 s)) := by rw [ra (by rfl) (by decide) (by rw [kd_219]; show 19 + s < 34; omega), mm.2.2.2.1 s hs]
    simp only [r10, r11, r17, r18, r19, q10, q11, q17, q18, q19, Option.bind_some, Nat.reduceAdd, widthOf_mu F IsM_16 km wm h9 hs, mWidthOf_eq F mm wm h9 hs, livingIn_eq F hF kt.2.2.1 h6 h9 km wm hs, mLivingIn_eq F hF mt0.2.2.1 h6 h9 mm wm hs]
    by_cases h0 : w = 0
    · simp only [h0, if_true]; exact ⟨_, rfl, rfl⟩
    · by_cases h1 : w = 1
      · simp only [if_neg h0, if_pos h1]; exact ⟨_, rfl, rfl⟩
      · by_cases h2 : w = 2
        · simp only [if_neg h0, if_neg h1, if_pos h2]; exact ⟨_, rfl, rfl⟩
        · by_cases h3 : w = 3
          · simp only [if_neg h0, if_neg h1, if_neg h2, if_pos h3]; exact ⟨_, rfl, rfl⟩
          · by_cases h4 : w = 4
            · simp only [if_neg h0, if_neg h1, if_neg h2, if_neg h3, if_pos h4]; exact ⟨_, rfl, rfl⟩
            · by_cases h5 : w = 5
              · simp only [if_neg h0, if_neg h1, if_neg h2, if_neg h3, if_neg h4, if_pos h5]; exact ⟨_, rfl, rfl⟩
              · by_cases h7 : w = 6
                · simp only [if_neg h0, if_neg h1, if_neg h2, if_neg h3, if_neg h4, if_neg h5, if_pos h7]; exact ⟨_, rfl, rfl⟩
                · simp only [if_neg h0, if_neg h1, if_neg h2, if_neg h3, if_neg h4, if_neg h5, if_neg h7]; exact ⟨_, rfl, rfl⟩
  · rw [if_neg hx, if_pos rfl, if_pos rfl]
    exact ⟨_, rfl, rfl⟩

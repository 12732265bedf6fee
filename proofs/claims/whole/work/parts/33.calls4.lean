theorem c_night (F : Nat) (hF : 4000 ≤ F) {S : ST} (h : Inv S) (x : Int32) : Ok S (fun L => fX9_night F L 0 x) (fun L => fX10_night F L 209 x) := by
  have hI := h
  obtain ⟨Y, n, c, on, ot, wn, μ, k, ms, T, tx, f, mw, mn, kp, im, ik, ims, htw, hwa, hk, hm, htr⟩ := h
  have h9 := htw.2.1
  have h6 := htw.2.2.1
  have kt := hk.1
  have kn := hk.2.1
  have mt0 := hm.1
  have mm := hm.2.1.1
  have wm := hwa.1
  have e4 : S.2.1 16 4 = nI (μ 4 0) := kn.1.2.2.2.2
  rcases rng0_1 x with ⟨v, v0, v1, rfl, hx⟩ | hx
  · have wn1 := wm.2.2
    by_cases he : μ 4 0 = v
    · refine Ok.of hI ⟨-2, ?_, ?_⟩
      · unfold fX9_night
        simp only [Option.bind_some, Nat.reduceAdd, ob8 kd_0, g8_0 kd_0, g8_1 kd_0, g8_2 kd_0, g8_3 kd_0, g8_4 kd_0, g8_5 kd_0, g8_6 kd_0, g8_7 kd_0, g8_8 kd_0, g8_9 kd_0, p8_5 kd_0, p8_9 kd_0, within_eq, if_pos hx, e10, if_false, ob3 kd_15, g3_0 kd_15, g3_1 kd_15, g3_2 kd_15, p3_2 kd_15, ob2 kd_16, g2_0 kd_16, g2_1 kd_16, g2_2 kd_16, g2_3 kd_16, g2_4 kd_16, p2_4 kd_16, e4, he, if_true]
      · unfold fX10_night
        simp only [Option.bind_some, Nat.reduceAdd, ob9 kd_209, g9_0 kd_209, g9_1 kd_209, g9_2 kd_209, g9_3 kd_209, g9_4 kd_209, g9_5 kd_209, g9_6 kd_209, g9_7 kd_209, g9_8 kd_209, g9_9 kd_209, g9_10 kd_209, g9_11 kd_209, g9_12 kd_209, g9_13 kd_209, g9_14 kd_209, g9_15 kd_209, g9_16 kd_209, g9_17 kd_209, g9_18 kd_209, g9_19 kd_209, g9_20 kd_209, g9_21 kd_209, g9_22 kd_209, g9_23 kd_209, g9_24 kd_209, g9_25 kd_209, p9_1 kd_209, p9_10 kd_209, p9_11 kd_209, p9_12 kd_209, p9_13 kd_209, p9_14 kd_209, p9_15 kd_209, p9_24 kd_209, p9_25 kd_209, in_eq, if_pos hx, e10, if_false, m219_0, mm.1, he, if_true]
    · have hne : ¬ nI (μ 4 0) = nI v := fun e => he ((nI_eq (by omega) (by omega)).mp e)
      obtain ⟨S1, e1, f1, n1⟩ := remember_eq F hF IsN_15 h9 h6 kn
      have f2 : Fr 16 21 S1 (stJ S1 16 4 (nI v)) := Fr.stJ (by omega) (by omega)
      have n2 := n1.set (μ' := muS μ 4 0 v) f2 (momNight n1.1 v)
      generalize hS2 : stJ S1 16 4 (nI v) = S2 at f2 n2
      have f12 : Fr 15 72 S S2 := Fr.tr f1 (f2.mono (by omega) (by omega))
      obtain ⟨m1, m2, m3, m4, m5⟩ := M_fr hm f12 (by omega)
      have kt2 := kt.fr f12 (by omega)
      obtain ⟨S3, e3, f3, n3, g1, g2⟩ := know_eq F hF h9 h6 m2
      have f4 : Fr 219 220 S3 (stI S3 219 (upd (S3.1 219) 0 (nI v))) := Fr.stI (by omega) (by omega)
      have n4 := n3.set (μ' := muS μ 4 0 v) f4 (mmSet n3.1 h9 h6 4 (by omega) 0 v (by omega))
      have wm' : WM n c (muS μ 4 0 v) := wm.set (by omega) (by omega) (by omega)
      have mt4 := (m1.fr f3 (by omega)).fr f4 (by omega)
      refine ⟨nI (sumN n (wd (muS μ 4 0 v))), S2, stI S3 219 (upd (S3.1 219) 0 (nI v)), ?_, ?_, Inv.step htw hwa hk hm htr wm' f12 n2 (Fr.tr (f3.mono (by omega) (by omega)) (f4.mono (by omega) (by omega))) n4 (fun j hj => by rw [stI_n _ _ (by decide)]; exact g1 j hj) (fun j hj => by rw [stI_n _ _ (by decide)]; exact g2 j hj)⟩
      · show fX9_night F (hp S) 0 (nI v) = _
        unfold fX9_night
        simp only [Option.bind_some, Nat.reduceAdd, ob8 kd_0, g8_0 kd_0, g8_1 kd_0, g8_2 kd_0, g8_3 kd_0, g8_4 kd_0, g8_5 kd_0, g8_6 kd_0, g8_7 kd_0, g8_8 kd_0, g8_9 kd_0, p8_5 kd_0, p8_9 kd_0, within_eq, if_pos hx, e10, if_false, ob3 kd_15, g3_0 kd_15, g3_1 kd_15, g3_2 kd_15, p3_2 kd_15, ob2 kd_16, g2_0 kd_16, g2_1 kd_16, g2_2 kd_16, g2_3 kd_16, g2_4 kd_16, p2_4 kd_16, e4, if_neg hne, e1, hS2, widthsTogether_eq F hF kt2.2.1 h9 n2.1 wm']
      · show fX10_night F (hp S2) 209 (nI v) = _
        unfold fX10_night
        have w0 : o_sI (hp S3) 219 0 0 (nI v) = some (hp (stI S3 219 (upd (S3.1 219) 0 (nI v)))) := wa (j := 0) rfl (by decide) (by decide)
        simp only [Option.bind_some, Nat.reduceAdd, ob9 kd_209, g9_0 kd_209, g9_1 kd_209, g9_2 kd_209, g9_3 kd_209, g9_4 kd_209, g9_5 kd_209, g9_6 kd_209, g9_7 kd_209, g9_8 kd_209, g9_9 kd_209, g9_10 kd_209, g9_11 kd_209, g9_12 kd_209, g9_13 kd_209, g9_14 kd_209, g9_15 kd_209, g9_16 kd_209, g9_17 kd_209, g9_18 kd_209, g9_19 kd_209, g9_20 kd_209, g9_21 kd_209, g9_22 kd_209, g9_23 kd_209, g9_24 kd_209, g9_25 kd_209, p9_1 kd_209, p9_10 kd_209, p9_11 kd_209, p9_12 kd_209, p9_13 kd_209, p9_14 kd_209, p9_15 kd_209, p9_24 kd_209, p9_25 kd_209, in_eq, if_pos hx, e10, if_false, m219_0, m2.1.1, if_neg hne, e3, w0, allWidths_eq F hF mt4.2.1 h9 n4.1 wm']
  · refine Ok.of hI ⟨-1, ?_, ?_⟩
    · unfold fX9_night
      simp only [Option.bind_some, Nat.reduceAdd, ob8 kd_0, g8_0 kd_0, g8_1 kd_0, g8_2 kd_0, g8_3 kd_0, g8_4 kd_0, g8_5 kd_0, g8_6 kd_0, g8_7 kd_0, g8_8 kd_0, g8_9 kd_0, p8_5 kd_0, p8_9 kd_0, within_eq, if_neg hx, if_true]
    · unfold fX10_night
      simp only [Option.bind_some, Nat.reduceAdd, ob9 kd_209, g9_0 kd_209, g9_1 kd_209, g9_2 kd_209, g9_3 kd_209, g9_4 kd_209, g9_5 kd_209, g9_6 kd_209, g9_7 kd_209, g9_8 kd_209, g9_9 kd_209, g9_10 kd_209, g9_11 kd_209, g9_12 kd_209, g9_13 kd_209, g9_14 kd_209, g9_15 kd_209, g9_16 kd_209, g9_17 kd_209, g9_18 kd_209, g9_19 kd_209, g9_20 kd_209, g9_21 kd_209, g9_22 kd_209, g9_23 kd_209, g9_24 kd_209, g9_25 kd_209, p9_1 kd_209, p9_10 kd_209, p9_11 kd_209, p9_12 kd_209, p9_13 kd_209, p9_14 kd_209, p9_15 kd_209, p9_24 kd_209, p9_25 kd_209, in_eq, if_neg hx, if_true]
theorem c_wills (F : Nat) (hF : 4000 ≤ F) {S : ST} (h : Inv S) (x : Int32) : Ok S (fun L => fX9_wills F L 0 x) (fun L => fX10_wills F L 209 x) := by
  have hI := h
  obtain ⟨Y, n, c, on, ot, wn, μ, k, ms, T, tx, f, mw, mn, kp, im, ik, ims, htw, hwa, hk, hm, htr⟩ := h
  have h9 := htw.2.1
  have h6 := htw.2.2.1
  have kt := hk.1
  have kn := hk.2.1
  have mt0 := hm.1
  have mm := hm.2.1.1
  have wm := hwa.1
  rcases rowc x (show n < 2 ^ 30 by omega) with ⟨s, hs, rfl, hx⟩ | hx
  · obtain ⟨b0, b1, b2⟩ := wm.1 s hs
    have r18 : o_aI (hp S) 18 0 (nI s) = some (nI (μ 1 s)) := by rw [ra (by rfl) (by decide) (by rw [kd_18]; show s < 9; omega)]; exact congrArg some (kn.1.2.1 s hs)
    by_cases he : μ 1 s = 0
    · have e0 : nI (μ 1 s) = (0 : Int32) := by rw [he]; rfl
      refine Ok.of hI ⟨-2, ?_, ?_⟩
      · unfold fX9_wills
        simp only [Option.bind_some, Nat.reduceAdd, ob8 kd_0, g8_0 kd_0, g8_1 kd_0, g8_2 kd_0, g8_3 kd_0, g8_4 kd_0, g8_5 kd_0, g8_6 kd_0, g8_7 kd_0, g8_8 kd_0, g8_9 kd_0, p8_5 kd_0, p8_9 kd_0, isStreet_eq F kt.2.1 h9, if_pos hx, e10, if_false, ob3 kd_15, g3_0 kd_15, g3_1 kd_15, g3_2 kd_15, p3_2 kd_15, ob2 kd_16, g2_0 kd_16, g2_1 kd_16, g2_2 kd_16, g2_3 kd_16, g2_4 kd_16, p2_4 kd_16, r18, e0, if_true]
      · unfold fX10_wills
        have q18 : o_aI (hp S) 219 0 (nI (10 + s)) = some (nI (μ 1 s)) := by rw [ra (by rfl) (by decide) (by rw [kd_219]; show 10 + s < 34; omega), mm.2.2.1 s hs]
        simp only [Option.bind_some, Nat.reduceAdd, ob9 kd_209, g9_0 kd_209, g9_1 kd_209, g9_2 kd_209, g9_3 kd_209, g9_4 kd_209, g9_5 kd_209, g9_6 kd_209, g9_7 kd_209, g9_8 kd_209, g9_9 kd_209, g9_10 kd_209, g9_11 kd_209, g9_12 kd_209, g9_13 kd_209, g9_14 kd_209, g9_15 kd_209, g9_16 kd_209, g9_17 kd_209, g9_18 kd_209, g9_19 kd_209, g9_20 kd_209, g9_21 kd_209, g9_22 kd_209, g9_23 kd_209, g9_24 kd_209, g9_25 kd_209, p9_1 kd_209, p9_10 kd_209, p9_11 kd_209, p9_12 kd_209, p9_13 kd_209, p9_14 kd_209, p9_15 kd_209, p9_24 kd_209, p9_25 kd_209, mIsStreet_eq F mt0.2.1, if_pos hx, e10, if_false, la10, q18, e0, if_true]
    · have hne : ¬ nI (μ 1 s) = (0 : Int32) := nI_ne0 (by omega) (by omega)
      have hmx : ∀ a b : Nat, a ≤ 9 → b ≤ 9 → (if nI a < nI b then nI b else nI a) = nI (max a b) := by
        intro a b ha hb
        by_cases h : a < b
        · rw [if_pos ((nI_ltI (by omega) (by omega)).mpr h), Nat.max_eq_right (by omega)]
        · rw [if_neg (fun e => h ((nI_ltI (by omega) (by omega)).mp e)), Nat.max_eq_left (by omega)]
      obtain ⟨S1, e1, f1, n1⟩ := remember_eq F hF IsN_15 h9 h6 kn
      have s17 : S1.1 17 s = nI (μ 0 s) := n1.1.1 s hs
      have f2 : Fr 16 21 S1 (stI S1 17 (upd (S1.1 17) s (nI (max (μ 0 s) (μ 1 s))))) := Fr.stI (by omega) (by omega)
      have n2 := n1.set (μ' := muS μ 0 s (max (μ 0 s) (μ 1 s))) f2 (momSet n1.1 0 (by omega) s _)
      generalize hS2 : stI S1 17 (upd (S1.1 17) s (nI (max (μ 0 s) (μ 1 s)))) = S2 at f2 n2
      have f2b : Fr 16 21 S2 (stI S2 18 (upd (S2.1 18) s (nI 0))) := Fr.stI (by omega) (by omega)
      have n2b := n2.set (μ' := muS (muS μ 0 s (max (μ 0 s) (μ 1 s))) 1 s 0) f2b (momSet n2.1 1 (by omega) s 0)
      generalize hS2b : stI S2 18 (upd (S2.1 18) s (nI 0)) = S2b at f2b n2b
      have f12 : Fr 15 72 S S2b := Fr.tr (Fr.tr f1 (f2.mono (by omega) (by omega))) (f2b.mono (by omega) (by omega))
      obtain ⟨m1, m2, m3, m4, m5⟩ := M_fr hm f12 (by omega)
      obtain ⟨S3, e3, f3, n3, g1, g2⟩ := know_eq F hF h9 h6 m2
      have s219 : S3.1 219 (1 + s) = nI (μ 0 s) := n3.1.2.1 s hs
      have f4 : Fr 219 220 S3 (stI S3 219 (upd (S3.1 219) (1 + s) (nI (max (μ 0 s) (μ 1 s))))) := Fr.stI (by omega) (by omega)
      have n4 := n3.set (μ' := muS μ 0 s (max (μ 0 s) (μ 1 s))) f4 (mmSet n3.1 h9 h6 0 (by omega) s _ (by omega))
      generalize hS4 : stI S3 219 (upd (S3.1 219) (1 + s) (nI (max (μ 0 s) (μ 1 s)))) = S4 at f4 n4
      have f5 : Fr 219 220 S4 (stI S4 219 (upd (S4.1 219) (10 + s) (nI 0))) := Fr.stI (by omega) (by omega)
      have n5 := n4.set (μ' := muS (muS μ 0 s (max (μ 0 s) (μ 1 s))) 1 s 0) f5 (mmSet n4.1 h9 h6 1 (by omega) s 0 (by omega))
      refine ⟨nI (μ 1 s), S2b, stI S4 219 (upd (S4.1 219) (10 + s) (nI 0)), ?_, ?_, Inv.step htw hwa hk hm htr ((wm.set (by omega) (by omega) (by omega)).set (by omega) (by omega) (by omega)) f12 n2b (Fr.tr (Fr.tr (f3.mono (by omega) (by omega)) (f4.mono (by omega) (by omega))) (f5.mono (by omega) (by omega))) n5 (fun j hj => by rw [stI_n _ _ (by decide), ← hS4, stI_n _ _ (by decide)]; exact g1 j hj) (fun j hj => by rw [stI_n _ _ (by decide), ← hS4, stI_n _ _ (by decide)]; exact g2 j hj)⟩
      · show fX9_wills F (hp S) 0 (nI s) = _
        unfold fX9_wills
        simp only [Option.bind_some, Nat.reduceAdd, ob8 kd_0, g8_0 kd_0, g8_1 kd_0, g8_2 kd_0, g8_3 kd_0, g8_4 kd_0, g8_5 kd_0, g8_6 kd_0, g8_7 kd_0, g8_8 kd_0, g8_9 kd_0, p8_5 kd_0, p8_9 kd_0, isStreet_eq F kt.2.1 h9, if_pos hx, e10, if_false, ob3 kd_15, g3_0 kd_15, g3_1 kd_15, g3_2 kd_15, p3_2 kd_15, ob2 kd_16, g2_0 kd_16, g2_1 kd_16, g2_2 kd_16, g2_3 kd_16, g2_4 kd_16, p2_4 kd_16, r18, if_neg hne, e1]
        rw [raise_eq F kd_17 (by omega), s17, hmx _ _ b0 b1, hS2]
        simp only [Option.bind_some, Nat.reduceAdd, ob8 kd_0, g8_0 kd_0, g8_1 kd_0, g8_2 kd_0, g8_3 kd_0, g8_4 kd_0, g8_5 kd_0, g8_6 kd_0, g8_7 kd_0, g8_8 kd_0, g8_9 kd_0, p8_5 kd_0, p8_9 kd_0, ob3 kd_15, g3_0 kd_15, g3_1 kd_15, g3_2 kd_15, p3_2 kd_15, ob2 kd_16, g2_0 kd_16, g2_1 kd_16, g2_2 kd_16, g2_3 kd_16, g2_4 kd_16, p2_4 kd_16]
        rw [wa (by rfl) (by decide) (by rw [kd_18]; show s < 9; omega), Option.bind_some]
        exact congrArg (fun z => some (nI (μ 1 s), hp z)) hS2b
      · show fX10_wills F (hp S2b) 209 (nI s) = _
        unfold fX10_wills fX10_wills_b62
        have q18 : o_aI (hp S2b) 219 0 (nI (10 + s)) = some (nI (μ 1 s)) := by rw [ra (by rfl) (by decide) (by rw [kd_219]; show 10 + s < 34; omega), m2.1.2.2.1 s hs]
        have q17 : o_aI (hp S3) 219 0 (nI (1 + s)) = some (nI (μ 0 s)) := by rw [ra (by rfl) (by decide) (by rw [kd_219]; show 1 + s < 34; omega), s219]
        have w17 : ∀ v : Int32, o_sI (hp S3) 219 0 (nI (1 + s)) v = some (hp (stI S3 219 (upd (S3.1 219) (1 + s) v))) := fun v => wa (by rfl) (by decide) (by rw [kd_219]; show 1 + s < 34; omega)
        have w18 : ∀ (X : ST) (v : Int32), o_sI (hp X) 219 0 (nI (10 + s)) v = some (hp (stI X 219 (upd (X.1 219) (10 + s) v))) := fun X v => wa (by rfl) (by decide) (by rw [kd_219]; show 10 + s < 34; omega)
        simp only [Option.bind_some, Nat.reduceAdd, ob9 kd_209, g9_0 kd_209, g9_1 kd_209, g9_2 kd_209, g9_3 kd_209, g9_4 kd_209, g9_5 kd_209, g9_6 kd_209, g9_7 kd_209, g9_8 kd_209, g9_9 kd_209, g9_10 kd_209, g9_11 kd_209, g9_12 kd_209, g9_13 kd_209, g9_14 kd_209, g9_15 kd_209, g9_16 kd_209, g9_17 kd_209, g9_18 kd_209, g9_19 kd_209, g9_20 kd_209, g9_21 kd_209, g9_22 kd_209, g9_23 kd_209, g9_24 kd_209, g9_25 kd_209, p9_1 kd_209, p9_10 kd_209, p9_11 kd_209, p9_12 kd_209, p9_13 kd_209, p9_14 kd_209, p9_15 kd_209, p9_24 kd_209, p9_25 kd_209, mIsStreet_eq F m1.2.1, if_pos hx, e10, if_false, la10, la1, q18, if_neg hne, e3, q17, w17, w18]
        by_cases hle : μ 1 s ≤ μ 0 s
        · rw [if_pos ((nI_leI (by omega) (by omega)).mpr hle), show nI (μ 0 s) = nI (max (μ 0 s) (μ 1 s)) by rw [Nat.max_eq_left hle], hS4]
          rfl
        · rw [if_neg (fun e => hle ((nI_leI (by omega) (by omega)).mp e))]
          have e5 : stI S3 219 (upd (S3.1 219) (1 + s) (nI (μ 1 s))) = S4 := by
            rw [← hS4, Nat.max_eq_right (by omega)]
          rw [e5]
          rfl
  · refine Ok.of hI ⟨-1, ?_, ?_⟩
    · unfold fX9_wills
      simp only [Option.bind_some, Nat.reduceAdd, ob8 kd_0, g8_0 kd_0, g8_1 kd_0, g8_2 kd_0, g8_3 kd_0, g8_4 kd_0, g8_5 kd_0, g8_6 kd_0, g8_7 kd_0, g8_8 kd_0, g8_9 kd_0, p8_5 kd_0, p8_9 kd_0, isStreet_eq F kt.2.1 h9, if_neg hx, if_true]
    · unfold fX10_wills
      simp only [Option.bind_some, Nat.reduceAdd, ob9 kd_209, g9_0 kd_209, g9_1 kd_209, g9_2 kd_209, g9_3 kd_209, g9_4 kd_209, g9_5 kd_209, g9_6 kd_209, g9_7 kd_209, g9_8 kd_209, g9_9 kd_209, g9_10 kd_209, g9_11 kd_209, g9_12 kd_209, g9_13 kd_209, g9_14 kd_209, g9_15 kd_209, g9_16 kd_209, g9_17 kd_209, g9_18 kd_209, g9_19 kd_209, g9_20 kd_209, g9_21 kd_209, g9_22 kd_209, g9_23 kd_209, g9_24 kd_209, g9_25 kd_209, p9_1 kd_209, p9_10 kd_209, p9_11 kd_209, p9_12 kd_209, p9_13 kd_209, p9_14 kd_209, p9_15 kd_209, p9_24 kd_209, p9_25 kd_209, mIsStreet_eq F mt0.2.1, if_neg hx, if_true]

theorem c_undo (F : Nat) (hF : 4000 ≤ F) {S : ST} (h : Inv S) : Ok S (fun L => fX9_undo F L 0) (fun L => fX10_undo F L 209) := by
  have hI := h
  obtain ⟨Y, n, c, on, ot, wn, μ, k, ms, T, tx, f, mw, mn, kp, im, ik, ims, htw, hwa, hk, hm, htr⟩ := h
  have h9 := htw.2.1
  have h6 := htw.2.2.1
  have kn := hk.2.1
  by_cases h0 : k = 0
  · subst h0
    have e0 : S.2.1 15 2 = 0 := kn.2.1
    have e1 : S.1 220 0 = 0 := hm.2.1.2.1
    refine Ok.of hI ⟨-2, ?_, ?_⟩
    · unfold fX9_undo
      simp only [Option.bind_some, Nat.reduceAdd, ob8 kd_0, g8_0 kd_0, g8_1 kd_0, g8_2 kd_0, g8_3 kd_0, g8_4 kd_0, g8_5 kd_0, g8_6 kd_0, g8_7 kd_0, g8_8 kd_0, g8_9 kd_0, p8_5 kd_0, p8_9 kd_0, ob3 kd_15, g3_0 kd_15, g3_1 kd_15, g3_2 kd_15, p3_2 kd_15, e0, if_true]
    · unfold fX10_undo
      simp only [Option.bind_some, Nat.reduceAdd, ob9 kd_209, g9_0 kd_209, g9_1 kd_209, g9_2 kd_209, g9_3 kd_209, g9_4 kd_209, g9_5 kd_209, g9_6 kd_209, g9_7 kd_209, g9_8 kd_209, g9_9 kd_209, g9_10 kd_209, g9_11 kd_209, g9_12 kd_209, g9_13 kd_209, g9_14 kd_209, g9_15 kd_209, g9_16 kd_209, g9_17 kd_209, g9_18 kd_209, g9_19 kd_209, g9_20 kd_209, g9_21 kd_209, g9_22 kd_209, g9_23 kd_209, g9_24 kd_209, g9_25 kd_209, p9_1 kd_209, p9_10 kd_209, p9_11 kd_209, p9_12 kd_209, p9_13 kd_209, p9_14 kd_209, p9_15 kd_209, p9_24 kd_209, p9_25 kd_209, m220_0, e1, if_true]
  · obtain ⟨k, rfl⟩ : ∃ m, k = m + 1 := ⟨k - 1, by omega⟩
    have hk10 := kn.2.2.1
    obtain ⟨S1, e1, f1, n1⟩ := recall_eq F IsN_15 h9 h6 kn
    obtain ⟨m1, m2, m3, m4, m5⟩ := M_fr hm f1 (by omega)
    obtain ⟨S2, e2, f2, n2, g2⟩ := undo_eq F hF h9 h6 m2
    have hne : ¬ nI (k + 1) = (0 : Int32) := nI_ne0 (by omega) (by omega)
    refine ⟨nI k, S1, S2, ?_, e2, ?_⟩
    · show fX9_undo F (hp S) 0 = _
      unfold fX9_undo
      simp only [Option.bind_some, Nat.reduceAdd, ob8 kd_0, g8_0 kd_0, g8_1 kd_0, g8_2 kd_0, g8_3 kd_0, g8_4 kd_0, g8_5 kd_0, g8_6 kd_0, g8_7 kd_0, g8_8 kd_0, g8_9 kd_0, p8_5 kd_0, p8_9 kd_0, ob3 kd_15, g3_0 kd_15, g3_1 kd_15, g3_2 kd_15, p3_2 kd_15, kn.2.1, if_neg hne, e1, n1.2.1]
    · obtain ⟨kt, -, kx, kf, ki⟩ := hk
      obtain ⟨w1, w2, w3, w4, w5⟩ := hwa
      refine ⟨Y, n, c, on, ot, wn, ms k, k, ms, T, tx, f, mw, mn, kp, im, ik, ims, htw, ⟨w2 k (by omega), fun i hi => w2 i (by omega), w3, w4, w5⟩, ⟨(kt.fr f1 (by omega)).fr f2 (by omega), n1.fr f2 (by omega), (kx.fr f1 (by omega)).fr f2 (by omega), (kf.fr f1 (by omega)).fr f2 (by omega), (ki.fr f1 (by omega) (by omega)).fr f2 (by omega) (by omega)⟩, ⟨m1.fr f2 (by omega), n2, m3.fr f2 (by omega), m4.fr f2 (by omega), m5.know h9 h6 (f2.mono (by omega) (by omega)) (fun j hj => by rw [(f2 221 (by omega)).1]) g2⟩, ?_⟩
      rw [(f2 0 (by omega)).2.2.1, (f1 0 (by omega)).2.2.1, (f2 209 (by omega)).2.2.1, (f1 209 (by omega)).2.2.1]
      exact htr
theorem imgR {S : ST} {n c : Nat} {kp : Nat → Bool} {im : Nat → Mo} {ik : Nat → Nat} {ims : Nat → Nat → Mo} (ki : KI S n c kp im ik ims) {j : Nat} (hj : j < 2) : o_aR (hp S) 72 4 (nI j) = some (73 + 57 * j) ∧ (∃ pt, NowR S (73 + 57 * j) pt) ∧ (kp j = true → NowAt S n c (73 + 57 * j) (im j) (ik j) (ims j)) ∧ IsN (73 + 57 * j) := by
  obtain ⟨h1, h2, h3, h4, h5, h6, h7⟩ := ki
  rcases (show j = 0 ∨ j = 1 by omega) with rfl | rfl
  · exact ⟨raR (by rfl) (Or.inr rfl) (by rw [kd_72]; decide) h2, h4, h6, IsN_73⟩
  · exact ⟨raR (by rfl) (Or.inr rfl) (by rw [kd_72]; decide) h3, h5, h7, IsN_130⟩
theorem c_keep (F : Nat) (hF : 4000 ≤ F) {S : ST} (h : Inv S) (x : Int32) : Ok S (fun L => fX9_keep F L 0 x) (fun L => fX10_keep F L 209 x) := by
  have hI := h
  obtain ⟨Y, n, c, on, ot, wn, μ, k, ms, T, tx, f, mw, mn, kp, im, ik, ims, htw, hwa, hk, hm, htr⟩ := h
  have h9 := htw.2.1
  have h6 := htw.2.2.1
  obtain ⟨kt, kn, kx, kf, ki⟩ := hk
  rcases rng0_1 x with ⟨j, j0, j1, rfl, hx⟩ | hx
  · obtain ⟨a1, ⟨pt, a2⟩, a3, a4⟩ := imgR ki (show j < 2 by omega)
    obtain ⟨S1, e1, f1, n1⟩ := nowBecome_eq F hF a4 IsN_15 (by omega) h9 h6 a2 kn
    have k5 : S1.2.1 0 5 = bs 2 kp := by rw [(f1 0 (by omega)).2.1]; exact ki.1
    have f2 : Fr 0 1 S1 (stJ S1 0 5 (bs 2 (fun i => kp i || (i == j)))) := Fr.stJ (by omega) (by omega)
    have e16 : (stJ S1 0 5 (bs 2 (fun i => kp i || (i == j)))).2.1 16 4 = nI (μ 4 0) := by
      rw [stJ_n _ _ (by decide), (f1 16 (by omega)).2.1]; exact kn.1.2.2.2.2
    have hcl : fX9_keep F (hp S) 0 (nI j) = some (nI (μ 4 0), hp (stJ S1 0 5 (bs 2 (fun i => kp i || (i == j))))) := by
      unfold fX9_keep
      simp only [Option.bind_some, Nat.reduceAdd, ob8 kd_0, g8_0 kd_0, g8_1 kd_0, g8_2 kd_0, g8_3 kd_0, g8_4 kd_0, g8_5 kd_0, g8_6 kd_0, g8_7 kd_0, g8_8 kd_0, g8_9 kd_0, p8_5 kd_0, p8_9 kd_0, within_eq, if_pos hx, e10, if_false, a1, e1, k5]
      rw [bs_one (k := 2) (by omega) (by omega), bs_or]
      simp only [Option.bind_some, Nat.reduceAdd, ob3 kd_15, g3_0 kd_15, g3_1 kd_15, g3_2 kd_15, p3_2 kd_15, ob2 kd_16, g2_0 kd_16, g2_1 kd_16, g2_2 kd_16, g2_3 kd_16, g2_4 kd_16, p2_4 kd_16, e16]
    generalize hS2 : stJ S1 0 5 (bs 2 (fun i => kp i || (i == j))) = S2 at f2 hcl
    have f12 : Fr 0 187 S S2 := Fr.tr (f1.mono (by omega) (by omega)) (f2.mono (by omega) (by omega))
    obtain ⟨m1, m2, m3, m4, m5⟩ := M_fr hm f12 (by omega)
    obtain ⟨S3, e3, f3, n3, i3, v1, v2, v3⟩ := keep_eq F hF h9 h6 m2 (show j < 2 by omega)
    refine ⟨nI (μ 4 0), S2, S3, hcl, e3, ?_⟩
    obtain ⟨w1, w2, w3, w4, w5⟩ := hwa
    have agr : ∀ i, i < 2 → i ≠ j → ∀ {im' : Mo} {ik' : Nat} {ims' : Nat → Mo}, NowAt S n c (73 + 57 * i) im' ik' ims' → NowAt S3 n c (73 + 57 * i) im' ik' ims' := by
      intro i hi hij im' ik' ims' hN
      exact ((hN.fr f1 (by omega)).fr f2 (by omega)).fr f3 (by omega)
    have agR : ∀ i, i < 2 → i ≠ j → ∀ {p : Nat → Nat}, NowR S (73 + 57 * i) p → NowR S3 (73 + 57 * i) p := by
      intro i hi hij p hN
      exact ((hN.fr f1 (by omega)).fr f2 (by omega)).fr f3 (by omega)
    have nj : NowAt S3 n c (73 + 57 * j) μ k ms := (n1.fr f2 (by omega)).fr f3 (by omega)
    have nR : ∃ p, NowR S3 (73 + 57 * j) p := by
      obtain ⟨_, _, _, p, q, _⟩ := nj
      exact ⟨p, q⟩
    have all : ∀ i, i < 2 → (∃ p, NowR S3 (73 + 57 * i) p) ∧ ((kp i || (i == j)) = true → NowAt S3 n c (73 + 57 * i) (if i = j then μ else im i) (if i = j then k else ik i) (if i = j then ms else ims i)) := by
      intro i hi
      by_cases hij : i = j
      · subst hij
        refine ⟨nR, fun _ => ?_⟩
        rw [if_pos rfl, if_pos rfl, if_pos rfl]
        exact nj
      · obtain ⟨_, ⟨p, b2⟩, b3, _⟩ := imgR ki hi
        refine ⟨⟨p, agR i hi hij b2⟩, fun hb => ?_⟩
        rw [if_neg hij, if_neg hij, if_neg hij]
        have hb' : kp i = true := by simpa [hij] using hb
        exact agr i hi hij (b3 hb')
    refine ⟨Y, n, c, on, ot, wn, μ, k, ms, T, tx, f, mw, mn, (fun i => kp i || (i == j)), (fun i => if i = j then μ else im i), (fun i => if i = j then k else ik i), (fun i => if i = j then ms else ims i), htw, ⟨w1, w2, w3, w4, fun i hi hb => ?_⟩, ⟨((kt.fr f1 (by omega)).fr f2 (by omega)).fr f3 (by omega), ((kn.fr f1 (by omega)).fr f2 (by omega)).fr f3 (by omega), ((kx.fr f1 (by omega)).fr f2 (by omega)).fr f3 (by omega), ((kf.fr f1 (by omega)).fr f2 (by omega)).fr f3 (by omega), ?_⟩, ⟨m1.fr f3 (by omega), n3, m3.fr f3 (by omega), m4.fr f3 (by omega), ?_⟩, ?_⟩
    · dsimp only at hb ⊢
      by_cases hij : i = j
      · rw [if_pos hij, if_pos hij, if_pos hij]
        exact ⟨w1, w2⟩
      · rw [if_neg hij, if_neg hij, if_neg hij]
        exact w5 i hi (by simpa [hij] using hb)
    · refine ⟨?_, ?_, ?_, (all 0 (by omega)).1, (all 1 (by omega)).1, (all 0 (by omega)).2, (all 1 (by omega)).2⟩
      · rw [(f3 0 (by omega)).2.1, ← hS2]; exact stJ_s _ _ _ _
      · rw [(f3 72 (by omega)).2.2.2, (f2 72 (by omega)).2.2.2, (f1 72 (by omega)).2.2.2]; exact ki.2.1
      · rw [(f3 72 (by omega)).2.2.2, (f2 72 (by omega)).2.2.2, (f1 72 (by omega)).2.2.2]; exact ki.2.2.1
    · refine ⟨fun i hi => ?_, fun i hi hb => ?_⟩
      · dsimp only
        by_cases hij : i = j
        · subst hij
          rw [v1]
          simp
        · rw [v2 i hij, m5.1 i hi]
          simp [hij]
      · dsimp only at hb ⊢
        by_cases hij : i = j
        · subst hij
          rw [if_pos rfl, if_pos rfl, if_pos rfl]
          exact i3
        · rw [if_neg hij, if_neg hij, if_neg hij]
          exact v3 i _ _ _ hi hij (m5.2 i hi (by simpa [hij] using hb))
    · rw [(f3 0 (by omega)).2.2.1, show S2.2.2.1 0 = S1.2.2.1 0 from by rw [← hS2]; rfl, (f1 0 (by omega)).2.2.1, (f3 209 (by omega)).2.2.1, (f2 209 (by omega)).2.2.1, (f1 209 (by omega)).2.2.1]
      exact htr
  · refine Ok.of hI ⟨-1, ?_, ?_⟩
    · unfold fX9_keep
      simp only [Option.bind_some, Nat.reduceAdd, ob8 kd_0, g8_0 kd_0, g8_1 kd_0, g8_2 kd_0, g8_3 kd_0, g8_4 kd_0, g8_5 kd_0, g8_6 kd_0, g8_7 kd_0, g8_8 kd_0, g8_9 kd_0, p8_5 kd_0, p8_9 kd_0, within_eq, if_neg hx, if_true]
    · unfold fX10_keep
      simp only [Option.bind_some, Nat.reduceAdd, ob9 kd_209, g9_0 kd_209, g9_1 kd_209, g9_2 kd_209, g9_3 kd_209, g9_4 kd_209, g9_5 kd_209, g9_6 kd_209, g9_7 kd_209, g9_8 kd_209, g9_9 kd_209, g9_10 kd_209, g9_11 kd_209, g9_12 kd_209, g9_13 kd_209, g9_14 kd_209, g9_15 kd_209, g9_16 kd_209, g9_17 kd_209, g9_18 kd_209, g9_19 kd_209, g9_20 kd_209, g9_21 kd_209, g9_22 kd_209, g9_23 kd_209, g9_24 kd_209, g9_25 kd_209, p9_1 kd_209, p9_10 kd_209, p9_11 kd_209, p9_12 kd_209, p9_13 kd_209, p9_14 kd_209, p9_15 kd_209, p9_24 kd_209, p9_25 kd_209, in_eq, if_neg hx, if_true]
theorem c_back (F : Nat) (hF : 4000 ≤ F) {S : ST} (h : Inv S) (x : Int32) : Ok S (fun L => fX9_back F L 0 x) (fun L => fX10_back F L 209 x) := by
  have hI := h
  obtain ⟨Y, n, c, on, ot, wn, μ, k, ms, T, tx, f, mw, mn, kp, im, ik, ims, htw, hwa, hk, hm, htr⟩ := h
  have h9 := htw.2.1
  have h6 := htw.2.2.1
  obtain ⟨kt, kn, kx, kf, ki⟩ := hk
  rcases rng0_1 x with ⟨j, j0, j1, rfl, hx⟩ | hx
  · have hj2 : j < 2 := by omega
    obtain ⟨a1, ⟨pt, a2⟩, a3, a4⟩ := imgR ki hj2
    cases hkp : kp j with
    | false =>
      have q223 : o_aI (hp S) 223 2 (nI j) = some 0 := by
        rw [ra (by rfl) (by decide) (by rw [kd_223]; show j < 2; omega), hm.2.2.2.2.1 j hj2, hkp]
        rfl
      refine Ok.of hI ⟨-2, ?_, ?_⟩
      · unfold fX9_back
        simp only [Option.bind_some, Nat.reduceAdd, ob8 kd_0, g8_0 kd_0, g8_1 kd_0, g8_2 kd_0, g8_3 kd_0, g8_4 kd_0, g8_5 kd_0, g8_6 kd_0, g8_7 kd_0, g8_8 kd_0, g8_9 kd_0, p8_5 kd_0, p8_9 kd_0, within_eq, if_pos hx, e10, if_false, ki.1, has_eq F _ kp (show 2 ≤ 31 by omega) hj2, hkp]
        rfl
      · unfold fX10_back
        simp only [Option.bind_some, Nat.reduceAdd, ob9 kd_209, g9_0 kd_209, g9_1 kd_209, g9_2 kd_209, g9_3 kd_209, g9_4 kd_209, g9_5 kd_209, g9_6 kd_209, g9_7 kd_209, g9_8 kd_209, g9_9 kd_209, g9_10 kd_209, g9_11 kd_209, g9_12 kd_209, g9_13 kd_209, g9_14 kd_209, g9_15 kd_209, g9_16 kd_209, g9_17 kd_209, g9_18 kd_209, g9_19 kd_209, g9_20 kd_209, g9_21 kd_209, g9_22 kd_209, g9_23 kd_209, g9_24 kd_209, g9_25 kd_209, p9_1 kd_209, p9_10 kd_209, p9_11 kd_209, p9_12 kd_209, p9_13 kd_209, p9_14 kd_209, p9_15 kd_209, p9_24 kd_209, p9_25 kd_209, in_eq, if_pos hx, e10, if_false, q223, if_true]
    | true =>
      obtain ⟨pt0, hr0⟩ : ∃ p, NowR S 15 p := by
        obtain ⟨_, _, _, p, q, _⟩ := kn
        exact ⟨p, q⟩
      obtain ⟨S1, e1, f1, n1⟩ := nowBecome_eq F hF IsN_15 a4 (by omega) h9 h6 hr0 (a3 hkp)
      have e16 : S1.2.1 16 4 = nI (im j 4 0) := n1.1.2.2.2.2
      have hcl : fX9_back F (hp S) 0 (nI j) = some (nI (im j 4 0), hp S1) := by
        unfold fX9_back
        simp only [Option.bind_some, Nat.reduceAdd, ob8 kd_0, g8_0 kd_0, g8_1 kd_0, g8_2 kd_0, g8_3 kd_0, g8_4 kd_0, g8_5 kd_0, g8_6 kd_0, g8_7 kd_0, g8_8 kd_0, g8_9 kd_0, p8_5 kd_0, p8_9 kd_0, within_eq, if_pos hx, e10, if_false, ki.1, has_eq F _ kp (show 2 ≤ 31 by omega) hj2, hkp, if_true, a1, e1, ob3 kd_15, g3_0 kd_15, g3_1 kd_15, g3_2 kd_15, p3_2 kd_15, ob2 kd_16, g2_0 kd_16, g2_1 kd_16, g2_2 kd_16, g2_3 kd_16, g2_4 kd_16, p2_4 kd_16, e16]
      obtain ⟨m1, m2, m3, m4, m5⟩ := M_fr hm f1 (by omega)
      have k223 : S1.1 223 j = nI 1 := by rw [m5.1 j hj2, hkp]; rfl
      obtain ⟨S2, e2, f2, n2, g2⟩ := back_eq F hF h9 h6 (m5.2 j hj2 hkp) hj2 k223
      refine ⟨nI (im j 4 0), S1, S2, hcl, e2, ?_⟩
      obtain ⟨w1, w2, w3, w4, w5⟩ := hwa
      obtain ⟨u1, u2⟩ := w5 j hj2 hkp
      refine ⟨Y, n, c, on, ot, wn, im j, ik j, ims j, T, tx, f, mw, mn, kp, im, ik, ims, htw, ⟨u1, u2, w3, w4, w5⟩, ⟨(kt.fr f1 (by omega)).fr f2 (by omega), n1.fr f2 (by omega), (kx.fr f1 (by omega)).fr f2 (by omega), (kf.fr f1 (by omega)).fr f2 (by omega), (ki.fr f1 (by omega) (by omega)).fr f2 (by omega) (by omega)⟩, ⟨m1.fr f2 (by omega), n2, m3.fr f2 (by omega), m4.fr f2 (by omega), ⟨fun i hi => by rw [(f2 223 (by omega)).1]; exact m5.1 i hi, fun i hi hb => g2 i _ _ _ hi (m5.2 i hi hb)⟩⟩, ?_⟩
      rw [(f2 0 (by omega)).2.2.1, (f1 0 (by omega)).2.2.1, (f2 209 (by omega)).2.2.1, (f1 209 (by omega)).2.2.1]
      exact htr
  · refine Ok.of hI ⟨-1, ?_, ?_⟩
    · unfold fX9_back
      simp only [Option.bind_some, Nat.reduceAdd, ob8 kd_0, g8_0 kd_0, g8_1 kd_0, g8_2 kd_0, g8_3 kd_0, g8_4 kd_0, g8_5 kd_0, g8_6 kd_0, g8_7 kd_0, g8_8 kd_0, g8_9 kd_0, p8_5 kd_0, p8_9 kd_0, within_eq, if_neg hx, if_true]
    · unfold fX10_back
      simp only [Option.bind_some, Nat.reduceAdd, ob9 kd_209, g9_0 kd_209, g9_1 kd_209, g9_2 kd_209, g9_3 kd_209, g9_4 kd_209, g9_5 kd_209, g9_6 kd_209, g9_7 kd_209, g9_8 kd_209, g9_9 kd_209, g9_10 kd_209, g9_11 kd_209, g9_12 kd_209, g9_13 kd_209, g9_14 kd_209, g9_15 kd_209, g9_16 kd_209, g9_17 kd_209, g9_18 kd_209, g9_19 kd_209, g9_20 kd_209, g9_21 kd_209, g9_22 kd_209, g9_23 kd_209, g9_24 kd_209, g9_25 kd_209, p9_1 kd_209, p9_10 kd_209, p9_11 kd_209, p9_12 kd_209, p9_13 kd_209, p9_14 kd_209, p9_15 kd_209, p9_24 kd_209, p9_25 kd_209, in_eq, if_neg hx, if_true]

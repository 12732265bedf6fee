theorem max_nI {a b : Nat} (ha : a ≤ 9) (hb : b ≤ 9) : (if nI a < nI b then nI b else nI a) = nI (max a b) := by
  by_cases h : a < b
  · rw [if_pos ((nI_ltI (by omega) (by omega)).mpr h), Nat.max_eq_right (by omega)]
  · rw [if_neg (fun e => h ((nI_ltI (by omega) (by omega)).mp e)), Nat.max_eq_left (by omega)]
theorem mu_le {n c : Nat} {μ : Mo} (h : WM n c μ) {s f : Nat} (hs : s < n) (hf : f < 3) : μ f s ≤ 9 := by
  obtain ⟨a, b, d⟩ := h.1 s hs
  rcases (show f = 0 ∨ f = 1 ∨ f = 2 by omega) with rfl | rfl | rfl <;> assumption
theorem md_b94 (F : Nat) {S : ST} {n c f s j : Nat} {μ : Mo} (hm : MM S n c μ) (wm : WM n c μ) (h9 : n ≤ 9) (h6 : c ≤ 6) (hf : f < 3) (hs : s < n) (hj : j ≤ 9) (o : Int32) (ho : o = nI (offM f)) : ∃ S', fX10_does_b94 F 209 (nI j) (nI s) o (hp S) = some (nI (wd (muS μ f s (max (μ f s) j)) s), hp S') ∧ Fr 219 220 S S' ∧ MM S' n c (muS μ f s (max (μ f s) j)) := by
  subst ho
  have hle := mu_le wm hs hf
  have o1 : offM f + s < 34 := by
    rcases (show f = 0 ∨ f = 1 ∨ f = 2 by omega) with rfl | rfl | rfl
    · show 1 + s < 34; omega
    · show 10 + s < 34; omega
    · show 19 + s < 34; omega
  have rd : S.1 219 (offM f + s) = nI (μ f s) := by
    rcases (show f = 0 ∨ f = 1 ∨ f = 2 by omega) with rfl | rfl | rfl
    · exact hm.2.1 s hs
    · exact hm.2.2.1 s hs
    · exact hm.2.2.2.1 s hs
  have wm' : WM n c (muS μ f s (max (μ f s) j)) := wm.set (by omega) (by omega) (by omega)
  unfold fX10_does_b94 fX10_does_b119
  simp only [Option.bind_some, Nat.reduceAdd, ob9 kd_209, g9_0 kd_209, g9_1 kd_209, g9_2 kd_209, g9_3 kd_209, g9_4 kd_209, g9_5 kd_209, g9_6 kd_209, g9_7 kd_209, g9_8 kd_209, g9_9 kd_209, g9_10 kd_209, g9_11 kd_209, g9_12 kd_209, g9_13 kd_209, g9_14 kd_209, g9_15 kd_209, g9_16 kd_209, g9_17 kd_209, g9_18 kd_209, g9_19 kd_209, g9_20 kd_209, g9_21 kd_209, g9_22 kd_209, g9_23 kd_209, g9_24 kd_209, g9_25 kd_209, p9_1 kd_209, p9_10 kd_209, p9_11 kd_209, p9_12 kd_209, p9_13 kd_209, p9_14 kd_209, p9_15 kd_209, p9_24 kd_209, p9_25 kd_209, nI_add]
  rw [ra (by rfl) (by decide) (by rw [kd_219]; exact o1)]
  simp only [Option.bind_some, Nat.reduceAdd]
  rw [rd]
  by_cases h : j ≤ μ f s
  · have hid : muS μ f s (max (μ f s) j) = μ := muS_id (Nat.max_eq_left h)
    rw [if_pos ((nI_leI (by omega) (by omega)).mpr h), hid, mWidthOf_eq F hm wm h9 hs]
    exact ⟨S, rfl, Fr.rf, hm⟩
  · rw [if_neg (fun e => h ((nI_leI (by omega) (by omega)).mp e)), wa (by rfl) (by decide) (by rw [kd_219]; exact o1), Option.bind_some, Nat.max_eq_right (by omega)]
    have hm2 := mmSet hm h9 h6 f (by omega) s j (by omega)
    rw [Nat.max_eq_right (by omega)] at wm'
    rw [mWidthOf_eq F hm2 wm' h9 hs]
    exact ⟨_, rfl, Fr.stI (by omega) (by omega), hm2⟩
/-- the deed's moment -/
def mu_does (μ : Mo) (N i s j : Nat) : Mo := if 2 ≤ N then (if i = 0 then muS μ 0 s (max (μ 0 s) j) else muS μ 2 s (max (μ 2 s) j)) else (if i = 0 then muS μ 1 s (max (μ 1 s) j) else μ)
theorem WM.does {n c : Nat} {μ : Mo} (wm : WM n c μ) (N i : Nat) {s j : Nat} (hs : s < n) (hj : j ≤ 9) : WM n c (mu_does μ N i s j) := by
  have h0 := mu_le wm hs (f := 0) (by omega)
  have h1 := mu_le wm hs (f := 1) (by omega)
  have h2 := mu_le wm hs (f := 2) (by omega)
  unfold mu_does
  split <;> split
  · exact wm.set (by omega) (by omega) (by omega)
  · exact wm.set (by omega) (by omega) (by omega)
  · exact wm.set (by omega) (by omega) (by omega)
  · exact wm
theorem does_b59 (F : Nat) {S : ST} {p j s : Int32} {P : Nat → Bool} (hw : fX9_witnessesOf F (hp S) 0 p = some (bs 6 P, hp S)) (y0 : Int32) : fX9_does_b59 F 0 p j s y0 (hp S) = if cnt 6 P < 2 then (if y0 = 0 then fX9_does_b131 F 0 s (hp S) else (fX9_raise F (hp S) 18 s j).bind fun z24 => fX9_does_b131 F 0 s z24) else (if y0 = 0 then (fX9_raise F (hp S) 19 s j).bind fun z29 => fX9_does_b131 F 0 s z29 else (fX9_raise F (hp S) 17 s j).bind fun z29 => fX9_does_b131 F 0 s z29) := by
  have hN := cnt_le 6 P
  unfold fX9_does_b59 fX9_does_b101
  rw [hw, Option.bind_some]
  have hb := bc_eq F (hp S) P (show 6 ≤ 9 by omega)
  generalize fJ6_bitCount_0f7a4 F = bc at hb ⊢
  rw [hb, Option.bind_some]
  have h2 : (nI (cnt 6 P) < (2 : Int32)) = (cnt 6 P < 2) := propext (nI_ltI (a := cnt 6 P) (b := 2) (by omega) (by decide))
  simp only [h2, Option.bind_some, Nat.reduceAdd, ob8 kd_0, g8_0 kd_0, g8_1 kd_0, g8_2 kd_0, g8_3 kd_0, g8_4 kd_0, g8_5 kd_0, g8_6 kd_0, g8_7 kd_0, g8_8 kd_0, g8_9 kd_0, p8_5 kd_0, p8_9 kd_0, ob3 kd_15, g3_0 kd_15, g3_1 kd_15, g3_2 kd_15, p3_2 kd_15, ob2 kd_16, g2_0 kd_16, g2_1 kd_16, g2_2 kd_16, g2_3 kd_16, g2_4 kd_16, p2_4 kd_16]
theorem c_does (F : Nat) (hF : 4000 ≤ F) {S : ST} (h : Inv S) (x y z : Int32) : Ok S (fun L => fX9_does F L 0 x y z) (fun L => fX10_does F L 209 x y z) := by
  have hI := h
  obtain ⟨Y, n, c, on, ot, wn, μ, k, ms, T, tx, f, mw, mn, kp, im, ik, ims, htw, hwa, hk, hm, htr⟩ := h
  have h9 := htw.2.1
  have h6 := htw.2.2.1
  have kt := hk.1
  have kn := hk.2.1
  have mt0 := hm.1
  have mm := hm.2.1.1
  have wm := hwa.1
  rcases rowc x (show c < 2 ^ 30 by omega) with ⟨p, hp', rfl, hx⟩ | hx
  · rcases rng1_9 y with ⟨j, j1, j2, rfl, hy⟩ | hy
    · rcases rng0_1 z with ⟨i, i1, i2, rfl, hz⟩ | hz
      · have hhp := wm.2.1 p hp'
        obtain ⟨S1, e1, f1, n1⟩ := remember_eq F hF IsN_15 h9 h6 kn
        have kt1 := kt.fr f1 (by omega)
        have r20 : o_aI (hp S1) 20 0 (nI p) = some (nI (μ 3 p)) := by rw [ra (by rfl) (by decide) (by rw [kd_20]; show p < 6; omega)]; exact congrArg some (n1.1.2.2.2.1 p hp')
        have hwit := witnessesOf_eq F hF kt1 htw n1.1 wm hp'
        generalize hP : (fun o => decide (o < c) && (!(o == p) && mt on ot (μ 3 p) (μ 3 o))) = P at hwit
        have hN := cnt_le 6 P
        generalize hs : μ 3 p = s at *
        have l0 := mu_le wm hhp (f := 0) (by omega)
        have l1 := mu_le wm hhp (f := 1) (by omega)
        have l2 := mu_le wm hhp (f := 2) (by omega)
        have wm' := wm.does (cnt 6 P) i hhp j2
        have hsmall : ∀ N : Nat, N ≤ 6 → (nI N < (2 : Int32) ↔ N < 2) := fun N hN => (nI_ltI (a := N) (b := 2) (by omega) (by decide))
        -- the class
        have hcl : ∃ S2, fX9_does F (hp S) 0 (nI p) (nI j) (nI i) = some (nI (wd (mu_does μ (cnt 6 P) i s j) s), hp S2) ∧ Fr 15 72 S S2 ∧ NowAt S2 n c 15 (mu_does μ (cnt 6 P) i s j) (remK k) (remM k ms μ) := by
          have ra1 : ∀ (g q : Nat), g < 3 → q = 17 + g → kd q = (0, 9) → ∃ S2, fX9_raise F (hp S1) q (nI s) (nI j) = some (hp S2) ∧ Fr 16 21 S1 S2 ∧ NowAt S2 n c 15 (muS μ g s (max (μ g s) j)) (remK k) (remM k ms μ) := by
            intro g q hg hq hkd
            have hr : S1.1 q s = nI (μ g s) := by
              subst hq
              rcases (show g = 0 ∨ g = 1 ∨ g = 2 by omega) with rfl | rfl | rfl
              · exact n1.1.1 s hhp
              · exact n1.1.2.1 s hhp
              · exact n1.1.2.2.1 s hhp
            have hle := mu_le wm hhp hg
            refine ⟨stI S1 q (upd (S1.1 q) s (nI (max (μ g s) j))), ?_, Fr.stI (by omega) (by omega), ?_⟩
            · rw [raise_eq F hkd (by omega), hr, max_nI hle j2]
            · subst hq
              exact n1.set (Fr.stI (by omega) (by omega)) (momSet n1.1 g (by omega) s _)
          have fin : ∀ (S2 : ST) (ν : Mo), WM n c ν → NowAt S2 n c 15 ν (remK k) (remM k ms μ) → fX9_does_b131 F 0 (nI s) (hp S2) = some (nI (wd ν s), hp S2) := by
            intro S2 ν hν h2
            unfold fX9_does_b131
            simp only [Option.bind_some, Nat.reduceAdd, ob8 kd_0, g8_0 kd_0, g8_1 kd_0, g8_2 kd_0, g8_3 kd_0, g8_4 kd_0, g8_5 kd_0, g8_6 kd_0, g8_7 kd_0, g8_8 kd_0, g8_9 kd_0, p8_5 kd_0, p8_9 kd_0, ob3 kd_15, g3_0 kd_15, g3_1 kd_15, g3_2 kd_15, p3_2 kd_15, widthOf_mu F IsM_16 h2.1 hν h9 hhp]
          unfold fX9_does
          simp only [Option.bind_some, Nat.reduceAdd, ob8 kd_0, g8_0 kd_0, g8_1 kd_0, g8_2 kd_0, g8_3 kd_0, g8_4 kd_0, g8_5 kd_0, g8_6 kd_0, g8_7 kd_0, g8_8 kd_0, g8_9 kd_0, p8_5 kd_0, p8_9 kd_0, isCitizen_eq F kt.2.2.1, within_eq, if_pos hx, if_pos hy, if_pos hz, e10, if_false, e1, ob3 kd_15, g3_0 kd_15, g3_1 kd_15, g3_2 kd_15, p3_2 kd_15, ob2 kd_16, g2_0 kd_16, g2_1 kd_16, g2_2 kd_16, g2_3 kd_16, g2_4 kd_16, p2_4 kd_16, r20]
          rw [does_b59 F hwit 1, does_b59 F hwit 0]
          simp only [if_true, e10, if_false]
          by_cases hi : i = 0
          · rw [if_pos (show nI i = (0 : Int32) by rw [hi]; rfl)]
            by_cases h2 : cnt 6 P < 2
            · obtain ⟨S2, a1, a2, a3⟩ := ra1 1 18 (by omega) rfl kd_18
              have em : mu_does μ (cnt 6 P) i s j = muS μ 1 s (max (μ 1 s) j) := by unfold mu_does; rw [if_neg (by omega), if_pos hi]
              rw [em] at wm' ⊢
              rw [if_pos h2, a1, Option.bind_some, fin S2 _ wm' a3]
              exact ⟨S2, rfl, Fr.tr f1 (a2.mono (by omega) (by omega)), a3⟩
            · obtain ⟨S2, a1, a2, a3⟩ := ra1 0 17 (by omega) rfl kd_17
              have em : mu_does μ (cnt 6 P) i s j = muS μ 0 s (max (μ 0 s) j) := by unfold mu_does; rw [if_pos (by omega), if_pos hi]
              rw [em] at wm' ⊢
              rw [if_neg h2, a1, Option.bind_some, fin S2 _ wm' a3]
              exact ⟨S2, rfl, Fr.tr f1 (a2.mono (by omega) (by omega)), a3⟩
          · rw [if_neg (show ¬ nI i = (0 : Int32) from nI_ne0 (by omega) (by omega))]
            by_cases h2 : cnt 6 P < 2
            · have em : mu_does μ (cnt 6 P) i s j = μ := by unfold mu_does; rw [if_neg (by omega), if_neg hi]
              rw [em, if_pos h2, fin S1 _ wm n1]
              exact ⟨S1, rfl, f1, n1⟩
            · obtain ⟨S2, a1, a2, a3⟩ := ra1 2 19 (by omega) rfl kd_19
              have em : mu_does μ (cnt 6 P) i s j = muS μ 2 s (max (μ 2 s) j) := by unfold mu_does; rw [if_pos (by omega), if_neg hi]
              rw [em] at wm' ⊢
              rw [if_neg h2, a1, Option.bind_some, fin S2 _ wm' a3]
              exact ⟨S2, rfl, Fr.tr f1 (a2.mono (by omega) (by omega)), a3⟩
        obtain ⟨S2, c1, f12, n2⟩ := hcl
        obtain ⟨m1, m2, m3, m4, m5⟩ := M_fr hm f12 (by omega)
        obtain ⟨S3, e3, f3, n3, g1, g2⟩ := know_eq F hF h9 h6 m2
        have mt3 := m1.fr f3 (by omega)
        have hmd : ∃ S4, fX10_does F (hp S2) 209 (nI p) (nI j) (nI i) = some (nI (wd (mu_does μ (cnt 6 P) i s j) s), hp S4) ∧ Fr 219 220 S3 S4 ∧ MM S4 n c (mu_does μ (cnt 6 P) i s j) := by
          have q20 : o_aI (hp S3) 219 0 (nI (28 + p)) = some (nI s) := by rw [ra (by rfl) (by decide) (by rw [kd_219]; show 28 + p < 34; omega), n3.1.2.2.2.2 p hp', hs]
          have hwm2 := mWitnesses_eq F hF mt3 htw n3.1 wm hp'
          rw [hs, hP] at hwm2
          unfold fX10_does
          simp only [Option.bind_some, Nat.reduceAdd, ob9 kd_209, g9_0 kd_209, g9_1 kd_209, g9_2 kd_209, g9_3 kd_209, g9_4 kd_209, g9_5 kd_209, g9_6 kd_209, g9_7 kd_209, g9_8 kd_209, g9_9 kd_209, g9_10 kd_209, g9_11 kd_209, g9_12 kd_209, g9_13 kd_209, g9_14 kd_209, g9_15 kd_209, g9_16 kd_209, g9_17 kd_209, g9_18 kd_209, g9_19 kd_209, g9_20 kd_209, g9_21 kd_209, g9_22 kd_209, g9_23 kd_209, g9_24 kd_209, g9_25 kd_209, p9_1 kd_209, p9_10 kd_209, p9_11 kd_209, p9_12 kd_209, p9_13 kd_209, p9_14 kd_209, p9_15 kd_209, p9_24 kd_209, p9_25 kd_209, mIsPerson_eq F m1.2.2.1, in_eq, if_pos hx, if_pos hy, if_pos hz, e10, if_false, e3, la28, q20, hwm2, bitsOf_eq F hF _ P (show 6 ≤ 10 by omega), hsmall _ hN]
          unfold fX10_does_b61 fX10_does_b83
          simp only [e10, if_false, if_true]
          by_cases hi : i = 0
          · have ei : nI i = (0 : Int32) := by rw [hi]; rfl
            simp only [ei, if_true]
            by_cases h2 : cnt 6 P < 2
            · have em : mu_does μ (cnt 6 P) i s j = muS μ 1 s (max (μ 1 s) j) := by unfold mu_does; rw [if_neg (by omega), if_pos hi]
              rw [em, if_pos h2]
              exact md_b94 F n3.1 wm h9 h6 (f := 1) (by omega) hhp j2 10 (by decide)
            · have em : mu_does μ (cnt 6 P) i s j = muS μ 0 s (max (μ 0 s) j) := by unfold mu_does; rw [if_pos (by omega), if_pos hi]
              rw [em, if_neg h2]
              exact md_b94 F n3.1 wm h9 h6 (f := 0) (by omega) hhp j2 1 (by decide)
          · have ei : ¬ nI i = (0 : Int32) := nI_ne0 (by omega) (by omega)
            simp only [ei, if_false]
            by_cases h2 : cnt 6 P < 2
            · have em : mu_does μ (cnt 6 P) i s j = μ := by unfold mu_does; rw [if_neg (by omega), if_neg hi]
              rw [em, if_pos h2]
              unfold fX10_does_b119
              rw [mWidthOf_eq F n3.1 wm h9 hhp]
              exact ⟨S3, rfl, Fr.rf, n3.1⟩
            · have em : mu_does μ (cnt 6 P) i s j = muS μ 2 s (max (μ 2 s) j) := by unfold mu_does; rw [if_pos (by omega), if_neg hi]
              rw [em, if_neg h2]
              exact md_b94 F n3.1 wm h9 h6 (f := 2) (by omega) hhp j2 19 (by decide)
        obtain ⟨S4, c2, f4, n4⟩ := hmd
        exact ⟨_, S2, S4, c1, c2, Inv.step htw hwa hk hm htr wm' f12 n2 (Fr.tr (f3.mono (by omega) (by omega)) (f4.mono (by omega) (by omega))) (n3.set f4 n4) (fun j hj => by rw [(f4 221 (by omega)).1]; exact g1 j hj) (fun j hj => by rw [(f4 220 (by omega)).1]; exact g2 j hj)⟩
      · refine Ok.of hI ⟨-1, ?_, ?_⟩
        · unfold fX9_does fX9_does_b27
          simp only [Option.bind_some, Nat.reduceAdd, ob8 kd_0, g8_0 kd_0, g8_1 kd_0, g8_2 kd_0, g8_3 kd_0, g8_4 kd_0, g8_5 kd_0, g8_6 kd_0, g8_7 kd_0, g8_8 kd_0, g8_9 kd_0, p8_5 kd_0, p8_9 kd_0, isCitizen_eq F kt.2.2.1, within_eq, if_pos hx, if_pos hy, if_neg hz, e10, if_false, if_true]
        · unfold fX10_does fX10_does_b27
          simp only [Option.bind_some, Nat.reduceAdd, ob9 kd_209, g9_0 kd_209, g9_1 kd_209, g9_2 kd_209, g9_3 kd_209, g9_4 kd_209, g9_5 kd_209, g9_6 kd_209, g9_7 kd_209, g9_8 kd_209, g9_9 kd_209, g9_10 kd_209, g9_11 kd_209, g9_12 kd_209, g9_13 kd_209, g9_14 kd_209, g9_15 kd_209, g9_16 kd_209, g9_17 kd_209, g9_18 kd_209, g9_19 kd_209, g9_20 kd_209, g9_21 kd_209, g9_22 kd_209, g9_23 kd_209, g9_24 kd_209, g9_25 kd_209, p9_1 kd_209, p9_10 kd_209, p9_11 kd_209, p9_12 kd_209, p9_13 kd_209, p9_14 kd_209, p9_15 kd_209, p9_24 kd_209, p9_25 kd_209, mIsPerson_eq F mt0.2.2.1, in_eq, if_pos hx, if_pos hy, if_neg hz, e10, if_false, if_true]
    · refine Ok.of hI ⟨-1, ?_, ?_⟩
      · unfold fX9_does fX9_does_b27
        simp only [Option.bind_some, Nat.reduceAdd, ob8 kd_0, g8_0 kd_0, g8_1 kd_0, g8_2 kd_0, g8_3 kd_0, g8_4 kd_0, g8_5 kd_0, g8_6 kd_0, g8_7 kd_0, g8_8 kd_0, g8_9 kd_0, p8_5 kd_0, p8_9 kd_0, isCitizen_eq F kt.2.2.1, within_eq, if_pos hx, if_neg hy, e10, if_false, if_true]
      · unfold fX10_does fX10_does_b27
        simp only [Option.bind_some, Nat.reduceAdd, ob9 kd_209, g9_0 kd_209, g9_1 kd_209, g9_2 kd_209, g9_3 kd_209, g9_4 kd_209, g9_5 kd_209, g9_6 kd_209, g9_7 kd_209, g9_8 kd_209, g9_9 kd_209, g9_10 kd_209, g9_11 kd_209, g9_12 kd_209, g9_13 kd_209, g9_14 kd_209, g9_15 kd_209, g9_16 kd_209, g9_17 kd_209, g9_18 kd_209, g9_19 kd_209, g9_20 kd_209, g9_21 kd_209, g9_22 kd_209, g9_23 kd_209, g9_24 kd_209, g9_25 kd_209, p9_1 kd_209, p9_10 kd_209, p9_11 kd_209, p9_12 kd_209, p9_13 kd_209, p9_14 kd_209, p9_15 kd_209, p9_24 kd_209, p9_25 kd_209, mIsPerson_eq F mt0.2.2.1, in_eq, if_pos hx, if_neg hy, e10, if_false, if_true]
  · refine Ok.of hI ⟨-1, ?_, ?_⟩
    · unfold fX9_does fX9_does_b27
      simp only [Option.bind_some, Nat.reduceAdd, ob8 kd_0, g8_0 kd_0, g8_1 kd_0, g8_2 kd_0, g8_3 kd_0, g8_4 kd_0, g8_5 kd_0, g8_6 kd_0, g8_7 kd_0, g8_8 kd_0, g8_9 kd_0, p8_5 kd_0, p8_9 kd_0, isCitizen_eq F kt.2.2.1, if_neg hx, if_true]
    · unfold fX10_does fX10_does_b27
      simp only [Option.bind_some, Nat.reduceAdd, ob9 kd_209, g9_0 kd_209, g9_1 kd_209, g9_2 kd_209, g9_3 kd_209, g9_4 kd_209, g9_5 kd_209, g9_6 kd_209, g9_7 kd_209, g9_8 kd_209, g9_9 kd_209, g9_10 kd_209, g9_11 kd_209, g9_12 kd_209, g9_13 kd_209, g9_14 kd_209, g9_15 kd_209, g9_16 kd_209, g9_17 kd_209, g9_18 kd_209, g9_19 kd_209, g9_20 kd_209, g9_21 kd_209, g9_22 kd_209, g9_23 kd_209, g9_24 kd_209, g9_25 kd_209, p9_1 kd_209, p9_10 kd_209, p9_11 kd_209, p9_12 kd_209, p9_13 kd_209, p9_14 kd_209, p9_15 kd_209, p9_24 kd_209, p9_25 kd_209, mIsPerson_eq F mt0.2.2.1, if_neg hx, if_true]

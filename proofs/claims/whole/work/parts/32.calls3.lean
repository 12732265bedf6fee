/-! a number of a moment is changed -/
def muS (μ : Mo) (f s v : Nat) : Mo := fun a b => if a = f ∧ b = s then v else μ a b
theorem muS_s (μ : Mo) (f s v : Nat) : muS μ f s v f s = v := if_pos ⟨rfl, rfl⟩
theorem muS_n (μ : Mo) {f s v a b : Nat} (h : ¬ (a = f ∧ b = s)) : muS μ f s v a b = μ a b := if_neg h
theorem muS_id {μ : Mo} {f s v : Nat} (h : v = μ f s) : muS μ f s v = μ := by
  funext a b
  unfold muS
  by_cases hab : a = f ∧ b = s
  · rw [if_pos hab, h, hab.1, hab.2]
  · rw [if_neg hab]
theorem WM.set {n c : Nat} {μ : Mo} {f s v : Nat} (h : WM n c μ) (h0 : f < 3 → v ≤ 9) (h3 : f = 3 → v < n) (h4 : f = 4 → v ≤ 1) : WM n c (muS μ f s v) := by
  obtain ⟨a, b, d⟩ := h
  refine ⟨fun t ht => ?_, fun p hp => ?_, ?_⟩
  · obtain ⟨x, y, z⟩ := a t ht
    refine ⟨?_, ?_, ?_⟩
    · unfold muS; split
      · exact h0 (by omega)
      · exact x
    · unfold muS; split
      · exact h0 (by omega)
      · exact y
    · unfold muS; split
      · exact h0 (by omega)
      · exact z
  · unfold muS; split
    · exact h3 (by omega)
    · exact b p hp
  · unfold muS; split
    · exact h4 (by omega)
    · exact d
theorem momSet {S : ST} {n c q : Nat} {μ : Mo} (h : MomAt S n c q μ) (f : Nat) (hf : f < 4) (s v : Nat) : MomAt (stI S (q + 1 + f) (upd (S.1 (q + 1 + f)) s (nI v))) n c q (muS μ f s v) := by
  obtain ⟨h1, h2, h3, h4, h5⟩ := h
  have key : ∀ (g t : Nat), g < 4 → S.1 (q + 1 + g) t = nI (μ g t) → (stI S (q + 1 + f) (upd (S.1 (q + 1 + f)) s (nI v))).1 (q + 1 + g) t = nI (muS μ f s v g t) := by
    intro g t hg e
    by_cases hgf : g = f
    · subst hgf
      rw [stI_s, upd_at]
      by_cases ht : t = s
      · rw [if_pos ht, ht, muS_s]
      · rw [if_neg ht, muS_n μ (by omega)]; exact e
    · rw [stI_n _ _ (by omega), muS_n μ (by omega)]; exact e
  exact ⟨fun t ht => key 0 t (by omega) (h1 t ht), fun t ht => key 1 t (by omega) (h2 t ht), fun t ht => key 2 t (by omega) (h3 t ht), fun t ht => key 3 t (by omega) (h4 t ht), by rw [muS_n μ (by omega)]; exact h5⟩
theorem momNight {S : ST} {n c q : Nat} {μ : Mo} (h : MomAt S n c q μ) (v : Nat) : MomAt (stJ S q 4 (nI v)) n c q (muS μ 4 0 v) := by
  obtain ⟨h1, h2, h3, h4, h5⟩ := h
  exact ⟨fun t ht => by rw [muS_n μ (by omega)]; exact h1 t ht, fun t ht => by rw [muS_n μ (by omega)]; exact h2 t ht, fun t ht => by rw [muS_n μ (by omega)]; exact h3 t ht, fun t ht => by rw [muS_n μ (by omega)]; exact h4 t ht, by rw [muS_s]; exact stJ_s _ _ _ _⟩
theorem NowAt.set {S S' : ST} {n c a k : Nat} {μ μ' : Mo} {ms : Nat → Mo} (h : NowAt S n c a μ k ms) (hf : Fr (a + 1) (a + 6) S S') (hm : MomAt S' n c (a + 1) μ') : NowAt S' n c a μ' k ms := by
  obtain ⟨h1, h2, h3, pt, ⟨h4, h5⟩, h6⟩ := h
  refine ⟨hm, by rw [(hf a (by omega)).2.1]; exact h2, h3, pt, ⟨h4, fun i hi => by rw [(hf (a + 6) (by omega)).2.2.2]; exact h5 i hi⟩, fun i hi => (h6 i hi).fr hf (by omega)⟩
def offM (f : Nat) : Nat := if f = 0 then 1 else if f = 1 then 10 else if f = 2 then 19 else if f = 3 then 28 else 0
theorem mmSet {S : ST} {n c : Nat} {μ : Mo} (h : MM S n c μ) (h9 : n ≤ 9) (h6 : c ≤ 6) (f : Nat) (hf : f ≤ 4) (s v : Nat) (hs : (f < 3 → s < 9) ∧ (f = 3 → s < 6) ∧ (f = 4 → s = 0)) : MM (stI S 219 (upd (S.1 219) (offM f + s) (nI v))) n c (muS μ f s v) := by
  obtain ⟨h1, h2, h3, h4, h5⟩ := h
  have o0 : offM 0 = 1 := rfl
  have o1 : offM 1 = 10 := rfl
  have o2 : offM 2 = 19 := rfl
  have o3 : offM 3 = 28 := rfl
  have o4 : offM 4 = 0 := rfl
  have key : ∀ (g t : Nat), g ≤ 4 → ((g < 3 → t < 9) ∧ (g = 3 → t < 6) ∧ (g = 4 → t = 0)) → S.1 219 (offM g + t) = nI (μ g t) → (stI S 219 (upd (S.1 219) (offM f + s) (nI v))).1 219 (offM g + t) = nI (muS μ f s v g t) := by
    intro g t hg hb e
    rw [stI_s, upd_at]
    by_cases hgf : g = f ∧ t = s
    · obtain ⟨rfl, rfl⟩ := hgf
      rw [if_pos rfl, muS_s]
    · rw [if_neg, muS_n μ hgf]
      · exact e
      · intro heq
        apply hgf
        rcases (show g = 0 ∨ g = 1 ∨ g = 2 ∨ g = 3 ∨ g = 4 by omega) with rfl | rfl | rfl | rfl | rfl <;> rcases (show f = 0 ∨ f = 1 ∨ f = 2 ∨ f = 3 ∨ f = 4 by omega) with rfl | rfl | rfl | rfl | rfl <;> simp only [o0, o1, o2, o3, o4] at heq <;> omega
  exact ⟨key 4 0 (by omega) (by omega) h1, fun t ht => key 0 t (by omega) (by omega) (h2 t ht), fun t ht => key 1 t (by omega) (by omega) (h3 t ht), fun t ht => key 2 t (by omega) (by omega) (h4 t ht), fun t ht => key 3 t (by omega) (by omega) (h5 t ht)⟩
theorem MNow.set {S S' : ST} {n c k : Nat} {μ μ' : Mo} {ms : Nat → Mo} (h : MNow S n c μ k ms) (hf : Fr 219 220 S S') (hm : MM S' n c μ') : MNow S' n c μ' k ms := by
  obtain ⟨h1, h2, h3, h4⟩ := h
  exact ⟨hm, by rw [(hf 220 (by omega)).1]; exact h2, h3, fun i hi => (h4 i hi).fr hf (by omega)⟩
theorem WMrem {n c k : Nat} {μ : Mo} {ms : Nat → Mo} (h : WM n c μ) (hs : ∀ i, i < k → WM n c (ms i)) (hk : k ≤ 10) : ∀ i, i < remK k → WM n c (remM k ms μ i) := by
  intro i hi
  unfold remM
  unfold remK at hi
  by_cases h10 : k < 10
  · rw [if_pos h10] at hi ⊢
    by_cases hik : i = k
    · rw [if_pos hik]; exact h
    · rw [if_neg hik]; exact hs i (by omega)
  · rw [if_neg h10] at hi ⊢
    by_cases hik : i = 9
    · rw [if_pos hik]; exact h
    · rw [if_neg hik]; exact hs (i + 1) (by omega)
theorem MI.know {S S' : ST} {n c : Nat} {kp : Nat → Bool} {im : Nat → Mo} {ik : Nat → Nat} {ims : Nat → Nat → Mo} (h : MI S n c kp im ik ims) (h9 : n ≤ 9) (h6 : c ≤ 6) (hf : Fr 219 222 S S') (h1 : ∀ j, 340 ≤ j → S'.1 221 j = S.1 221 j) (h2 : ∀ j, 1 ≤ j → S'.1 220 j = S.1 220 j) : MI S' n c kp im ik ims := by
  refine ⟨fun i hi => by rw [(hf 223 (by omega)).1]; exact h.1 i hi, fun i hi hk => ?_⟩
  obtain ⟨a1, a2, a3, a4⟩ := h.2 i hi hk
  exact ⟨a1.fr hf (by omega), by rw [h2 _ (by omega)]; exact a2, a3, fun t ht => (a4 t ht).off h9 h6 (fun x hx => h1 _ (by omega))⟩
/-- what comes of a deed, a will, a move, a night: the moment is another, the one ahead of it is known -/
theorem Inv.step {S S1 S2 : ST} {Y n c : Nat} {on ot wn : Nat → Nat} {μ μ' : Mo} {k : Nat} {ms : Nat → Mo} {T : Nat} {tx : Nat → Nat} {f : Nat} {mw mn : Nat → Nat} {kp : Nat → Bool} {im : Nat → Mo} {ik : Nat → Nat} {ims : Nat → Nat → Mo} (htw : TW Y n c on ot wn) (hwa : WA n c μ k ms T tx f mw mn kp im ik ims) (hk : KT S Y n c on ot wn ∧ NowAt S n c 15 μ k ms ∧ KX S T tx ∧ KF S f mw mn ∧ KI S n c kp im ik ims) (hm : MT S Y n c on ot wn ∧ MNow S n c μ k ms ∧ MX S T tx ∧ MF S f mw mn ∧ MI S n c kp im ik ims) (htr : S.2.2.1 0 = S.2.2.1 209) (hw' : WM n c μ') (f1 : Fr 15 72 S S1) (n1 : NowAt S1 n c 15 μ' (remK k) (remM k ms μ)) (f2 : Fr 219 222 S1 S2) (n2 : MNow S2 n c μ' (remK k) (remM k ms μ)) (g1 : ∀ j, 340 ≤ j → S2.1 221 j = S1.1 221 j) (g2 : ∀ j, 1 ≤ j → S2.1 220 j = S1.1 220 j) : Inv S2 := by
  obtain ⟨kt, kn, kx, kf, ki⟩ := hk
  obtain ⟨w1, w2, w3, w4, w5⟩ := hwa
  obtain ⟨m1, m2, m3, m4, m5⟩ := M_fr hm f1 (by omega)
  have h9 := htw.2.1
  have h6 := htw.2.2.1
  refine ⟨Y, n, c, on, ot, wn, μ', remK k, remM k ms μ, T, tx, f, mw, mn, kp, im, ik, ims, htw, ⟨hw', WMrem w1 w2 kn.2.2.1, w3, w4, w5⟩, ⟨(kt.fr f1 (by omega)).fr f2 (by omega), n1.fr f2 (by omega), (kx.fr f1 (by omega)).fr f2 (by omega), (kf.fr f1 (by omega)).fr f2 (by omega), (ki.fr f1 (by omega) (by omega)).fr f2 (by omega) (by omega)⟩, ⟨m1.fr f2 (by omega), n2, m3.fr f2 (by omega), m4.fr f2 (by omega), m5.know h9 h6 f2 g1 g2⟩, ?_⟩
  rw [(f2 0 (by omega)).2.2.1, (f1 0 (by omega)).2.2.1, (f2 209 (by omega)).2.2.1, (f1 209 (by omega)).2.2.1]
  exact htr
theorem c_moves (F : Nat) (hF : 4000 ≤ F) {S : ST} (h : Inv S) (x y : Int32) : Ok S (fun L => fX9_moves F L 0 x y) (fun L => fX10_moves F L 209 x y) := by
  have hI := h
  obtain ⟨Y, n, c, on, ot, wn, μ, k, ms, T, tx, f, mw, mn, kp, im, ik, ims, htw, hwa, hk, hm, htr⟩ := h
  have h9 := htw.2.1
  have h6 := htw.2.2.1
  have kt := hk.1
  have kn := hk.2.1
  have mt0 := hm.1
  have mm := hm.2.1.1
  have wm := hwa.1
  rcases rowc x (show c < 2 ^ 30 by omega) with ⟨p, hp', rfl, hx⟩ | hx
  · rcases rowc y (show n < 2 ^ 30 by omega) with ⟨s, hs, rfl, hy⟩ | hy
    · have r20 : o_aI (hp S) 20 0 (nI p) = some (nI (μ 3 p)) := by rw [ra (by rfl) (by decide) (by rw [kd_20]; show p < 6; omega)]; exact congrArg some (kn.1.2.2.2.1 p hp')
      have hhp := wm.2.1 p hp'
      by_cases he : μ 3 p = s
      · refine Ok.of hI ⟨-2, ?_, ?_⟩
        · unfold fX9_moves
          simp only [Option.bind_some, Nat.reduceAdd, ob8 kd_0, g8_0 kd_0, g8_1 kd_0, g8_2 kd_0, g8_3 kd_0, g8_4 kd_0, g8_5 kd_0, g8_6 kd_0, g8_7 kd_0, g8_8 kd_0, g8_9 kd_0, p8_5 kd_0, p8_9 kd_0, isCitizen_eq F kt.2.2.1, isStreet_eq F kt.2.1 h9, if_pos hx, if_pos hy, e10, if_false, ob3 kd_15, g3_0 kd_15, g3_1 kd_15, g3_2 kd_15, p3_2 kd_15, ob2 kd_16, g2_0 kd_16, g2_1 kd_16, g2_2 kd_16, g2_3 kd_16, g2_4 kd_16, p2_4 kd_16, r20, he, if_true]
        · unfold fX10_moves
          have q20 : o_aI (hp S) 219 0 (nI (28 + p)) = some (nI (μ 3 p)) := by rw [ra (by rfl) (by decide) (by rw [kd_219]; show 28 + p < 34; omega), mm.2.2.2.2 p hp']
          simp only [Option.bind_some, Nat.reduceAdd, ob9 kd_209, g9_0 kd_209, g9_1 kd_209, g9_2 kd_209, g9_3 kd_209, g9_4 kd_209, g9_5 kd_209, g9_6 kd_209, g9_7 kd_209, g9_8 kd_209, g9_9 kd_209, g9_10 kd_209, g9_11 kd_209, g9_12 kd_209, g9_13 kd_209, g9_14 kd_209, g9_15 kd_209, g9_16 kd_209, g9_17 kd_209, g9_18 kd_209, g9_19 kd_209, g9_20 kd_209, g9_21 kd_209, g9_22 kd_209, g9_23 kd_209, g9_24 kd_209, g9_25 kd_209, p9_1 kd_209, p9_10 kd_209, p9_11 kd_209, p9_12 kd_209, p9_13 kd_209, p9_14 kd_209, p9_15 kd_209, p9_24 kd_209, p9_25 kd_209, mIsPerson_eq F mt0.2.2.1, mIsStreet_eq F mt0.2.1, if_pos hx, if_pos hy, e10, if_false, la28, q20, he, if_true]
      · have hne : ¬ nI (μ 3 p) = nI s := fun e => he ((nI_eq (by omega) (by omega)).mp e)
        obtain ⟨S1, e1, f1, n1⟩ := remember_eq F hF IsN_15 h9 h6 kn
        have f2 : Fr 16 21 S1 (stI S1 20 (upd (S1.1 20) p (nI s))) := Fr.stI (by omega) (by omega)
        have n2 := n1.set (μ' := muS μ 3 p s) f2 (momSet n1.1 3 (by omega) p s)
        generalize hS2 : stI S1 20 (upd (S1.1 20) p (nI s)) = S2 at f2 n2
        have f12 : Fr 15 72 S S2 := Fr.tr f1 (f2.mono (by omega) (by omega))
        obtain ⟨m1, m2, m3, m4, m5⟩ := M_fr hm f12 (by omega)
        obtain ⟨S3, e3, f3, n3, g1, g2⟩ := know_eq F hF h9 h6 m2
        have f4 : Fr 219 220 S3 (stI S3 219 (upd (S3.1 219) (28 + p) (nI s))) := Fr.stI (by omega) (by omega)
        have n4 := n3.set (μ' := muS μ 3 p s) f4 (mmSet n3.1 h9 h6 3 (by omega) p s (by omega))
        refine ⟨nI (μ 3 p), S2, stI S3 219 (upd (S3.1 219) (28 + p) (nI s)), ?_, ?_, Inv.step htw hwa hk hm htr (wm.set (by omega) (fun _ => hs) (by omega)) f12 n2 (Fr.tr (f3.mono (by omega) (by omega)) (f4.mono (by omega) (by omega))) n4 (fun j hj => by rw [stI_n _ _ (by decide)]; exact g1 j hj) (fun j hj => by rw [stI_n _ _ (by decide)]; exact g2 j hj)⟩
        · show fX9_moves F (hp S) 0 (nI p) (nI s) = _
          unfold fX9_moves
          simp only [Option.bind_some, Nat.reduceAdd, ob8 kd_0, g8_0 kd_0, g8_1 kd_0, g8_2 kd_0, g8_3 kd_0, g8_4 kd_0, g8_5 kd_0, g8_6 kd_0, g8_7 kd_0, g8_8 kd_0, g8_9 kd_0, p8_5 kd_0, p8_9 kd_0, isCitizen_eq F kt.2.2.1, isStreet_eq F kt.2.1 h9, if_pos hx, if_pos hy, e10, if_false, ob3 kd_15, g3_0 kd_15, g3_1 kd_15, g3_2 kd_15, p3_2 kd_15, ob2 kd_16, g2_0 kd_16, g2_1 kd_16, g2_2 kd_16, g2_3 kd_16, g2_4 kd_16, p2_4 kd_16, r20, if_neg hne, e1]
          rw [wa (by rfl) (by decide) (by rw [kd_20]; show p < 6; omega), Option.bind_some, hS2]
        · show fX10_moves F (hp S2) 209 (nI p) (nI s) = _
          unfold fX10_moves
          have q20 : o_aI (hp S2) 219 0 (nI (28 + p)) = some (nI (μ 3 p)) := by rw [ra (by rfl) (by decide) (by rw [kd_219]; show 28 + p < 34; omega), m2.1.2.2.2.2 p hp']
          simp only [Option.bind_some, Nat.reduceAdd, ob9 kd_209, g9_0 kd_209, g9_1 kd_209, g9_2 kd_209, g9_3 kd_209, g9_4 kd_209, g9_5 kd_209, g9_6 kd_209, g9_7 kd_209, g9_8 kd_209, g9_9 kd_209, g9_10 kd_209, g9_11 kd_209, g9_12 kd_209, g9_13 kd_209, g9_14 kd_209, g9_15 kd_209, g9_16 kd_209, g9_17 kd_209, g9_18 kd_209, g9_19 kd_209, g9_20 kd_209, g9_21 kd_209, g9_22 kd_209, g9_23 kd_209, g9_24 kd_209, g9_25 kd_209, p9_1 kd_209, p9_10 kd_209, p9_11 kd_209, p9_12 kd_209, p9_13 kd_209, p9_14 kd_209, p9_15 kd_209, p9_24 kd_209, p9_25 kd_209, mIsPerson_eq F m1.2.2.1, mIsStreet_eq F m1.2.1, if_pos hx, if_pos hy, e10, if_false, la28, q20, if_neg hne, e3]
          rw [wa (by rfl) (by decide) (by rw [kd_219]; show 28 + p < 34; omega), Option.bind_some]
    · refine Ok.of hI ⟨-1, ?_, ?_⟩
      · unfold fX9_moves fX9_moves_b16
        simp only [Option.bind_some, Nat.reduceAdd, ob8 kd_0, g8_0 kd_0, g8_1 kd_0, g8_2 kd_0, g8_3 kd_0, g8_4 kd_0, g8_5 kd_0, g8_6 kd_0, g8_7 kd_0, g8_8 kd_0, g8_9 kd_0, p8_5 kd_0, p8_9 kd_0, isCitizen_eq F kt.2.2.1, isStreet_eq F kt.2.1 h9, if_pos hx, if_neg hy, e10, if_false, if_true]
      · unfold fX10_moves fX10_moves_b16
        simp only [Option.bind_some, Nat.reduceAdd, ob9 kd_209, g9_0 kd_209, g9_1 kd_209, g9_2 kd_209, g9_3 kd_209, g9_4 kd_209, g9_5 kd_209, g9_6 kd_209, g9_7 kd_209, g9_8 kd_209, g9_9 kd_209, g9_10 kd_209, g9_11 kd_209, g9_12 kd_209, g9_13 kd_209, g9_14 kd_209, g9_15 kd_209, g9_16 kd_209, g9_17 kd_209, g9_18 kd_209, g9_19 kd_209, g9_20 kd_209, g9_21 kd_209, g9_22 kd_209, g9_23 kd_209, g9_24 kd_209, g9_25 kd_209, p9_1 kd_209, p9_10 kd_209, p9_11 kd_209, p9_12 kd_209, p9_13 kd_209, p9_14 kd_209, p9_15 kd_209, p9_24 kd_209, p9_25 kd_209, mIsPerson_eq F mt0.2.2.1, mIsStreet_eq F mt0.2.1, if_pos hx, if_neg hy, e10, if_false, if_true]
  · refine Ok.of hI ⟨-1, ?_, ?_⟩
    · unfold fX9_moves fX9_moves_b16
      simp only [Option.bind_some, Nat.reduceAdd, ob8 kd_0, g8_0 kd_0, g8_1 kd_0, g8_2 kd_0, g8_3 kd_0, g8_4 kd_0, g8_5 kd_0, g8_6 kd_0, g8_7 kd_0, g8_8 kd_0, g8_9 kd_0, p8_5 kd_0, p8_9 kd_0, isCitizen_eq F kt.2.2.1, if_neg hx, if_true]
    · unfold fX10_moves fX10_moves_b16
      simp only [Option.bind_some, Nat.reduceAdd, ob9 kd_209, g9_0 kd_209, g9_1 kd_209, g9_2 kd_209, g9_3 kd_209, g9_4 kd_209, g9_5 kd_209, g9_6 kd_209, g9_7 kd_209, g9_8 kd_209, g9_9 kd_209, g9_10 kd_209, g9_11 kd_209, g9_12 kd_209, g9_13 kd_209, g9_14 kd_209, g9_15 kd_209, g9_16 kd_209, g9_17 kd_209, g9_18 kd_209, g9_19 kd_209, g9_20 kd_209, g9_21 kd_209, g9_22 kd_209, g9_23 kd_209, g9_24 kd_209, g9_25 kd_209, p9_1 kd_209, p9_10 kd_209, p9_11 kd_209, p9_12 kd_209, p9_13 kd_209, p9_14 kd_209, p9_15 kd_209, p9_24 kd_209, p9_25 kd_209, mIsPerson_eq F mt0.2.2.1, if_neg hx, if_true]

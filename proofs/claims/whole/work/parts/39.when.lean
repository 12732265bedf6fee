/-! when to measure next -/
def mxN : Nat → (Nat → Nat) → Nat
  | 0, _ => 0
  | k + 1, f => max (mxN k f) (f k)
theorem mxN_congr {k : Nat} {f g : Nat → Nat} (h : ∀ i, i < k → f i = g i) : mxN k f = mxN k g := by
  induction k with
  | zero => rfl
  | succ k ih => simp only [mxN]; rw [ih (fun i hi => h i (by omega)), h k (by omega)]
theorem mxN_le {k b : Nat} {f : Nat → Nat} (h : ∀ i, i < k → f i ≤ b) : mxN k f ≤ b := by
  induction k with
  | zero => exact Nat.zero_le _
  | succ k ih =>
    simp only [mxN]
    have := ih (fun i hi => h i (by omega))
    have := h k (by omega)
    omega
theorem mxN_up {k w : Nat} {f g : Nat → Nat} (hw : w < k) (h1 : g w = f w + 1) (h : ∀ i, i < k → i ≠ w → g i = f i) : mxN k g = max (mxN k f) (g w) := by
  induction k with
  | zero => omega
  | succ k ih =>
    simp only [mxN]
    by_cases hk : w = k
    · subst hk
      rw [mxN_congr (f := g) (g := f) (fun i hi => h i (by omega) (by omega))]
      omega
    · rw [ih (by omega) (fun i hi => h i (by omega)), h k (by omega) (fun e => hk e.symm)]
      omega
def alk (P : Nat → Bool) (nt i w : Nat) : Nat := cnt i (fun d => P d && (wb d nt == w))
theorem alk_le (P : Nat → Bool) (nt i w : Nat) : alk P nt i w ≤ i := cnt_le _ _
theorem alk_no {P : Nat → Bool} {nt i w : Nat} (h : P i = false ∨ wb i nt ≠ w) : alk P nt (i + 1) w = alk P nt i w := by
  unfold alk
  simp only [cnt]
  rcases h with h | h
  · simp [h]
  · simp [h]
theorem alk_yes {P : Nat → Bool} {nt i : Nat} (h : P i = true) : alk P nt (i + 1) (wb i nt) = alk P nt i (wb i nt) + 1 := by
  unfold alk
  simp only [cnt]
  simp [h]
theorem KF.i208 {S : ST} {f : Nat} {mw mn : Nat → Nat} (h : KF S f mw mn) (g : Nat → Int32) : KF (stI S 208 g) f mw mn := h.fr (lo := 208) (hi := 209) (Fr.stI (by omega) (by omega)) (Or.inl (by omega))
theorem alike_eq (F : Nat) (hF : 4000 ≤ F) {S : ST} {f : Nat} {mw mn : Nat → Nat} (kf : KF S f mw mn) (hf : f ≤ 4) (hw : ∀ j, j < f → 1 ≤ mw j ∧ mw j ≤ 10 ∧ mn j ≤ 1) {nt : Nat} (hnt : nt ≤ 1) : ∃ S', fX1_mostAlike F (hp S) 205 (nI nt) = some (nI (mxN 11 (alk (soP f mw mn) nt 100)), hp S') ∧ Fr 208 209 S S' := by
  refine ⟨stI S 208 (fun j => if j < 11 then nI (alk (soP f mw mn) nt 100 j) else S.1 208 j), ?_, Fr.stI (by omega) (by omega)⟩
  unfold fX1_mostAlike
  simp only [Option.bind_some, Nat.reduceAdd, ob1 kd_205, g1_0 kd_205, g1_1 kd_205, g1_2 kd_205, g1_3 kd_205, p1_2 kd_205, fill_eq F hF (q := 208) (n := 11) rfl]
  have := loopA (fun k i (st : Int32 × ST) => fX1_mostAlike_b12 F k 205 (nI nt) st.1 (nI i) (hp st.2)) 100 (fun i => (nI (mxN 11 (alk (soP f mw mn) nt i)), stI S 208 (fun j => if j < 11 then nI (alk (soP f mw mn) nt i j) else S.1 208 j))) (some (nI (mxN 11 (alk (soP f mw mn) nt 100)), hp (stI S 208 (fun j => if j < 11 then nI (alk (soP f mw mn) nt 100 j) else S.1 208 j)))) ?_ ?_ F 0 (by omega) (by omega)
  · exact this
  · intro k
    show fX1_mostAlike_b12c F _ 205 (nI nt) _ (nI 100) _ = _
    unfold fX1_mostAlike_b12c
    rw [if_pos (by decide)]
  · intro k i hi
    dsimp only
    have hwb := wb_le (nt := nt) hi
    show fX1_mostAlike_b12c F _ 205 (nI nt) _ (nI i) _ = _
    unfold fX1_mostAlike_b12c fX1_mostAlike_b56
    rw [if_neg (show ¬ (100 : Int32) ≤ nI i from nI_ge (b := 100) hi (by decide)), areSo_eq F hF (kf.i208 _) hf hw hi]
    simp only [Option.bind_some, Nat.reduceAdd, nI_1]
    cases hs : soP f mw mn i with
    | false =>
      have e : alk (soP f mw mn) nt (i + 1) = alk (soP f mw mn) nt i := funext fun w => alk_no (Or.inl hs)
      rw [e]
      simp
    | true =>
      simp only [if_true, e10, if_false, k_widthBy F _ hi hnt, Option.bind_some, Nat.reduceAdd, ob1 kd_205, g1_0 kd_205, g1_1 kd_205, g1_2 kd_205, g1_3 kd_205, p1_2 kd_205]
      rw [ra (by rfl) (by decide) (by rw [kd_208]; show wb i nt < 11; omega)]
      simp only [Option.bind_some, Nat.reduceAdd]
      rw [wa (by rfl) (by decide) (by rw [kd_208]; show wb i nt < 11; omega)]
      simp only [Option.bind_some, Nat.reduceAdd, ob1 kd_205, g1_0 kd_205, g1_1 kd_205, g1_2 kd_205, g1_3 kd_205, p1_2 kd_205]
      rw [ra (by rfl) (by decide) (by rw [kd_208]; show wb i nt < 11; omega)]
      simp only [Option.bind_some, Nat.reduceAdd, stI_stI, stI_s, pk_us, if_pos (show wb i nt < 11 by omega), nI_1]
      have e1 := alk_yes (nt := nt) hs
      have e2 : ∀ w, w ≠ wb i nt → alk (soP f mw mn) nt (i + 1) w = alk (soP f mw mn) nt i w := fun w hne => alk_no (Or.inr (fun e => hne e.symm))
      have e3 := mxN_up (k := 11) (f := alk (soP f mw mn) nt i) (g := alk (soP f mw mn) nt (i + 1)) (show wb i nt < 11 by omega) e1 (fun w _ hne => e2 w hne)
      have b1 := mxN_le (k := 11) (fun w _ => alk_le (soP f mw mn) nt i w)
      have b2 := alk_le (soP f mw mn) nt i (wb i nt)
      have e4 : upd (fun j => if j < 11 then nI (alk (soP f mw mn) nt i j) else S.1 208 j) (wb i nt) (nI (alk (soP f mw mn) nt i (wb i nt) + 1)) = fun j => if j < 11 then nI (alk (soP f mw mn) nt (i + 1) j) else S.1 208 j := by
        funext j
        rw [upd_at]
        by_cases hj : j = wb i nt
        · rw [if_pos hj, hj, if_pos (by omega), e1]
        · rw [if_neg hj, e2 j hj]
      rw [e4, e3, e1]
      generalize stI S 208 _ = SS
      by_cases h : mxN 11 (alk (soP f mw mn) nt i) < alk (soP f mw mn) nt i (wb i nt) + 1
      · rw [if_pos ((nI_ltI (by omega) (by omega)).mpr h), Nat.max_eq_right (by omega)]
      · rw [if_neg (fun e => h ((nI_ltI (by omega) (by omega)).mp e)), Nat.max_eq_left (by omega)]
theorem greatest_eq (F : Nat) (hF : 4000 ≤ F) {S : ST} {f : Nat} {mw mn : Nat → Nat} (kf : MF S f mw mn) (hf : f ≤ 4) (hw : ∀ j, j < f → 1 ≤ mw j ∧ mw j ≤ 10 ∧ mn j ≤ 1) {nt : Nat} (hnt : nt ≤ 1) : fX10_greatest F (hp S) 209 (nI nt) = some (nI (mxN 11 (alk (soP f mw mn) nt 100)), hp S) := by
  unfold fX10_greatest
  simp only [Option.bind_some, Nat.reduceAdd, ob9 kd_209, g9_0 kd_209, g9_1 kd_209, g9_2 kd_209, g9_3 kd_209, g9_4 kd_209, g9_5 kd_209, g9_6 kd_209, g9_7 kd_209, g9_8 kd_209, g9_9 kd_209, g9_10 kd_209, g9_11 kd_209, g9_12 kd_209, g9_13 kd_209, g9_14 kd_209, g9_15 kd_209, g9_16 kd_209, g9_17 kd_209, g9_18 kd_209, g9_19 kd_209, g9_20 kd_209, g9_21 kd_209, g9_22 kd_209, g9_23 kd_209, g9_24 kd_209, g9_25 kd_209, p9_1 kd_209, p9_10 kd_209, p9_11 kd_209, p9_12 kd_209, p9_13 kd_209, p9_14 kd_209, p9_15 kd_209, p9_24 kd_209, p9_25 kd_209]
  have := loopB (fun k i st => fX10_greatest_b4 F k 209 (nI nt) st (nI i) (hp S)) 1 11 (fun i => nI (mxN i (alk (soP f mw mn) nt 100))) (some (nI (mxN 11 (alk (soP f mw mn) nt 100)), hp S)) ?_ ?_ F 1 (by omega) (by omega) (by omega)
  · refine Eq.trans ?_ this
    have e0 : alk (soP f mw mn) nt 100 0 = 0 := cnt_none (fun d hd => by
      have := (wb_le (nt := nt) hd).1
      have : ¬ wb d nt = 0 := by omega
      simp [this])
    have : mxN 1 (alk (soP f mw mn) nt 100) = 0 := by
      simp only [mxN, e0]
      rfl
    rw [this]
    rfl
  · intro k
    show fX10_greatest_b4c F _ 209 (nI nt) _ (nI 11) _ = _
    unfold fX10_greatest_b4c
    rw [if_pos (by decide)]
  · intro k w hw1 hw2
    show fX10_greatest_b4c F _ 209 (nI nt) _ (nI w) _ = _
    unfold fX10_greatest_b4c
    rw [if_neg (show ¬ (10 : Int32) < nI w from fun e => by
      have := (nI_ltI (a := 10) (b := w) (by omega) (by omega)).mp e
      omega)]
    have b1 := mxN_le (k := w) (fun v _ => alk_le (soP f mw mn) nt 100 v)
    have b2 := alk_le (soP f mw mn) nt 100 w
    have inner : ∀ K, fX10_greatest_b16 F K F 209 (nI nt) (nI (mxN w (alk (soP f mw mn) nt 100))) (nI w) 0 0 (hp S) = K 209 (nI nt) (nI (mxN (w + 1) (alk (soP f mw mn) nt 100))) (nI (w + 1)) (hp S) := by
      intro K
      have := loopA (fun k i st => fX10_greatest_b16 F K k 209 (nI nt) (nI (mxN w (alk (soP f mw mn) nt 100))) (nI w) st (nI i) (hp S)) 100 (fun i => nI (alk (soP f mw mn) nt i w)) (K 209 (nI nt) (nI (mxN (w + 1) (alk (soP f mw mn) nt 100))) (nI (w + 1)) (hp S)) ?_ ?_ F 0 (by omega) (by omega)
      · exact this
      · intro k
        show fX10_greatest_b16c F K _ 209 (nI nt) _ (nI w) _ (nI 100) _ = _
        unfold fX10_greatest_b16c fX10_greatest_b70
        rw [if_pos (by decide)]
        simp only [nI_1, mxN]
        by_cases h : alk (soP f mw mn) nt 100 w ≤ mxN w (alk (soP f mw mn) nt 100)
        · rw [if_pos ((nI_leI (by omega) (by omega)).mpr h), Nat.max_eq_left h]
        · rw [if_neg (fun e => h ((nI_leI (by omega) (by omega)).mp e)), Nat.max_eq_right (by omega)]
      · intro k i hi
        have hwb := wb_le (nt := nt) hi
        show fX10_greatest_b16c F K _ 209 (nI nt) _ (nI w) _ (nI i) _ = _
        unfold fX10_greatest_b16c fX10_greatest_b48 fX10_greatest_b49
        rw [if_neg (show ¬ (100 : Int32) ≤ nI i from nI_ge (b := 100) hi (by decide)), isSo_eq F hF kf hf hw hi]
        simp only [Option.bind_some, Nat.reduceAdd, nI_1]
        cases hs : soP f mw mn i with
        | false =>
          rw [alk_no (Or.inl hs)]
          simp
        | true =>
          simp only [if_true, e10, if_false, m_widthBy F _ hi hnt, Option.bind_some, Nat.reduceAdd]
          by_cases h : wb i nt = w
          · rw [if_pos (by rw [h])]
            have e1 := alk_yes (nt := nt) hs
            rw [h] at e1
            rw [e1]
          · rw [if_neg (fun e => h ((nI_eq (by omega) (by omega)).mp e)), alk_no (Or.inr h)]
            simp
    rw [inner]
theorem Inv.scr {S S' : ST} {lo hi : Nat} (h : Inv S) (hf : Fr lo hi S S') (hq : (187 ≤ lo ∧ hi ≤ 205) ∨ (208 ≤ lo ∧ hi ≤ 209) ∨ (224 ≤ lo ∧ hi ≤ 225)) : Inv S' := by
  obtain ⟨Y, n, c, on, ot, wn, μ, k, ms, T, tx, f, mw, mn, kp, im, ik, ims, htw, hwa, ⟨k1, k2, k3, k4, k5⟩, ⟨m1, m2, m3, m4, m5⟩, htr⟩ := h
  refine ⟨Y, n, c, on, ot, wn, μ, k, ms, T, tx, f, mw, mn, kp, im, ik, ims, htw, hwa, ⟨k1.fr hf (by omega), k2.fr hf (by omega), k3.fr hf (by omega), k4.fr hf (by omega), k5.fr hf (by omega) (by omega)⟩, ⟨m1.fr hf (by omega), m2.fr hf (by omega), m3.fr hf (by omega), m4.fr hf (by omega), m5.fr hf (by omega)⟩, ?_⟩
  rw [(hf 0 (by omega)).2.2.1, (hf 209 (by omega)).2.2.1]
  exact htr
theorem c_when (F : Nat) (hF : 4000 ≤ F) {S : ST} (h : Inv S) : Ok S (fun L => fX9_when F L 0) (fun L => fX10_when F L 209) := by
  have hI := h
  obtain ⟨Y, n, c, on, ot, wn, μ, k, ms, T, tx, f, mw, mn, kp, im, ik, ims, htw, hwa, hk, hm, htr⟩ := h
  obtain ⟨hf, hw⟩ := hwa.2.2.2.1
  have kf := hk.2.2.2.1
  have mf := hm.2.2.2.1
  obtain ⟨S1, e1, f1⟩ := alike_eq F hF kf hf hw (nt := 0) (by omega)
  have kf1 := kf.fr f1 (by omega)
  obtain ⟨S2, e2, f2⟩ := alike_eq F hF kf1 hf hw (nt := 1) (by omega)
  have g1 := greatest_eq F hF (mf.fr f1 (by omega)) hf hw (nt := 0) (by omega)
  have mf2 := (mf.fr f1 (by omega)).fr f2 (by omega)
  have g10 := greatest_eq F hF mf2 hf hw (nt := 0) (by omega)
  have g11 := greatest_eq F hF mf2 hf hw (nt := 1) (by omega)
  have b0 := mxN_le (k := 11) (fun v _ => alk_le (soP f mw mn) 0 100 v)
  have b1 := mxN_le (k := 11) (fun v _ => alk_le (soP f mw mn) 1 100 v)
  generalize mxN 11 (alk (soP f mw mn) 0 100) = A at *
  generalize mxN 11 (alk (soP f mw mn) 1 100) = B at *
  by_cases h0 : A = 0
  · subst h0
    refine ⟨-9, S1, S1, ?_, ?_, hI.scr f1 (by omega)⟩
    · show fX9_when F (hp S) 0 = _
      unfold fX9_when
      simp only [Option.bind_some, Nat.reduceAdd, ob8 kd_0, g8_0 kd_0, g8_1 kd_0, g8_2 kd_0, g8_3 kd_0, g8_4 kd_0, g8_5 kd_0, g8_6 kd_0, g8_7 kd_0, g8_8 kd_0, g8_9 kd_0, p8_5 kd_0, p8_9 kd_0]
      rw [show (0 : Int32) = nI 0 from rfl, e1]
      simp only [Option.bind_some, Nat.reduceAdd, if_true]
    · show fX10_when F (hp S1) 209 = _
      unfold fX10_when
      simp only [Option.bind_some, Nat.reduceAdd, ob9 kd_209, g9_0 kd_209, g9_1 kd_209, g9_2 kd_209, g9_3 kd_209, g9_4 kd_209, g9_5 kd_209, g9_6 kd_209, g9_7 kd_209, g9_8 kd_209, g9_9 kd_209, g9_10 kd_209, g9_11 kd_209, g9_12 kd_209, g9_13 kd_209, g9_14 kd_209, g9_15 kd_209, g9_16 kd_209, g9_17 kd_209, g9_18 kd_209, g9_19 kd_209, g9_20 kd_209, g9_21 kd_209, g9_22 kd_209, g9_23 kd_209, g9_24 kd_209, g9_25 kd_209, p9_1 kd_209, p9_10 kd_209, p9_11 kd_209, p9_12 kd_209, p9_13 kd_209, p9_14 kd_209, p9_15 kd_209, p9_24 kd_209, p9_25 kd_209]
      rw [show (0 : Int32) = nI 0 from rfl, g1]
      simp only [Option.bind_some, Nat.reduceAdd, if_true]
  · have hne : ¬ nI A = (0 : Int32) := nI_ne0 (by omega) (by omega)
    refine ⟨if B < A then 1 else 0, S2, S2, ?_, ?_, (hI.scr f1 (by omega)).scr f2 (by omega)⟩
    · show fX9_when F (hp S) 0 = _
      unfold fX9_when
      simp only [Option.bind_some, Nat.reduceAdd, ob8 kd_0, g8_0 kd_0, g8_1 kd_0, g8_2 kd_0, g8_3 kd_0, g8_4 kd_0, g8_5 kd_0, g8_6 kd_0, g8_7 kd_0, g8_8 kd_0, g8_9 kd_0, p8_5 kd_0, p8_9 kd_0]
      rw [show fX1_mostAlike F (hp S) 205 0 = _ from e1]
      simp only [Option.bind_some, Nat.reduceAdd, if_neg hne, ob8 kd_0, g8_0 kd_0, g8_1 kd_0, g8_2 kd_0, g8_3 kd_0, g8_4 kd_0, g8_5 kd_0, g8_6 kd_0, g8_7 kd_0, g8_8 kd_0, g8_9 kd_0, p8_5 kd_0, p8_9 kd_0]
      rw [show fX1_mostAlike F (hp S1) 205 1 = _ from e2]
      simp only [Option.bind_some, Nat.reduceAdd]
      by_cases h : B < A
      · rw [if_pos ((nI_ltI (by omega) (by omega)).mpr h), if_pos h]
      · rw [if_neg (fun e => h ((nI_ltI (by omega) (by omega)).mp e)), if_neg h]
    · show fX10_when F (hp S2) 209 = _
      unfold fX10_when
      simp only [Option.bind_some, Nat.reduceAdd, ob9 kd_209, g9_0 kd_209, g9_1 kd_209, g9_2 kd_209, g9_3 kd_209, g9_4 kd_209, g9_5 kd_209, g9_6 kd_209, g9_7 kd_209, g9_8 kd_209, g9_9 kd_209, g9_10 kd_209, g9_11 kd_209, g9_12 kd_209, g9_13 kd_209, g9_14 kd_209, g9_15 kd_209, g9_16 kd_209, g9_17 kd_209, g9_18 kd_209, g9_19 kd_209, g9_20 kd_209, g9_21 kd_209, g9_22 kd_209, g9_23 kd_209, g9_24 kd_209, g9_25 kd_209, p9_1 kd_209, p9_10 kd_209, p9_11 kd_209, p9_12 kd_209, p9_13 kd_209, p9_14 kd_209, p9_15 kd_209, p9_24 kd_209, p9_25 kd_209]
      rw [show fX10_greatest F (hp S2) 209 0 = _ from g10]
      simp only [Option.bind_some, Nat.reduceAdd, if_neg hne]
      rw [show fX10_greatest F (hp S2) 209 1 = _ from g11]
      simp only [Option.bind_some, Nat.reduceAdd]
      by_cases h : B < A
      · rw [if_neg (fun e => by have := (nI_leI (by omega) (by omega)).mp e; omega), if_pos h]
      · rw [if_pos ((nI_leI (by omega) (by omega)).mpr (by omega)), if_neg h]

/-! flow -/
theorem leadsOut_eq (F : Nat) {S : ST} {Y n c : Nat} {on ot wn wi : Nat → Nat} (hp' : PL S 188 Y n c on ot wn wi) (hw : TW Y n c on ot wn) {s : Nat} (hs : s < n) (X : Nat → Bool) : fX4_leadsOut F (hp S) 188 (nI s) (bs 8 X) = some (if cutS on ot X s then 1 else 0, hp S) := by
  obtain ⟨k1, k2, k3, k4, k5, k6, k7⟩ := hp'
  have hon := on_8 hw s hs
  have hn := hw.2.1
  unfold fX4_leadsOut
  have r1 : o_aI (hp S) 189 0 (nI s) = some (nI (on s)) := by rw [ra (by rfl) (by decide) (by rw [kd_189]; show s < 9; omega)]; exact congrArg some (k4 s hs)
  have r2 : o_aI (hp S) 190 0 (nI s) = some (nI (ot s)) := by rw [ra (by rfl) (by decide) (by rw [kd_190]; show s < 9; omega)]; exact congrArg some (k5 s hs)
  simp only [Option.bind_some, Nat.reduceAdd, ob4 kd_188, g4_0 kd_188, g4_1 kd_188, g4_2 kd_188, g4_3 kd_188, g4_4 kd_188, g4_5 kd_188, g4_6 kd_188, g4_7 kd_188, g4_8 kd_188, p4_0 kd_188, p4_1 kd_188, p4_2 kd_188, r1, r2]
  simp only [Option.bind_some, Nat.reduceAdd, r1, r2, has_eq F _ X (show 8 ≤ 31 by omega) hon.1, has_eq F _ X (show 8 ≤ 31 by omega) hon.2, ob4 kd_188, g4_0 kd_188, g4_1 kd_188, g4_2 kd_188, g4_3 kd_188, g4_4 kd_188, g4_5 kd_188, g4_6 kd_188, g4_7 kd_188, g4_8 kd_188, p4_0 kd_188, p4_1 kd_188, p4_2 kd_188]
  unfold cutS
  cases X (on s) <;> cases X (ot s) <;> simp
theorem kw_le {n : Nat} {wi : Nat → Nat} (h9 : n ≤ 9) (hw : ∀ s, s < n → wi s ≤ 10) (D : Nat → Bool) {i : Nat} (hi : i ≤ n) : sset i D (kw wi) ≤ 800000 := by
  have h1 := sumN_le i (fun s => if D s then kw wi s else 0) 83000 (fun s hs => by
    have h1 := hw s (by omega)
    have h2 : 2 ^ s ≤ 2 ^ 8 := Nat.pow_le_pow_right (by omega) (by omega)
    unfold kw
    split <;> omega)
  have : i * 83000 ≤ 9 * 83000 := Nat.mul_le_mul_right _ (by omega)
  unfold sset
  omega
theorem cut_eq (F : Nat) (hF : 4000 ≤ F) {S : ST} {Y n c : Nat} {on ot wn wi : Nat → Nat} (hp' : PL S 188 Y n c on ot wn wi) (hw : TW Y n c on ot wn) (X : Nat → Bool) : fX8_cutAround F (hp S) 187 (bs 8 X) = some (nI (sset n (cutS on ot X) (kw wi)), hp S) := by
  have hn := hw.2.1
  have k2 := hp'.2.1
  have k7 := hp'.2.2.2.2.2.2
  unfold fX8_cutAround
  simp only [Option.bind_some, Nat.reduceAdd, ob7 kd_187, g7_0 kd_187, g7_1 kd_187]
  have := loopA (fun k i st => fX8_cutAround_b4 F k 187 (bs 8 X) st (nI i) (hp S)) n (fun i => nI (sset i (cutS on ot X) (kw wi))) (some (nI (sset n (cutS on ot X) (kw wi)), hp S)) ?_ ?_ F 0 (by omega) (by omega)
  · exact this
  · intro k
    show fX8_cutAround_b4c F _ 187 (bs 8 X) _ (nI n) (hp S) = _
    unfold fX8_cutAround_b4c
    simp only [Option.bind_some, Nat.reduceAdd, ob7 kd_187, g7_0 kd_187, g7_1 kd_187, ob4 kd_188, g4_0 kd_188, g4_1 kd_188, g4_2 kd_188, g4_3 kd_188, g4_4 kd_188, g4_5 kd_188, g4_6 kd_188, g4_7 kd_188, g4_8 kd_188, p4_0 kd_188, p4_1 kd_188, p4_2 kd_188, k2]
    rw [if_pos (nI_le (Nat.le_refl _) (by omega))]
  · intro k i hi
    show fX8_cutAround_b4c F _ 187 (bs 8 X) _ (nI i) (hp S) = _
    unfold fX8_cutAround_b4c fX8_cutAround_b51
    simp only [Option.bind_some, Nat.reduceAdd, ob7 kd_187, g7_0 kd_187, g7_1 kd_187, ob4 kd_188, g4_0 kd_188, g4_1 kd_188, g4_2 kd_188, g4_3 kd_188, g4_4 kd_188, g4_5 kd_188, g4_6 kd_188, g4_7 kd_188, g4_8 kd_188, p4_0 kd_188, p4_1 kd_188, p4_2 kd_188, k2]
    rw [if_neg (nI_ge hi (by omega)), leadsOut_eq F hp' hw hi]
    simp only [Option.bind_some, Nat.reduceAdd, ob7 kd_187, g7_0 kd_187, g7_1 kd_187, ob4 kd_188, g4_0 kd_188, g4_1 kd_188, g4_2 kd_188, g4_3 kd_188, g4_4 kd_188, g4_5 kd_188, g4_6 kd_188, g4_7 kd_188, g4_8 kd_188, p4_0 kd_188, p4_1 kd_188, p4_2 kd_188, nI_1]
    have e : sset (i + 1) (cutS on ot X) (kw wi) = sset i (cutS on ot X) (kw wi) + (if cutS on ot X i then kw wi i else 0) := rfl
    rw [e]
    cases cutS on ot X i
    · simp
    · simp only [if_true, e10, if_false]
      rw [ra (by rfl) (by decide) (by rw [kd_194]; show i < 9; omega), k7 i hi, sh1 (by omega), show (8192 : Int32) = nI 8192 from rfl, show (512 : Int32) = nI 512 from rfl]
      simp only [Option.bind_some, Nat.reduceAdd, pk_mul, nI_add]
      rfl
theorem leastCut_eq (F : Nat) (hF : 4000 ≤ F) {S : ST} {Y n c : Nat} {on ot wn wi : Nat → Nat} (hp' : PL S 188 Y n c on ot wn wi) (hw : TW Y n c on ot wn) (hwi : ∀ s, s < n → wi s ≤ 10) {a b : Nat} (ha : a < Y) (hb : b < Y) : fX8_leastCut F (hp S) 187 (nI a) (nI b) = some (nI (mnN (2 ^ Y) (fun m => if m.testBit a && !m.testBit b then sset n (cutS on ot (fun y => m.testBit y)) (kw wi) else FR)), hp S) := by
  have hn := hw.2.1
  have y2 := hw.1.2
  have hY : 2 ^ Y ≤ 2 ^ 8 := Nat.pow_le_pow_right (by omega) y2
  have hY1 : 1 ≤ 2 ^ Y := Nat.one_le_two_pow
  unfold fX8_leastCut
  simp only [Option.bind_some, Nat.reduceAdd, ob7 kd_187, g7_0 kd_187, g7_1 kd_187]
  generalize hg : (fun m : Nat => if m.testBit a && !m.testBit b then sset n (cutS on ot (fun y => m.testBit y)) (kw wi) else FR) = g
  have := loopA (fun k i st => fX8_leastCut_b6 F k 187 (nI a) (nI b) st (nI i) (hp S)) (2 ^ Y) (fun i => nI (mnN i g)) (some (nI (mnN (2 ^ Y) g), hp S)) ?_ ?_ F 0 (by omega) (by omega)
  · exact this
  · intro k
    show fX8_leastCut_b6c F _ 187 (nI a) (nI b) _ (nI (2 ^ Y)) (hp S) = _
    unfold fX8_leastCut_b6c
    simp only [Option.bind_some, Nat.reduceAdd, ob7 kd_187, g7_0 kd_187, g7_1 kd_187, ob4 kd_188, g4_0 kd_188, g4_1 kd_188, g4_2 kd_188, g4_3 kd_188, g4_4 kd_188, g4_5 kd_188, g4_6 kd_188, g4_7 kd_188, g4_8 kd_188, p4_0 kd_188, p4_1 kd_188, p4_2 kd_188, hp'.1, allOf_eq F _ (show Y < 31 by omega)]
    rw [if_pos (nI_lt (by omega) (by omega))]
  · intro k i hi
    have hb8 : nI i = bs 8 (fun y => i.testBit y) := nI_bs (by omega)
    show fX8_leastCut_b6c F _ 187 (nI a) (nI b) _ (nI i) (hp S) = _
    unfold fX8_leastCut_b6c fX8_leastCut_b50
    simp only [Option.bind_some, Nat.reduceAdd, ob7 kd_187, g7_0 kd_187, g7_1 kd_187, ob4 kd_188, g4_0 kd_188, g4_1 kd_188, g4_2 kd_188, g4_3 kd_188, g4_4 kd_188, g4_5 kd_188, g4_6 kd_188, g4_7 kd_188, g4_8 kd_188, p4_0 kd_188, p4_1 kd_188, p4_2 kd_188, hp'.1, allOf_eq F _ (show Y < 31 by omega)]
    rw [if_neg (nI_nlt (by omega) (by omega)), nI_1]
    have h1 : fX5_has F (hp S) (nI i) (nI a) = some (if i.testBit a then 1 else 0, hp S) := by rw [hb8]; exact has_eq F _ _ (by omega) (by omega)
    have h2 : fX5_has F (hp S) (nI i) (nI b) = some (if i.testBit b then 1 else 0, hp S) := by rw [hb8]; exact has_eq F _ _ (by omega) (by omega)
    have h3 : fX8_cutAround F (hp S) 187 (nI i) = some (nI (sset n (cutS on ot (fun y => i.testBit y)) (kw wi)), hp S) := by rw [hb8]; exact cut_eq F hF hp' hw _
    simp only [Option.bind_some, Nat.reduceAdd, h1, h2, h3, mnN]
    have hgi : g i = if i.testBit a && !i.testBit b then sset n (cutS on ot (fun y => i.testBit y)) (kw wi) else FR := by rw [← hg]
    have hb1 := kw_le hn hwi (cutS on ot (fun y => i.testBit y)) (Nat.le_refl n)
    have hb2 := mnN_le0 i g
    have hFR : FR = 1073741824 := rfl
    rw [hgi]
    generalize sset n (cutS on ot (fun y => i.testBit y)) (kw wi) = V at *
    generalize mnN i g = M at *
    cases i.testBit a
    · simp only [Bool.false_and, Bool.false_eq_true, if_false, if_true]
      rw [Nat.min_eq_left hb2]
    · cases i.testBit b
      · simp only [Bool.true_and, Bool.not_false, Bool.false_eq_true, if_false, if_true, e10]
        by_cases h : V < M
        · rw [if_pos (nI_lt h (by omega)), Nat.min_eq_right (by omega)]
        · rw [if_neg (nI_nlt (by omega) (by omega)), Nat.min_eq_left (by omega)]
      · simp only [Bool.true_and, Bool.not_true, Bool.false_eq_true, if_false, if_true, e10]
        rw [Nat.min_eq_left hb2]
theorem widthsOf_eq (F : Nat) (hF : 4000 ≤ F) {S : ST} {n c : Nat} {μ : Mo} (hn : S.1 212 0 = nI n) (h9 : n ≤ 9) (hm : MM S n c μ) (hw : WM n c μ) (D : Nat → Bool) : fX10_widthsOf F (hp S) 209 (bs 9 D) = some (nI (sset n D (wd μ)), hp S) := by
  unfold fX10_widthsOf
  simp only [Option.bind_some, Nat.reduceAdd, ob9 kd_209, g9_0 kd_209, g9_1 kd_209, g9_2 kd_209, g9_3 kd_209, g9_4 kd_209, g9_5 kd_209, g9_6 kd_209, g9_7 kd_209, g9_8 kd_209, g9_9 kd_209, g9_10 kd_209, g9_11 kd_209, g9_12 kd_209, g9_13 kd_209, g9_14 kd_209, g9_15 kd_209, g9_16 kd_209, g9_17 kd_209, g9_18 kd_209, g9_19 kd_209, g9_20 kd_209, g9_21 kd_209, g9_22 kd_209, g9_23 kd_209, g9_24 kd_209, g9_25 kd_209, p9_1 kd_209, p9_10 kd_209, p9_11 kd_209, p9_12 kd_209, p9_13 kd_209, p9_14 kd_209, p9_15 kd_209, p9_24 kd_209, p9_25 kd_209]
  have := loopA (fun k i st => fX10_widthsOf_b4 F k 209 (bs 9 D) st (nI i) (hp S)) n (fun i => nI (sset i D (wd μ))) (some (nI (sset n D (wd μ)), hp S)) ?_ ?_ F 0 (by omega) (by omega)
  · exact this
  · intro k
    show fX10_widthsOf_b4c F _ 209 (bs 9 D) _ (nI n) (hp S) = _
    unfold fX10_widthsOf_b4c
    simp only [Option.bind_some, Nat.reduceAdd, ob9 kd_209, g9_0 kd_209, g9_1 kd_209, g9_2 kd_209, g9_3 kd_209, g9_4 kd_209, g9_5 kd_209, g9_6 kd_209, g9_7 kd_209, g9_8 kd_209, g9_9 kd_209, g9_10 kd_209, g9_11 kd_209, g9_12 kd_209, g9_13 kd_209, g9_14 kd_209, g9_15 kd_209, g9_16 kd_209, g9_17 kd_209, g9_18 kd_209, g9_19 kd_209, g9_20 kd_209, g9_21 kd_209, g9_22 kd_209, g9_23 kd_209, g9_24 kd_209, g9_25 kd_209, p9_1 kd_209, p9_10 kd_209, p9_11 kd_209, p9_12 kd_209, p9_13 kd_209, p9_14 kd_209, p9_15 kd_209, p9_24 kd_209, p9_25 kd_209, m212_0, hn]
    rw [if_pos (nI_le (Nat.le_refl _) (by omega))]
  · intro k i hi
    show fX10_widthsOf_b4c F _ 209 (bs 9 D) _ (nI i) (hp S) = _
    unfold fX10_widthsOf_b4c fX10_widthsOf_b32
    simp only [Option.bind_some, Nat.reduceAdd, ob9 kd_209, g9_0 kd_209, g9_1 kd_209, g9_2 kd_209, g9_3 kd_209, g9_4 kd_209, g9_5 kd_209, g9_6 kd_209, g9_7 kd_209, g9_8 kd_209, g9_9 kd_209, g9_10 kd_209, g9_11 kd_209, g9_12 kd_209, g9_13 kd_209, g9_14 kd_209, g9_15 kd_209, g9_16 kd_209, g9_17 kd_209, g9_18 kd_209, g9_19 kd_209, g9_20 kd_209, g9_21 kd_209, g9_22 kd_209, g9_23 kd_209, g9_24 kd_209, g9_25 kd_209, p9_1 kd_209, p9_10 kd_209, p9_11 kd_209, p9_12 kd_209, p9_13 kd_209, p9_14 kd_209, p9_15 kd_209, p9_24 kd_209, p9_25 kd_209, m212_0, hn]
    rw [if_neg (nI_ge hi (by omega)), mHas_eq F _ D (by omega) (by omega)]
    simp only [Option.bind_some, Nat.reduceAdd, mWidthOf_eq F hm hw h9 hi, nI_1]
    have e : sset (i + 1) D (wd μ) = sset i D (wd μ) + (if D i then wd μ i else 0) := rfl
    rw [e]
    cases D i
    · simp
    · simp only [if_true, e10, if_false, nI_add]
theorem allOpen {n : Nat} (h9 : n ≤ 9) (μ : Mo) : bs 9 (fun s => decide (s < n) && opn (wd μ) 0 s) = nI (2 ^ n - 1) := by
  unfold bs
  rw [← allb n h9]
  congr 1
  apply bsum_congr
  intro s _
  simp [opn]
theorem ffI_dec {n : Nat} {on ot : Nat → Nat} {op : Nat → Bool} {a b : Nat} {α : Type} (x y : α) : (if ffI 8 (fun t => rch n on ot op a t b) = -9 then x else y) = if con n on ot op a b then y else x := by
  cases hc : con n on ot op a b
  · rw [if_pos (ffI_con.mpr hc)]; simp
  · rw [if_neg (fun e => by rw [ffI_con.mp e] at hc; cases hc)]; simp
theorem con_congr {n : Nat} {on ot : Nat → Nat} {op op' : Nat → Bool} {a b : Nat} (h : ∀ s, s < n → op s = op' s) : con n on ot op a b = con n on ot op' a b := by
  unfold con
  rw [rch_congr a h 7]
theorem mflow_eq (F : Nat) (hF : 4000 ≤ F) {S : ST} {Y n c : Nat} {on ot wn : Nat → Nat} {μ : Mo} (mt0 : MT S Y n c on ot wn) (hw : TW Y n c on ot wn) (hm : MM S n c μ) (wm : WM n c μ) {a b : Nat} (ha : a < Y) (hb : b < Y) (hab : a ≠ b) (x : Int32) (K : Nat) (hK : K = mnN (2 ^ n) (fun m => if con n on ot (fun s => !m.testBit s) a b then FR else sset n (fun s => m.testBit s) (kw (wd μ)))) : fX10_flow_b37 F F 209 (nI a) (nI b) x (nI (2 ^ n - 1)) (-9) 0 0 (hp S) = some (if x = 0 then nI (K / 8192) else nI (K % 512), hp S) ∧ K < FR := by
  have h9 := hw.2.1
  have y2 := hw.1.2
  have hn1 : 2 ^ n ≤ 2 ^ 9 := Nat.pow_le_pow_right (by omega) h9
  have hn2 : 1 ≤ 2 ^ n := Nat.one_le_two_pow
  have hFR : FR = 1073741824 := rfl
  have w10 := wd_10 wm
  generalize hg : (fun m : Nat => if con n on ot (fun s => !m.testBit s) a b then FR else sset n (fun s => m.testBit s) (kw (wd μ))) = g at hK
  have hgi : ∀ i, g i = if con n on ot (fun s => !i.testBit s) a b then FR else sset n (fun s => i.testBit s) (kw (wd μ)) := fun i => by rw [← hg]
  have hKlt : K < FR := by
    have h1 := mnN_le (k := 2 ^ n) (i := 2 ^ n - 1) (f := g) (by omega)
    rw [hgi] at h1
    have : con n on ot (fun s => !(2 ^ n - 1).testBit s) a b = false := by
      cases hc : con n on ot (fun s => !(2 ^ n - 1).testBit s) a b
      · rfl
      · have := (con_iff (by omega) (on_8 hw)).mp hc (fun y => y == a) (by simp) (fun s hs ho => by
          dsimp only at ho
          rw [Nat.testBit_two_pow_sub_one] at ho
          simp [hs] at ho)
        have : b = a := by simpa using this
        exact absurd this.symm hab
    rw [this, if_neg (by simp)] at h1
    have := kw_le h9 w10 (fun s => (2 ^ n - 1).testBit s) (Nat.le_refl n)
    omega
  refine ⟨?_, hKlt⟩
  have := loopA (fun k i (st : Int32 × Int32) => fX10_flow_b37 F k 209 (nI a) (nI b) x (nI (2 ^ n - 1)) st.1 st.2 (nI i) (hp S)) (2 ^ n) (fun i => (if mnN i g = FR then -9 else nI (mnN i g % 512), if mnN i g = FR then 0 else nI (mnN i g / 8192))) (some (if x = 0 then nI (K / 8192) else nI (K % 512), hp S)) ?_ ?_ F 0 (by omega) (by omega)
  · exact this
  · intro k
    show fX10_flow_b37c F _ 209 (nI a) (nI b) x (nI (2 ^ n - 1)) _ _ (nI (2 ^ n)) (hp S) = _
    unfold fX10_flow_b37c
    have hKne : ¬ K = FR := by omega
    rw [if_pos (nI_lt (by omega) (by omega))]
    simp only [← hK, if_neg hKne]
    by_cases hx0 : x = 0
    · rw [if_pos hx0, if_pos hx0]
    · rw [if_neg hx0, if_neg hx0]
  · intro k i hi
    obtain ⟨p1, p2, p3, p4⟩ := key_parts (wi := wd μ) h9 hi w10
    have hi9 : nI i = bs 9 (fun s => i.testBit s) := nI_bs (by omega)
    show fX10_flow_b37c F _ 209 (nI a) (nI b) x (nI (2 ^ n - 1)) _ _ (nI i) (hp S) = _
    have v1 : fX10_widthsOf F (hp S) 209 (nI i) = some (nI (sset n (fun s => i.testBit s) (wd μ)), hp S) := by rw [hi9]; exact widthsOf_eq F hF mt0.2.1 h9 hm wm _
    have v2 : fX10_bitsOf F (hp S) (nI i) = some (nI (cnt n (fun s => i.testBit s)), hp S) := by rw [hi9, bitsOf_eq F hF _ _ (by omega), cnt_bits hi h9]
    have v3 : fX10_wayBy F (hp S) 209 (nI a) (nI b) (nI (2 ^ n - 1) &&& (nI i ^^^ (-1))) = some (ffI 8 (fun t => rch n on ot (fun s => (decide (s < n) && opn (wd μ) 0 s) && !i.testBit s) a t b), hp S) := by
      rw [← allOpen h9 μ, hi9, bs_dif, wayBy_eq F hF mt0 hw _ ha hb]
    have v4 : con n on ot (fun s => (decide (s < n) && opn (wd μ) 0 s) && !i.testBit s) a b = con n on ot (fun s => !i.testBit s) a b := con_congr (fun s hs => by simp [hs, opn])
    have yes : ∀ f l : Int32, fX10_flow_b86 F (fX10_flow_b37 F k) 209 (nI a) (nI b) x (nI (2 ^ n - 1)) f l (nI i) (nI (sset n (fun s => i.testBit s) (wd μ))) (hp S) = if con n on ot (fun s => !i.testBit s) a b then fX10_flow_b37 F k 209 (nI a) (nI b) x (nI (2 ^ n - 1)) f l (nI (i + 1)) (hp S) else fX10_flow_b37 F k 209 (nI a) (nI b) x (nI (2 ^ n - 1)) (nI i) (nI (sset n (fun s => i.testBit s) (wd μ))) (nI (i + 1)) (hp S) := by
      intro f l
      unfold fX10_flow_b86 fX10_flow_b91 fX10_flow_b124
      simp only [v3, Option.bind_some, Nat.reduceAdd, e10, if_false, ffI_dec, v4, nI_1]
    have no : ∀ f l : Int32, fX10_flow_b90 F (fX10_flow_b37 F k) 209 (nI a) (nI b) x (nI (2 ^ n - 1)) f l (nI i) (nI (sset n (fun s => i.testBit s) (wd μ))) (hp S) = fX10_flow_b37 F k 209 (nI a) (nI b) x (nI (2 ^ n - 1)) f l (nI (i + 1)) (hp S) := by
      intro f l
      unfold fX10_flow_b90 fX10_flow_b91 fX10_flow_b124
      simp only [if_true, nI_1]
    unfold fX10_flow_b37c
    simp only [v1, Option.bind_some, Nat.reduceAdd, yes, no]
    rw [if_neg (nI_nlt (by omega) (by omega))]
    have hM := mnN_at i g
    have hM0 := mnN_le0 i g
    have es : mnN (i + 1) g = min (mnN i g) (g i) := rfl
    rw [es, hgi i]
    rcases hM with hM | ⟨j, hj, hM⟩
    · rw [hM]
      simp only [if_true]
      cases con n on ot (fun s => !i.testBit s) a b
      · simp only [Bool.false_eq_true, if_false]
        rw [Nat.min_eq_right (by omega), p1, if_neg (by omega), if_neg (by omega)]
        congr 2 <;> omega
      · simp only [if_true]
        rw [Nat.min_self, if_pos rfl, if_pos rfl]
    · rw [hM] at hM0 ⊢
      rw [hgi j] at hM0 ⊢
      cases hcj : con n on ot (fun s => !j.testBit s) a b
      · simp only [Bool.false_eq_true, if_false]
        obtain ⟨q1, q2, q3, q4⟩ := key_parts (wi := wd μ) (m := j) h9 (by omega) w10
        have hj9 : nI j = bs 9 (fun s => j.testBit s) := nI_bs (by omega)
        have u2 : fX10_bitsOf F (hp S) (nI j) = some (nI (cnt n (fun s => j.testBit s)), hp S) := by rw [hj9, bitsOf_eq F hF _ _ (by omega), cnt_bits (by omega) h9]
        rw [q1, p1]
        generalize sset n (fun s => i.testBit s) (wd μ) = W at *
        generalize sset n (fun s => j.testBit s) (wd μ) = V at *
        generalize cnt n (fun s => i.testBit s) = A at *
        generalize cnt n (fun s => j.testBit s) = B at *
        have ej1 : (8192 * V + 512 * B + j) % 512 = j := by omega
        have ej2 : (8192 * V + 512 * B + j) / 8192 = V := by omega
        have ei1 : (8192 * W + 512 * A + i) % 512 = i := by omega
        have ei2 : (8192 * W + 512 * A + i) / 8192 = W := by omega
        have nf : ¬ 8192 * V + 512 * B + j = FR := by omega
        simp only [if_neg nf, ej1, ej2, v2, u2, Option.bind_some, Nat.reduceAdd, yes, no]
        rw [if_neg (nI_m9 (by omega))]
        cases con n on ot (fun s => !i.testBit s) a b
        · simp only [Bool.false_eq_true, if_false]
          by_cases h1 : W < V
          · rw [if_pos (nI_lt h1 (by omega)), Nat.min_eq_right (by omega), if_neg (by omega), if_neg (by omega), ei1, ei2]
          · rw [if_neg (nI_nlt (by omega) (by omega))]
            by_cases h2 : W = V
            · rw [if_pos (by rw [h2])]
              by_cases h3 : B ≤ A
              · rw [if_pos (nI_le h3 (by omega)), Nat.min_eq_left (by omega), if_neg nf, if_neg nf, ej1, ej2]
              · rw [if_neg (nI_ge (by omega) (by omega)), Nat.min_eq_right (by omega), if_neg (by omega), if_neg (by omega), ei1, ei2]
            · rw [if_neg (fun e => h2 ((nI_eq (by omega) (by omega)).mp e)), Nat.min_eq_left (by omega), if_neg nf, if_neg nf, ej1, ej2]
        · simp only [if_true]
          rw [Nat.min_eq_left (by omega), if_neg nf, if_neg nf, ej1, ej2]
          by_cases h1 : W < V
          · rw [if_pos (nI_lt h1 (by omega))]
          · rw [if_neg (nI_nlt (by omega) (by omega))]
            by_cases h2 : W = V
            · rw [if_pos (by rw [h2])]
              split <;> rfl
            · rw [if_neg (fun e => h2 ((nI_eq (by omega) (by omega)).mp e))]
      · simp only [if_true]
        cases con n on ot (fun s => !i.testBit s) a b
        · simp only [Bool.false_eq_true, if_false]
          rw [Nat.min_eq_right (by omega), p1, if_neg (by omega), if_neg (by omega)]
          congr 2 <;> omega
        · simp only [if_true]
          rw [Nat.min_self, if_pos rfl, if_pos rfl]
theorem c_flow (F : Nat) (hF : 4000 ≤ F) {S : ST} (h : Inv S) (x y z : Int32) : Ok S (fun L => fX9_flow F L 0 x y z) (fun L => fX10_flow F L 209 x y z) := by
  have hI := h
  obtain ⟨Y, n, c, on, ot, wn, μ, k, ms, T, tx, f, mw, mn, kp, im, ik, ims, htw, hwa, hk, hm, htr⟩ := h
  have h9 := htw.2.1
  have h6 := htw.2.2.1
  have kt := hk.1
  have km := hk.2.1.1
  have wm := hwa.1
  rcases twoc x y htw.1.2 with ⟨a, b, ha, hb, hab, rfl, rfl, hx⟩ | hx
  · by_cases hz : (0 : Int32) ≤ z ∧ z ≤ 1
    · obtain ⟨S1, e1, f1, p1⟩ := waysNow_eq F hF h9 h6 kt km wm
      obtain ⟨m1, m2, m3, m4, m5⟩ := M_fr hm f1 (by omega)
      have lc := leastCut_eq F hF p1 htw (wd_10 wm) ha hb
      rw [cut_two h9 htw.1.2 ha hb (on_lt htw)] at lc
      obtain ⟨K, hK⟩ : ∃ K, K = mnN (2 ^ n) (fun m => if con n on ot (fun s => !m.testBit s) a b then FR else sset n (fun s => m.testBit s) (kw (wd μ))) := ⟨_, rfl⟩
      obtain ⟨mf, hlt⟩ := mflow_eq F hF m1 htw m2.1 wm ha hb hab z K hK
      rw [← hK] at lc
      have hFR : FR = 1073741824 := rfl
      refine ⟨if z = 0 then nI (K / 8192) else nI (K % 512), S1, S1, ?_, ?_, hI.scr f1 (by omega)⟩
      · show fX9_flow F (hp S) 0 _ _ _ = _
        unfold fX9_flow fX8_widthIn fX8_streetsIn
        simp only [Option.bind_some, Nat.reduceAdd, ob8 kd_0, g8_0 kd_0, g8_1 kd_0, g8_2 kd_0, g8_3 kd_0, g8_4 kd_0, g8_5 kd_0, g8_6 kd_0, g8_7 kd_0, g8_8 kd_0, g8_9 kd_0, p8_5 kd_0, p8_9 kd_0, yards_eq F kt.1, if_pos hx, e10, if_false, within_eq, if_pos hz, e1, lc]
        rw [show nI K / 8192 = nI (K / 8192) from pk_div (d := 8192) (by omega) (by decide) (by decide), show nI K - nI K / 512 * 512 = nI (K % 512) from pk_rem (d := 512) (by omega) (by decide) (by decide)]
        split <;> rfl
      · show fX10_flow F (hp S1) 209 _ _ _ = _
        unfold fX10_flow
        simp only [Option.bind_some, Nat.reduceAdd, ob9 kd_209, g9_0 kd_209, g9_1 kd_209, g9_2 kd_209, g9_3 kd_209, g9_4 kd_209, g9_5 kd_209, g9_6 kd_209, g9_7 kd_209, g9_8 kd_209, g9_9 kd_209, g9_10 kd_209, g9_11 kd_209, g9_12 kd_209, g9_13 kd_209, g9_14 kd_209, g9_15 kd_209, g9_16 kd_209, g9_17 kd_209, g9_18 kd_209, g9_19 kd_209, g9_20 kd_209, g9_21 kd_209, g9_22 kd_209, g9_23 kd_209, g9_24 kd_209, g9_25 kd_209, p9_1 kd_209, p9_10 kd_209, p9_11 kd_209, p9_12 kd_209, p9_13 kd_209, p9_14 kd_209, p9_15 kd_209, p9_24 kd_209, p9_25 kd_209, areTwo_eq F m1.1, if_pos hx, e10, if_false, in_eq, if_pos hz]
        rw [show fX10_openBy F (hp S1) 209 0 = _ from openBy_eq F hF m1.2.1 h9 m2.1 wm (w := 0) (by omega)]
        simp only [Option.bind_some, Nat.reduceAdd, allOpen h9 μ, mf]
    · refine Ok.of hI ⟨-1, ?_, ?_⟩
      · unfold fX9_flow fX9_flow_b18
        simp only [Option.bind_some, Nat.reduceAdd, ob8 kd_0, g8_0 kd_0, g8_1 kd_0, g8_2 kd_0, g8_3 kd_0, g8_4 kd_0, g8_5 kd_0, g8_6 kd_0, g8_7 kd_0, g8_8 kd_0, g8_9 kd_0, p8_5 kd_0, p8_9 kd_0, yards_eq F kt.1, if_pos hx, e10, if_false, within_eq, if_neg hz, if_true]
      · unfold fX10_flow fX10_flow_b18
        simp only [Option.bind_some, Nat.reduceAdd, ob9 kd_209, g9_0 kd_209, g9_1 kd_209, g9_2 kd_209, g9_3 kd_209, g9_4 kd_209, g9_5 kd_209, g9_6 kd_209, g9_7 kd_209, g9_8 kd_209, g9_9 kd_209, g9_10 kd_209, g9_11 kd_209, g9_12 kd_209, g9_13 kd_209, g9_14 kd_209, g9_15 kd_209, g9_16 kd_209, g9_17 kd_209, g9_18 kd_209, g9_19 kd_209, g9_20 kd_209, g9_21 kd_209, g9_22 kd_209, g9_23 kd_209, g9_24 kd_209, g9_25 kd_209, p9_1 kd_209, p9_10 kd_209, p9_11 kd_209, p9_12 kd_209, p9_13 kd_209, p9_14 kd_209, p9_15 kd_209, p9_24 kd_209, p9_25 kd_209, areTwo_eq F hm.1.1, if_pos hx, e10, if_false, in_eq, if_neg hz, if_true]
  · refine Ok.of hI ⟨-1, ?_, ?_⟩
    · unfold fX9_flow fX9_flow_b18
      simp only [Option.bind_some, Nat.reduceAdd, ob8 kd_0, g8_0 kd_0, g8_1 kd_0, g8_2 kd_0, g8_3 kd_0, g8_4 kd_0, g8_5 kd_0, g8_6 kd_0, g8_7 kd_0, g8_8 kd_0, g8_9 kd_0, p8_5 kd_0, p8_9 kd_0, yards_eq F kt.1, if_neg hx, if_true]
    · unfold fX10_flow fX10_flow_b18
      simp only [Option.bind_some, Nat.reduceAdd, ob9 kd_209, g9_0 kd_209, g9_1 kd_209, g9_2 kd_209, g9_3 kd_209, g9_4 kd_209, g9_5 kd_209, g9_6 kd_209, g9_7 kd_209, g9_8 kd_209, g9_9 kd_209, g9_10 kd_209, g9_11 kd_209, g9_12 kd_209, g9_13 kd_209, g9_14 kd_209, g9_15 kd_209, g9_16 kd_209, g9_17 kd_209, g9_18 kd_209, g9_19 kd_209, g9_20 kd_209, g9_21 kd_209, g9_22 kd_209, g9_23 kd_209, g9_24 kd_209, g9_25 kd_209, p9_1 kd_209, p9_10 kd_209, p9_11 kd_209, p9_12 kd_209, p9_13 kd_209, p9_14 kd_209, p9_15 kd_209, p9_24 kd_209, p9_25 kd_209, areTwo_eq F hm.1.1, if_neg hx, if_true]

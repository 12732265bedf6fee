/-! the reference's reads -/
theorem m211_0 {S : ST} : o_aI (hp S) 211 0 0 = some (S.1 211 0) := ra (j := 0) rfl (by decide) (by decide)
theorem m211_1 {S : ST} : o_aI (hp S) 211 0 1 = some (S.1 211 1) := ra (j := 1) rfl (by decide) (by decide)
theorem m212_0 {S : ST} : o_aI (hp S) 212 0 0 = some (S.1 212 0) := ra (j := 0) rfl (by decide) (by decide)
theorem m212_1 {S : ST} : o_aI (hp S) 212 0 1 = some (S.1 212 1) := ra (j := 1) rfl (by decide) (by decide)
theorem m216_0 {S : ST} : o_aI (hp S) 216 0 0 = some (S.1 216 0) := ra (j := 0) rfl (by decide) (by decide)
theorem m216_1 {S : ST} : o_aI (hp S) 216 0 1 = some (S.1 216 1) := ra (j := 1) rfl (by decide) (by decide)
theorem m219_0 {S : ST} : o_aI (hp S) 219 0 0 = some (S.1 219 0) := ra (j := 0) rfl (by decide) (by decide)
theorem m220_0 {S : ST} : o_aI (hp S) 220 0 0 = some (S.1 220 0) := ra (j := 0) rfl (by decide) (by decide)
theorem la1 (i : Nat) : (1 : Int32) + nI i = nI (1 + i) := nI_add 1 i
theorem la6 (i : Nat) : (6 : Int32) + nI i = nI (6 + i) := nI_add 6 i
theorem la9 (i : Nat) : (9 : Int32) + nI i = nI (9 + i) := nI_add 9 i
theorem la10 (i : Nat) : (10 : Int32) + nI i = nI (10 + i) := nI_add 10 i
theorem la19 (i : Nat) : (19 : Int32) + nI i = nI (19 + i) := nI_add 19 i
theorem la28 (i : Nat) : (28 : Int32) + nI i = nI (28 + i) := nI_add 28 i
def MT (S : ST) (Y n c : Nat) (on ot wa : Nat → Nat) : Prop := S.1 211 0 = nI Y ∧ S.1 212 0 = nI n ∧ S.1 216 0 = nI c ∧ (∀ s, s < n → S.1 213 s = nI (on s)) ∧ (∀ s, s < n → S.1 214 s = nI (ot s)) ∧ (∀ p, p < c → S.1 218 p = nI (wa p))
/-- a moment in the array a from the place off on -/
def MMo (S : ST) (n c a off : Nat) (μ : Mo) : Prop := S.1 a off = nI (μ 4 0) ∧ (∀ s, s < n → S.1 a (off + (1 + s)) = nI (μ 0 s)) ∧ (∀ s, s < n → S.1 a (off + (10 + s)) = nI (μ 1 s)) ∧ (∀ s, s < n → S.1 a (off + (19 + s)) = nI (μ 2 s)) ∧ (∀ p, p < c → S.1 a (off + (28 + p)) = nI (μ 3 p))
def MM (S : ST) (n c : Nat) (μ : Mo) : Prop := S.1 219 0 = nI (μ 4 0) ∧ (∀ s, s < n → S.1 219 (1 + s) = nI (μ 0 s)) ∧ (∀ s, s < n → S.1 219 (10 + s) = nI (μ 1 s)) ∧ (∀ s, s < n → S.1 219 (19 + s) = nI (μ 2 s)) ∧ (∀ p, p < c → S.1 219 (28 + p) = nI (μ 3 p))
theorem mIsStreet_eq (F : Nat) {S : ST} {n : Nat} (hn : S.1 212 0 = nI n) (x : Int32) : fX10_isStreet F (hp S) 209 x = some (if 0 ≤ x ∧ x ≤ nI n - 1 then 1 else 0, hp S) := by
  unfold fX10_isStreet
  simp only [Option.bind_some, Nat.reduceAdd, ob9 kd_209, g9_0 kd_209, g9_1 kd_209, g9_2 kd_209, g9_3 kd_209, g9_4 kd_209, g9_5 kd_209, g9_6 kd_209, g9_7 kd_209, g9_8 kd_209, g9_9 kd_209, g9_10 kd_209, g9_11 kd_209, g9_12 kd_209, g9_13 kd_209, g9_14 kd_209, g9_15 kd_209, g9_16 kd_209, g9_17 kd_209, g9_18 kd_209, g9_19 kd_209, g9_20 kd_209, g9_21 kd_209, g9_22 kd_209, g9_23 kd_209, g9_24 kd_209, g9_25 kd_209, p9_1 kd_209, p9_10 kd_209, p9_11 kd_209, p9_12 kd_209, p9_13 kd_209, p9_14 kd_209, p9_15 kd_209, p9_24 kd_209, p9_25 kd_209, m212_0, hn, in_eq, ob_if]
theorem mIsPerson_eq (F : Nat) {S : ST} {c : Nat} (hn : S.1 216 0 = nI c) (x : Int32) : fX10_isPerson F (hp S) 209 x = some (if 0 ≤ x ∧ x ≤ nI c - 1 then 1 else 0, hp S) := by
  unfold fX10_isPerson
  simp only [Option.bind_some, Nat.reduceAdd, ob9 kd_209, g9_0 kd_209, g9_1 kd_209, g9_2 kd_209, g9_3 kd_209, g9_4 kd_209, g9_5 kd_209, g9_6 kd_209, g9_7 kd_209, g9_8 kd_209, g9_9 kd_209, g9_10 kd_209, g9_11 kd_209, g9_12 kd_209, g9_13 kd_209, g9_14 kd_209, g9_15 kd_209, g9_16 kd_209, g9_17 kd_209, g9_18 kd_209, g9_19 kd_209, g9_20 kd_209, g9_21 kd_209, g9_22 kd_209, g9_23 kd_209, g9_24 kd_209, g9_25 kd_209, p9_1 kd_209, p9_10 kd_209, p9_11 kd_209, p9_12 kd_209, p9_13 kd_209, p9_14 kd_209, p9_15 kd_209, p9_24 kd_209, p9_25 kd_209, m216_0, hn, in_eq, ob_if]
theorem mIsYard_eq (F : Nat) {S : ST} {Y : Nat} (hn : S.1 211 0 = nI Y) (x : Int32) : fX10_isYard F (hp S) 209 x = some (if 0 ≤ x ∧ x ≤ nI Y - 1 then 1 else 0, hp S) := by
  unfold fX10_isYard
  simp only [Option.bind_some, Nat.reduceAdd, ob9 kd_209, g9_0 kd_209, g9_1 kd_209, g9_2 kd_209, g9_3 kd_209, g9_4 kd_209, g9_5 kd_209, g9_6 kd_209, g9_7 kd_209, g9_8 kd_209, g9_9 kd_209, g9_10 kd_209, g9_11 kd_209, g9_12 kd_209, g9_13 kd_209, g9_14 kd_209, g9_15 kd_209, g9_16 kd_209, g9_17 kd_209, g9_18 kd_209, g9_19 kd_209, g9_20 kd_209, g9_21 kd_209, g9_22 kd_209, g9_23 kd_209, g9_24 kd_209, g9_25 kd_209, p9_1 kd_209, p9_10 kd_209, p9_11 kd_209, p9_12 kd_209, p9_13 kd_209, p9_14 kd_209, p9_15 kd_209, p9_24 kd_209, p9_25 kd_209, m211_0, hn, in_eq, ob_if]
theorem mWidthOf_eq (F : Nat) {S : ST} {n c s : Nat} {μ : Mo} (hm : MM S n c μ) (hw : WM n c μ) (h9 : n ≤ 9) (hs : s < n) : fX10_widthOf F (hp S) 209 (nI s) = some (nI (wd μ s), hp S) := by
  obtain ⟨m1, m2, m3, m4, m5⟩ := hm
  obtain ⟨w1, w2, w3⟩ := hw.1 s hs
  unfold fX10_widthOf fX10_widthOf_b32 fX10_widthOf_b44
  simp only [Option.bind_some, Nat.reduceAdd, ob9 kd_209, g9_0 kd_209, g9_1 kd_209, g9_2 kd_209, g9_3 kd_209, g9_4 kd_209, g9_5 kd_209, g9_6 kd_209, g9_7 kd_209, g9_8 kd_209, g9_9 kd_209, g9_10 kd_209, g9_11 kd_209, g9_12 kd_209, g9_13 kd_209, g9_14 kd_209, g9_15 kd_209, g9_16 kd_209, g9_17 kd_209, g9_18 kd_209, g9_19 kd_209, g9_20 kd_209, g9_21 kd_209, g9_22 kd_209, g9_23 kd_209, g9_24 kd_209, g9_25 kd_209, p9_1 kd_209, p9_10 kd_209, p9_11 kd_209, p9_12 kd_209, p9_13 kd_209, p9_14 kd_209, p9_15 kd_209, p9_24 kd_209, p9_25 kd_209, m219_0, la1, la19]
  rw [ra (by rfl) (by decide) (by rw [kd_219]; show 1 + s < 34; omega)]
  simp only [Option.bind_some, Nat.reduceAdd]
  rw [m1, m2 s hs, show (1 : Int32) = nI 1 from rfl]
  by_cases h : μ 4 0 = 1
  · rw [if_pos (by rw [h])]
    rw [show (0 : Int32) = nI 0 from rfl]
    unfold wd
    rw [if_pos h]
    by_cases h0 : μ 0 s ≤ 0
    · rw [if_pos ((nI_leI (by omega) (by omega)).mpr h0), nI_add]
      congr 3
      omega
    · rw [if_neg (fun e => h0 ((nI_leI (by omega) (by omega)).mp e)), nI_add]
  · rw [if_neg (fun e => h ((nI_eq (by have := hw.2.2; omega) (by omega)).mp e)), ra (by rfl) (by decide) (by rw [kd_219]; show 19 + s < 34; omega)]
    simp only [Option.bind_some, Nat.reduceAdd]
    rw [m4 s hs]
    unfold wd
    rw [if_neg h]
    by_cases h0 : μ 0 s ≤ μ 2 s
    · rw [if_pos ((nI_leI (by omega) (by omega)).mpr h0), nI_add, Nat.max_eq_right h0]
    · rw [if_neg (fun e => h0 ((nI_leI (by omega) (by omega)).mp e)), nI_add, Nat.max_eq_left (by omega)]
theorem allWidths_eq (F : Nat) (hF : 4000 ≤ F) {S : ST} {n c : Nat} {μ : Mo} (hn : S.1 212 0 = nI n) (h9 : n ≤ 9) (hm : MM S n c μ) (hw : WM n c μ) : fX10_allWidths F (hp S) 209 = some (nI (sumN n (wd μ)), hp S) := by
  unfold fX10_allWidths
  simp only [Option.bind_some, Nat.reduceAdd, ob9 kd_209, g9_0 kd_209, g9_1 kd_209, g9_2 kd_209, g9_3 kd_209, g9_4 kd_209, g9_5 kd_209, g9_6 kd_209, g9_7 kd_209, g9_8 kd_209, g9_9 kd_209, g9_10 kd_209, g9_11 kd_209, g9_12 kd_209, g9_13 kd_209, g9_14 kd_209, g9_15 kd_209, g9_16 kd_209, g9_17 kd_209, g9_18 kd_209, g9_19 kd_209, g9_20 kd_209, g9_21 kd_209, g9_22 kd_209, g9_23 kd_209, g9_24 kd_209, g9_25 kd_209, p9_1 kd_209, p9_10 kd_209, p9_11 kd_209, p9_12 kd_209, p9_13 kd_209, p9_14 kd_209, p9_15 kd_209, p9_24 kd_209, p9_25 kd_209]
  have := loopA (fun k i st => fX10_allWidths_b4 F k 209 st (nI i) (hp S)) n (fun i => nI (sumN i (wd μ))) (some (nI (sumN n (wd μ)), hp S)) ?_ ?_ F 0 (by omega) (by omega)
  · exact this
  · intro k
    show fX10_allWidths_b4c F _ 209 _ (nI n) (hp S) = _
    unfold fX10_allWidths_b4c
    simp only [Option.bind_some, Nat.reduceAdd, ob9 kd_209, g9_0 kd_209, g9_1 kd_209, g9_2 kd_209, g9_3 kd_209, g9_4 kd_209, g9_5 kd_209, g9_6 kd_209, g9_7 kd_209, g9_8 kd_209, g9_9 kd_209, g9_10 kd_209, g9_11 kd_209, g9_12 kd_209, g9_13 kd_209, g9_14 kd_209, g9_15 kd_209, g9_16 kd_209, g9_17 kd_209, g9_18 kd_209, g9_19 kd_209, g9_20 kd_209, g9_21 kd_209, g9_22 kd_209, g9_23 kd_209, g9_24 kd_209, g9_25 kd_209, p9_1 kd_209, p9_10 kd_209, p9_11 kd_209, p9_12 kd_209, p9_13 kd_209, p9_14 kd_209, p9_15 kd_209, p9_24 kd_209, p9_25 kd_209, m212_0, hn]
    rw [if_pos (nI_le (Nat.le_refl _) (by omega))]
  · intro k i hi
    show fX10_allWidths_b4c F _ 209 _ (nI i) (hp S) = _
    unfold fX10_allWidths_b4c
    simp only [Option.bind_some, Nat.reduceAdd, ob9 kd_209, g9_0 kd_209, g9_1 kd_209, g9_2 kd_209, g9_3 kd_209, g9_4 kd_209, g9_5 kd_209, g9_6 kd_209, g9_7 kd_209, g9_8 kd_209, g9_9 kd_209, g9_10 kd_209, g9_11 kd_209, g9_12 kd_209, g9_13 kd_209, g9_14 kd_209, g9_15 kd_209, g9_16 kd_209, g9_17 kd_209, g9_18 kd_209, g9_19 kd_209, g9_20 kd_209, g9_21 kd_209, g9_22 kd_209, g9_23 kd_209, g9_24 kd_209, g9_25 kd_209, p9_1 kd_209, p9_10 kd_209, p9_11 kd_209, p9_12 kd_209, p9_13 kd_209, p9_14 kd_209, p9_15 kd_209, p9_24 kd_209, p9_25 kd_209, m212_0, hn]
    rw [if_neg (nI_ge hi (by omega)), mWidthOf_eq F hm hw h9 hi]
    simp only [Option.bind_some, Nat.reduceAdd, nI_1, nI_add]
    rfl
/-- one more member, or none -/
theorem bs_step {k i : Nat} (P : Nat → Bool) (hi : i < k) (hk : k ≤ 31) : bs k (fun t => decide (t < i) && P t) ||| (if P i then (1 : Int32) <<< (nI i &&& 31) else 0) = bs k (fun t => decide (t < i + 1) && P t) := by
  by_cases hp : P i = true
  · rw [if_pos hp, bs_one hi hk, bs_or]
    apply bs_ext
    intro j hj
    by_cases hji : j = i
    · subst hji; simp [hp]
    · have : (decide (j < i) : Bool) = decide (j < i + 1) := decide_eq_decide.mpr (by omega)
      rw [this]
      simp [hji]
  · rw [if_neg hp, ← bs_none k, bs_or]
    apply bs_ext
    intro j hj
    by_cases hji : j = i
    · subst hji; simp [hp]
    · have : (decide (j < i) : Bool) = decide (j < i + 1) := decide_eq_decide.mpr (by omega)
      rw [this]
      simp
theorem mLivingIn_eq (F : Nat) (hF : 4000 ≤ F) {S : ST} {n c : Nat} {μ : Mo} (hc : S.1 216 0 = nI c) (h6 : c ≤ 6) (h9 : n ≤ 9) (hm : MM S n c μ) (hw : WM n c μ) {s : Nat} (hs : s < n) : fX10_livingIn F (hp S) 209 (nI s) = some (bs 6 (fun p => decide (p < c) && (μ 3 p == s)), hp S) := by
  unfold fX10_livingIn
  simp only [Option.bind_some, Nat.reduceAdd, ob9 kd_209, g9_0 kd_209, g9_1 kd_209, g9_2 kd_209, g9_3 kd_209, g9_4 kd_209, g9_5 kd_209, g9_6 kd_209, g9_7 kd_209, g9_8 kd_209, g9_9 kd_209, g9_10 kd_209, g9_11 kd_209, g9_12 kd_209, g9_13 kd_209, g9_14 kd_209, g9_15 kd_209, g9_16 kd_209, g9_17 kd_209, g9_18 kd_209, g9_19 kd_209, g9_20 kd_209, g9_21 kd_209, g9_22 kd_209, g9_23 kd_209, g9_24 kd_209, g9_25 kd_209, p9_1 kd_209, p9_10 kd_209, p9_11 kd_209, p9_12 kd_209, p9_13 kd_209, p9_14 kd_209, p9_15 kd_209, p9_24 kd_209, p9_25 kd_209]
  have := loopA (fun k i st => fX10_livingIn_b4 F k 209 (nI s) st (nI i) (hp S)) c (fun i => bs 6 (fun p => decide (p < i) && (μ 3 p == s))) (some (bs 6 (fun p => decide (p < c) && (μ 3 p == s)), hp S)) ?_ ?_ F 0 (by omega) (by omega)
  · refine Eq.trans ?_ this
    show _ = fX10_livingIn_b4 F F 209 (nI s) (bs 6 _) (nI 0) (hp S)
    rw [bs_init]
    rfl
  · intro k
    show fX10_livingIn_b4c F _ 209 _ _ (nI c) (hp S) = _
    unfold fX10_livingIn_b4c
    simp only [Option.bind_some, Nat.reduceAdd, ob9 kd_209, g9_0 kd_209, g9_1 kd_209, g9_2 kd_209, g9_3 kd_209, g9_4 kd_209, g9_5 kd_209, g9_6 kd_209, g9_7 kd_209, g9_8 kd_209, g9_9 kd_209, g9_10 kd_209, g9_11 kd_209, g9_12 kd_209, g9_13 kd_209, g9_14 kd_209, g9_15 kd_209, g9_16 kd_209, g9_17 kd_209, g9_18 kd_209, g9_19 kd_209, g9_20 kd_209, g9_21 kd_209, g9_22 kd_209, g9_23 kd_209, g9_24 kd_209, g9_25 kd_209, p9_1 kd_209, p9_10 kd_209, p9_11 kd_209, p9_12 kd_209, p9_13 kd_209, p9_14 kd_209, p9_15 kd_209, p9_24 kd_209, p9_25 kd_209, m216_0, hc]
    rw [if_pos (nI_le (Nat.le_refl _) (by omega))]
  · intro k i hi
    have hh := hw.2.1 i hi
    show fX10_livingIn_b4c F _ 209 _ _ (nI i) (hp S) = _
    unfold fX10_livingIn_b4c fX10_livingIn_b35
    simp only [Option.bind_some, Nat.reduceAdd, ob9 kd_209, g9_0 kd_209, g9_1 kd_209, g9_2 kd_209, g9_3 kd_209, g9_4 kd_209, g9_5 kd_209, g9_6 kd_209, g9_7 kd_209, g9_8 kd_209, g9_9 kd_209, g9_10 kd_209, g9_11 kd_209, g9_12 kd_209, g9_13 kd_209, g9_14 kd_209, g9_15 kd_209, g9_16 kd_209, g9_17 kd_209, g9_18 kd_209, g9_19 kd_209, g9_20 kd_209, g9_21 kd_209, g9_22 kd_209, g9_23 kd_209, g9_24 kd_209, g9_25 kd_209, p9_1 kd_209, p9_10 kd_209, p9_11 kd_209, p9_12 kd_209, p9_13 kd_209, p9_14 kd_209, p9_15 kd_209, p9_24 kd_209, p9_25 kd_209, m216_0, hc, la28]
    rw [if_neg (nI_ge hi (by omega)), ra (by rfl) (by decide) (by rw [kd_219]; show 28 + i < 34; omega)]
    simp only [Option.bind_some, Nat.reduceAdd, nI_1]
    rw [hm.2.2.2.2 i hi, ← bs_step (fun p => μ 3 p == s) (show i < 6 by omega) (by omega)]
    by_cases h : μ 3 i = s
    · rw [if_pos (by rw [h]), if_pos (by simpa using h)]
    · rw [if_neg (fun e => h ((nI_eq (by omega) (by omega)).mp e)), if_neg (by simpa using h)]
theorem doMeet_eq (F : Nat) {S : ST} {Y n c : Nat} {on ot wa : Nat → Nat} (hk : MT S Y n c on ot wa) (hw : TW Y n c on ot wa) {s t : Nat} (hs : s < n) (ht : t < n) : fX10_doMeet F (hp S) 209 (nI s) (nI t) = some (if mt on ot s t then 1 else 0, hp S) := by
  obtain ⟨k1, k2, k3, k4, k5, k6⟩ := hk
  obtain ⟨⟨y1, y2⟩, hn, hc, w1, w2⟩ := hw
  obtain ⟨a1, a2, a3⟩ := w1 s hs
  obtain ⟨b1, b2, b3⟩ := w1 t ht
  have r1 : o_aI (hp S) 213 0 (nI s) = some (nI (on s)) := by rw [ra (by rfl) (by decide) (by rw [kd_213]; show s < 18; omega), k4 s hs]
  have r2 : o_aI (hp S) 213 0 (nI t) = some (nI (on t)) := by rw [ra (by rfl) (by decide) (by rw [kd_213]; show t < 18; omega), k4 t ht]
  have r3 : o_aI (hp S) 214 0 (nI s) = some (nI (ot s)) := by rw [ra (by rfl) (by decide) (by rw [kd_214]; show s < 18; omega), k5 s hs]
  have r4 : o_aI (hp S) 214 0 (nI t) = some (nI (ot t)) := by rw [ra (by rfl) (by decide) (by rw [kd_214]; show t < 18; omega), k5 t ht]
  unfold fX10_doMeet fX10_doMeet_b60
  simp only [Option.bind_some, Nat.reduceAdd, ob9 kd_209, g9_0 kd_209, g9_1 kd_209, g9_2 kd_209, g9_3 kd_209, g9_4 kd_209, g9_5 kd_209, g9_6 kd_209, g9_7 kd_209, g9_8 kd_209, g9_9 kd_209, g9_10 kd_209, g9_11 kd_209, g9_12 kd_209, g9_13 kd_209, g9_14 kd_209, g9_15 kd_209, g9_16 kd_209, g9_17 kd_209, g9_18 kd_209, g9_19 kd_209, g9_20 kd_209, g9_21 kd_209, g9_22 kd_209, g9_23 kd_209, g9_24 kd_209, g9_25 kd_209, p9_1 kd_209, p9_10 kd_209, p9_11 kd_209, p9_12 kd_209, p9_13 kd_209, p9_14 kd_209, p9_15 kd_209, p9_24 kd_209, p9_25 kd_209, r1, r2, r3, r4, nI_eq (show on s < 2 ^ 31 by omega) (show on t < 2 ^ 31 by omega), nI_eq (show on s < 2 ^ 31 by omega) (show ot t < 2 ^ 31 by omega), nI_eq (show ot s < 2 ^ 31 by omega) (show on t < 2 ^ 31 by omega), nI_eq (show ot s < 2 ^ 31 by omega) (show ot t < 2 ^ 31 by omega)]
  unfold mt
  by_cases h1 : on s = on t
  · simp [h1]
  · by_cases h2 : on s = ot t
    · simp [h1, h2]
    · by_cases h3 : ot s = on t
      · simp [h1, h2, h3]
      · by_cases h4 : ot s = ot t
        · simp [h1, h2, h3, h4]
        · simp [h1, h2, h3, h4]
theorem mWitnesses_eq (F : Nat) (hF : 4000 ≤ F) {S : ST} {Y n c : Nat} {on ot wa : Nat → Nat} {μ : Mo} (hk : MT S Y n c on ot wa) (hw : TW Y n c on ot wa) (hm : MM S n c μ) (hwm : WM n c μ) {p : Nat} (hp' : p < c) : fX10_witnesses F (hp S) 209 (nI p) = some (bs 6 (fun o => decide (o < c) && (!(o == p) && mt on ot (μ 3 p) (μ 3 o))), hp S) := by
  have h6 := hw.2.2.1
  have h9 := hw.2.1
  have hhp := hwm.2.1 p hp'
  have hc := hk.2.2.1
  unfold fX10_witnesses
  simp only [Option.bind_some, Nat.reduceAdd, ob9 kd_209, g9_0 kd_209, g9_1 kd_209, g9_2 kd_209, g9_3 kd_209, g9_4 kd_209, g9_5 kd_209, g9_6 kd_209, g9_7 kd_209, g9_8 kd_209, g9_9 kd_209, g9_10 kd_209, g9_11 kd_209, g9_12 kd_209, g9_13 kd_209, g9_14 kd_209, g9_15 kd_209, g9_16 kd_209, g9_17 kd_209, g9_18 kd_209, g9_19 kd_209, g9_20 kd_209, g9_21 kd_209, g9_22 kd_209, g9_23 kd_209, g9_24 kd_209, g9_25 kd_209, p9_1 kd_209, p9_10 kd_209, p9_11 kd_209, p9_12 kd_209, p9_13 kd_209, p9_14 kd_209, p9_15 kd_209, p9_24 kd_209, p9_25 kd_209]
  have := loopA (fun k i st => fX10_witnesses_b4 F k 209 (nI p) st (nI i) (hp S)) c (fun i => bs 6 (fun o => decide (o < i) && (!(o == p) && mt on ot (μ 3 p) (μ 3 o)))) (some (bs 6 (fun o => decide (o < c) && (!(o == p) && mt on ot (μ 3 p) (μ 3 o))), hp S)) ?_ ?_ F 0 (by omega) (by omega)
  · refine Eq.trans ?_ this
    show _ = fX10_witnesses_b4 F F 209 (nI p) (bs 6 _) (nI 0) (hp S)
    rw [bs_init]
    rfl
  · intro k
    show fX10_witnesses_b4c F _ 209 _ _ (nI c) (hp S) = _
    unfold fX10_witnesses_b4c
    simp only [Option.bind_some, Nat.reduceAdd, ob9 kd_209, g9_0 kd_209, g9_1 kd_209, g9_2 kd_209, g9_3 kd_209, g9_4 kd_209, g9_5 kd_209, g9_6 kd_209, g9_7 kd_209, g9_8 kd_209, g9_9 kd_209, g9_10 kd_209, g9_11 kd_209, g9_12 kd_209, g9_13 kd_209, g9_14 kd_209, g9_15 kd_209, g9_16 kd_209, g9_17 kd_209, g9_18 kd_209, g9_19 kd_209, g9_20 kd_209, g9_21 kd_209, g9_22 kd_209, g9_23 kd_209, g9_24 kd_209, g9_25 kd_209, p9_1 kd_209, p9_10 kd_209, p9_11 kd_209, p9_12 kd_209, p9_13 kd_209, p9_14 kd_209, p9_15 kd_209, p9_24 kd_209, p9_25 kd_209, m216_0, hc]
    rw [if_pos (nI_le (Nat.le_refl _) (by omega))]
  · intro k i hi
    have hh := hwm.2.1 i hi
    show fX10_witnesses_b4c F _ 209 _ _ (nI i) (hp S) = _
    unfold fX10_witnesses_b4c fX10_witnesses_b51 fX10_witnesses_b52
    simp only [Option.bind_some, Nat.reduceAdd, ob9 kd_209, g9_0 kd_209, g9_1 kd_209, g9_2 kd_209, g9_3 kd_209, g9_4 kd_209, g9_5 kd_209, g9_6 kd_209, g9_7 kd_209, g9_8 kd_209, g9_9 kd_209, g9_10 kd_209, g9_11 kd_209, g9_12 kd_209, g9_13 kd_209, g9_14 kd_209, g9_15 kd_209, g9_16 kd_209, g9_17 kd_209, g9_18 kd_209, g9_19 kd_209, g9_20 kd_209, g9_21 kd_209, g9_22 kd_209, g9_23 kd_209, g9_24 kd_209, g9_25 kd_209, p9_1 kd_209, p9_10 kd_209, p9_11 kd_209, p9_12 kd_209, p9_13 kd_209, p9_14 kd_209, p9_15 kd_209, p9_24 kd_209, p9_25 kd_209, m216_0, hc, la28]
    rw [if_neg (nI_ge hi (by omega)), ← bs_step (fun o => !(o == p) && mt on ot (μ 3 p) (μ 3 o)) (show i < 6 by omega) (by omega)]
    by_cases hip : i = p
    · subst hip
      rw [if_pos rfl, if_neg (by simp)]
      simp only [nI_1]
    · rw [if_neg (fun e => hip ((nI_eq (by omega) (by omega)).mp e)), ra (by rfl) (by decide) (by rw [kd_219]; show 28 + p < 34; omega), ra (by rfl) (by decide) (by rw [kd_219]; show 28 + i < 34; omega)]
      simp only [Option.bind_some, Nat.reduceAdd, nI_1]
      rw [hm.2.2.2.2 i hi, hm.2.2.2.2 p hp', doMeet_eq F hk hw hhp hh]
      simp only [Option.bind_some, Nat.reduceAdd]
      cases hmt : mt on ot (μ 3 p) (μ 3 i)
      · simp
      · simp [hip]
theorem bitsOf_eq (F : Nat) (hF : 4000 ≤ F) (L : HL) {k : Nat} (P : Nat → Bool) (hk : k ≤ 10) : fX10_bitsOf F L (bs k P) = some (nI (cnt k P), L) := by
  unfold fX10_bitsOf
  have := loopA (fun m i st => fX10_bitsOf_b4 F m (bs k P) st (nI i) L) 10 (fun i => nI (cnt i (fun j => decide (j < k) && P j))) (some (nI (cnt k P), L)) ?_ ?_ F 0 (by omega) (by omega)
  · exact this
  · intro m
    show fX10_bitsOf_b4c F _ (bs k P) _ (nI 10) L = _
    unfold fX10_bitsOf_b4c
    rw [if_pos (by decide), ← cnt_up P hk]
  · intro m i hi
    show fX10_bitsOf_b4c F _ (bs k P) _ (nI i) L = _
    unfold fX10_bitsOf_b4c
    rw [if_neg (show ¬ (10 : Int32) ≤ nI i from nI_ge (b := 10) hi (by decide)), bs_has P (by omega) (by omega)]
    simp only [nI_1, cnt]
    by_cases h : (decide (i < k) && P i) = true
    · rw [if_pos h, if_pos h, nI_1]
    · rw [if_neg h, if_neg h]
      simp
theorem mHas_eq (F : Nat) (L : HL) {k j : Nat} (P : Nat → Bool) (hk : k ≤ 31) (hj : j < k) : fX10_has F L (bs k P) (nI j) = some (if P j then 1 else 0, L) := by
  unfold fX10_has
  rw [bs_has P hk (by omega)]
  simp only [hj, decide_true, Bool.true_and]
  cases P j <;> simp

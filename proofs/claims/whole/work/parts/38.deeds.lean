/-! what was measured -/
def wb (d nt : Nat) : Nat := 1 + (if nt = 1 then d / 10 else max (d / 10) (d % 10))
theorem wb_le {d nt : Nat} (h : d < 100) : 1 ≤ wb d nt ∧ wb d nt ≤ 10 := by
  unfold wb
  split <;> omega
theorem k_widthBy (F : Nat) (L : HL) {d nt : Nat} (h : d < 100) (hn : nt ≤ 1) : fX1_widthBy F L (nI d) (nI nt) = some (nI (wb d nt), L) := by
  unfold fX1_widthBy
  have e1 : nI d / 10 = nI (d / 10) := pk_div (d := 10) (by omega) (by decide) (by decide)
  have e2 : nI d - nI d / 10 * 10 = nI (d % 10) := pk_rem (d := 10) (by omega) (by decide) (by decide)
  rw [e2, e1, widthBy_eq, wI_eq (by omega) (by omega) hn]
  rfl
theorem m_widthBy (F : Nat) (L : HL) {d nt : Nat} (h : d < 100) (hn : nt ≤ 1) : fX10_widthBy F L (nI d) (nI nt) = some (nI (wb d nt), L) := by
  unfold fX10_widthBy fX10_widthBy_b18 fX10_widthBy_b30
  have e1 : nI d / 10 = nI (d / 10) := pk_div (d := 10) (by omega) (by decide) (by decide)
  have e2 : nI d - nI d / 10 * 10 = nI (d % 10) := pk_rem (d := 10) (by omega) (by decide) (by decide)
  rw [e2, e1]
  unfold wb
  by_cases h1 : nt = 1
  · rw [if_pos (show nI nt = (1 : Int32) by rw [h1]; rfl), if_pos h1, la1]
    by_cases h0 : d / 10 = 0
    · rw [if_pos (show nI (d / 10) ≤ (0 : Int32) by rw [h0]; decide), h0]
      rfl
    · rw [if_neg (show ¬ nI (d / 10) ≤ (0 : Int32) from nI_nle (by omega) (by omega))]
  · rw [if_neg (show ¬ nI nt = (1 : Int32) from fun e => h1 ((nI_eq (a := nt) (b := 1) (by omega) (by decide)).mp e)), if_neg h1, la1, la1]
    by_cases h0 : d / 10 ≤ d % 10
    · rw [if_pos ((nI_leI (by omega) (by omega)).mpr h0), Nat.max_eq_right h0]
    · rw [if_neg (fun e => h0 ((nI_leI (by omega) (by omega)).mp e)), Nat.max_eq_left (by omega)]
def allN : Nat → (Nat → Bool) → Bool
  | 0, _ => true
  | k + 1, P => allN k P && P k
theorem allN_iff (k : Nat) (P : Nat → Bool) : allN k P = true ↔ ∀ i, i < k → P i = true := by
  induction k with
  | zero => simp [allN]
  | succ k ih =>
    simp only [allN, Bool.and_eq_true, ih]
    constructor
    · intro ⟨h1, h2⟩ i hi
      by_cases h : i = k
      · rw [h]; exact h2
      · exact h1 i (by omega)
    · intro h
      exact ⟨fun i hi => h i (by omega), h k (by omega)⟩
def soP (f : Nat) (mw mn : Nat → Nat) (d : Nat) : Bool := allN f (fun i => wb d (mn i) == mw i)
theorem areSo_eq (F : Nat) (hF : 4000 ≤ F) {S : ST} {f : Nat} {mw mn : Nat → Nat} (kf : KF S f mw mn) (hf : f ≤ 4) (hw : ∀ j, j < f → 1 ≤ mw j ∧ mw j ≤ 10 ∧ mn j ≤ 1) {d : Nat} (hd : d < 100) : fX1_areSo F (hp S) 205 (nI d) = some (if soP f mw mn d then 1 else 0, hp S) := by
  obtain ⟨k1, k2, k3⟩ := kf
  unfold fX1_areSo
  simp only [Option.bind_some, Nat.reduceAdd, ob1 kd_205, g1_0 kd_205, g1_1 kd_205, g1_2 kd_205, g1_3 kd_205, p1_2 kd_205]
  have body : ∀ k i, i < f → fX1_areSo_b2 F (k + 1) 205 (nI d) (nI i) (hp S) = if wb d (mn i) = mw i then fX1_areSo_b2 F k 205 (nI d) (nI (i + 1)) (hp S) else some (0, hp S) := by
    intro k i hi
    obtain ⟨a1, a2, a3⟩ := hw i hi
    have b := wb_le (nt := mn i) hd
    show fX1_areSo_b2c F _ 205 (nI d) (nI i) (hp S) = _
    unfold fX1_areSo_b2c
    have r6 : o_aI (hp S) 206 0 (nI i) = some (nI (mw i)) := by rw [ra (by rfl) (by decide) (by rw [kd_206]; show i < 4; omega), k2 i hi]
    have r7 : o_aI (hp S) 207 0 (nI i) = some (nI (mn i)) := by rw [ra (by rfl) (by decide) (by rw [kd_207]; show i < 4; omega), k3 i hi]
    simp only [Option.bind_some, Nat.reduceAdd, ob1 kd_205, g1_0 kd_205, g1_1 kd_205, g1_2 kd_205, g1_3 kd_205, p1_2 kd_205, k1, r6, r7, k_widthBy F _ hd a3, nI_1]
    rw [if_neg (nI_ge hi (by omega))]
    by_cases h : wb d (mn i) = mw i
    · rw [if_pos (by rw [h]), if_pos h]
    · rw [if_neg (fun e => h ((nI_eq (by omega) (by omega)).mp e)), if_neg h]
  cases hs : soP f mw mn d with
  | true =>
    have hall := (allN_iff _ _).mp hs
    have := loopA (fun k i (_ : Unit) => fX1_areSo_b2 F k 205 (nI d) (nI i) (hp S)) f (fun _ => ()) (some (1, hp S)) ?_ ?_ F 0 (by omega) (by omega)
    · exact this
    · intro k
      show fX1_areSo_b2c F _ 205 (nI d) (nI f) (hp S) = _
      unfold fX1_areSo_b2c
      simp only [Option.bind_some, Nat.reduceAdd, ob1 kd_205, g1_0 kd_205, g1_1 kd_205, g1_2 kd_205, g1_3 kd_205, p1_2 kd_205, k1]
      rw [if_pos (nI_le (Nat.le_refl _) (by omega))]
    · intro k i hi
      have := hall i hi
      rw [body k i hi, if_pos (by simpa using this)]
  | false =>
    have hex : ∃ i, i < f ∧ ¬ wb d (mn i) = mw i := by
      rcases Classical.em (∃ i, i < f ∧ ¬ wb d (mn i) = mw i) with h | h
      · exact h
      · exfalso
        have : soP f mw mn d = true := (allN_iff _ _).mpr (fun i hi => by
          rcases Classical.em (wb d (mn i) = mw i) with h1 | h1
          · simpa using h1
          · exact absurd ⟨i, hi, h1⟩ h)
        rw [this] at hs
        cases hs
    obtain ⟨j, ⟨j1, j2⟩, j3⟩ := pk_least _ hex
    have := loopA (fun k i (_ : Unit) => fX1_areSo_b2 F k 205 (nI d) (nI i) (hp S)) j (fun _ => ()) (some (0, hp S)) ?_ ?_ F 0 (by omega) (by omega)
    · exact this
    · intro k
      rw [body k j j1, if_neg j2]
    · intro k i hi
      rw [body k i (by omega), if_pos]
      rcases Classical.em (wb d (mn i) = mw i) with h1 | h1
      · exact h1
      · exact absurd ⟨by omega, h1⟩ (j3 i hi)
theorem isSo_eq (F : Nat) (hF : 4000 ≤ F) {S : ST} {f : Nat} {mw mn : Nat → Nat} (kf : MF S f mw mn) (hf : f ≤ 4) (hw : ∀ j, j < f → 1 ≤ mw j ∧ mw j ≤ 10 ∧ mn j ≤ 1) {d : Nat} (hd : d < 100) : fX10_isSo F (hp S) 209 (nI d) = some (if soP f mw mn d then 1 else 0, hp S) := by
  obtain ⟨k1, k2, k3⟩ := kf
  unfold fX10_isSo
  simp only [Option.bind_some, Nat.reduceAdd, ob9 kd_209, g9_0 kd_209, g9_1 kd_209, g9_2 kd_209, g9_3 kd_209, g9_4 kd_209, g9_5 kd_209, g9_6 kd_209, g9_7 kd_209, g9_8 kd_209, g9_9 kd_209, g9_10 kd_209, g9_11 kd_209, g9_12 kd_209, g9_13 kd_209, g9_14 kd_209, g9_15 kd_209, g9_16 kd_209, g9_17 kd_209, g9_18 kd_209, g9_19 kd_209, g9_20 kd_209, g9_21 kd_209, g9_22 kd_209, g9_23 kd_209, g9_24 kd_209, g9_25 kd_209, p9_1 kd_209, p9_10 kd_209, p9_11 kd_209, p9_12 kd_209, p9_13 kd_209, p9_14 kd_209, p9_15 kd_209, p9_24 kd_209, p9_25 kd_209]
  have := loopA (fun k i st => fX10_isSo_b4 F k 209 (nI d) st (nI i) (hp S)) f (fun i => if allN i (fun i => wb d (mn i) == mw i) then (1 : Int32) else 0) (some (if soP f mw mn d then 1 else 0, hp S)) ?_ ?_ F 0 (by omega) (by omega)
  · exact this
  · intro k
    show fX10_isSo_b4c F _ 209 (nI d) _ (nI f) (hp S) = _
    unfold fX10_isSo_b4c
    simp only [Option.bind_some, Nat.reduceAdd, ob9 kd_209, g9_0 kd_209, g9_1 kd_209, g9_2 kd_209, g9_3 kd_209, g9_4 kd_209, g9_5 kd_209, g9_6 kd_209, g9_7 kd_209, g9_8 kd_209, g9_9 kd_209, g9_10 kd_209, g9_11 kd_209, g9_12 kd_209, g9_13 kd_209, g9_14 kd_209, g9_15 kd_209, g9_16 kd_209, g9_17 kd_209, g9_18 kd_209, g9_19 kd_209, g9_20 kd_209, g9_21 kd_209, g9_22 kd_209, g9_23 kd_209, g9_24 kd_209, g9_25 kd_209, p9_1 kd_209, p9_10 kd_209, p9_11 kd_209, p9_12 kd_209, p9_13 kd_209, p9_14 kd_209, p9_15 kd_209, p9_24 kd_209, p9_25 kd_209, k1, ob_if]
    rw [if_pos (nI_le (Nat.le_refl _) (by omega))]
    rfl
  · intro k i hi
    obtain ⟨a1, a2, a3⟩ := hw i hi
    have b := wb_le (nt := mn i) hd
    have r6 : o_aI (hp S) 225 0 (nI i) = some (nI (mw i)) := by rw [ra (by rfl) (by decide) (by rw [kd_225]; show i < 4; omega), k2 i hi]
    have r7 : o_aI (hp S) 226 0 (nI i) = some (nI (mn i)) := by rw [ra (by rfl) (by decide) (by rw [kd_226]; show i < 4; omega), k3 i hi]
    show fX10_isSo_b4c F _ 209 (nI d) _ (nI i) (hp S) = _
    unfold fX10_isSo_b4c fX10_isSo_b39 fX10_isSo_b40
    simp only [Option.bind_some, Nat.reduceAdd, ob9 kd_209, g9_0 kd_209, g9_1 kd_209, g9_2 kd_209, g9_3 kd_209, g9_4 kd_209, g9_5 kd_209, g9_6 kd_209, g9_7 kd_209, g9_8 kd_209, g9_9 kd_209, g9_10 kd_209, g9_11 kd_209, g9_12 kd_209, g9_13 kd_209, g9_14 kd_209, g9_15 kd_209, g9_16 kd_209, g9_17 kd_209, g9_18 kd_209, g9_19 kd_209, g9_20 kd_209, g9_21 kd_209, g9_22 kd_209, g9_23 kd_209, g9_24 kd_209, g9_25 kd_209, p9_1 kd_209, p9_10 kd_209, p9_11 kd_209, p9_12 kd_209, p9_13 kd_209, p9_14 kd_209, p9_15 kd_209, p9_24 kd_209, p9_25 kd_209, k1, r6, r7, m_widthBy F _ hd a3, nI_1]
    rw [if_neg (nI_ge hi (by omega))]
    simp only [allN]
    cases allN i (fun i => wb d (mn i) == mw i) with
    | false => simp
    | true =>
      simp only [if_true, e10, if_false, Bool.true_and]
      by_cases h : wb d (mn i) = mw i
      · rw [if_pos (by rw [h])]
        simp [h]
      · rw [if_neg (fun e => h ((nI_eq (by omega) (by omega)).mp e))]
        simp [h]
theorem many_eq (F : Nat) (hF : 4000 ≤ F) {S : ST} {f : Nat} {mw mn : Nat → Nat} (kf : KF S f mw mn) (hf : f ≤ 4) (hw : ∀ j, j < f → 1 ≤ mw j ∧ mw j ≤ 10 ∧ mn j ≤ 1) : fX1_manyDeeds F (hp S) 205 = some (nI (cnt 100 (soP f mw mn)), hp S) := by
  unfold fX1_manyDeeds
  simp only [Option.bind_some, Nat.reduceAdd, ob1 kd_205, g1_0 kd_205, g1_1 kd_205, g1_2 kd_205, g1_3 kd_205, p1_2 kd_205]
  have := loopA (fun k i st => fX1_manyDeeds_b4 F k 205 st (nI i) (hp S)) 100 (fun i => nI (cnt i (soP f mw mn))) (some (nI (cnt 100 (soP f mw mn)), hp S)) ?_ ?_ F 0 (by omega) (by omega)
  · exact this
  · intro k
    show fX1_manyDeeds_b4c F _ 205 _ (nI 100) (hp S) = _
    unfold fX1_manyDeeds_b4c
    rw [if_pos (by decide)]
  · intro k i hi
    show fX1_manyDeeds_b4c F _ 205 _ (nI i) (hp S) = _
    unfold fX1_manyDeeds_b4c fX1_manyDeeds_b21
    rw [if_neg (show ¬ (100 : Int32) ≤ nI i from nI_ge (b := 100) hi (by decide)), areSo_eq F hF kf hf hw hi]
    simp only [Option.bind_some, Nat.reduceAdd, nI_1, cnt]
    cases soP f mw mn i
    · simp
    · simp
/-- the least number below k with P, if there is one -/
def leastN : Nat → (Nat → Bool) → Option Nat
  | 0, _ => none
  | k + 1, P => match leastN k P with
    | some j => some j
    | none => if P k then some k else none
theorem leastN_none {k : Nat} {P : Nat → Bool} : leastN k P = none ↔ ∀ i, i < k → P i = false := by
  induction k with
  | zero => simp [leastN]
  | succ k ih =>
    simp only [leastN]
    cases h : leastN k P with
    | some j =>
      simp only [reduceCtorEq, false_iff]
      intro hall
      have : leastN k P = none := ih.mpr (fun i hi => hall i (by omega))
      rw [this] at h
      cases h
    | none =>
      have h1 := ih.mp h
      cases hp : P k
      · simp only [Bool.false_eq_true, if_false, true_iff]
        intro i hi
        by_cases hik : i = k
        · rw [hik]; exact hp
        · exact h1 i (by omega)
      · simp only [if_true, reduceCtorEq, false_iff]
        intro hall
        have := hall k (by omega)
        rw [hp] at this
        cases this
theorem leastN_some {k j : Nat} {P : Nat → Bool} : leastN k P = some j ↔ j < k ∧ P j = true ∧ ∀ i, i < j → P i = false := by
  induction k with
  | zero => simp [leastN]
  | succ k ih =>
    simp only [leastN]
    cases h : leastN k P with
    | some m =>
      simp only [Option.some.injEq]
      constructor
      · intro e
        subst e
        have := ih
        rw [h] at this
        by_cases hmj : m = j
        · subst hmj
          obtain ⟨a, b, c⟩ := ih.mp h
          exact ⟨by omega, b, c⟩
        · sorry
      · sorry
    | none => sorry

/-! what was measured -/
def wb (d nt : Nat) : Nat := 1 + (if nt = 1 then d / 10 else max (d / 10) (d % 10))
theorem wb_le {d nt : Nat} (h : d < 100) : 1 ≤ wb d nt ∧ wb d nt ≤ 10 := by
  unfold wb
  split <;> omega
theorem k_widthBy (F : Nat) (L : HL) {d nt : Nat} (h : d < 100) (hn : nt ≤ 1) : fX1_widthBy F L (nI d) (nI nt) = some (nI (wb d nt), L) := by
  unfold fX1_widthBy
  have e1 : nI d / 10 = nI (d / 10) := pk_div (d := 10) (by omega) (by decide) (by decide)
  have e2 : nI d - nI d / 10 * 10 = nI (d % 10) := pk_rem (d := 10) (by omega) (by decide) (by decide)
  rw [e2, e1, widthBy_eq, wI_eq (by omega) (by omega) hn]
  rfl
theorem m_widthBy (F : Nat) (L : HL) {d nt : Nat} (h : d < 100) (hn : nt ≤ 1) : fX10_widthBy F L (nI d) (nI nt) = some (nI (wb d nt), L) := by
  unfold fX10_widthBy fX10_widthBy_b18 fX10_widthBy_b30
  have e1 : nI d / 10 = nI (d / 10) := pk_div (d := 10) (by omega) (by decide) (by decide)
  have e2 : nI d - nI d / 10 * 10 = nI (d % 10) := pk_rem (d := 10) (by omega) (by decide) (by decide)
  rw [e2, e1]
  unfold wb
  by_cases h1 : nt = 1
  · rw [if_pos (show nI nt = (1 : Int32) by rw [h1]; rfl), if_pos h1, la1]
    by_cases h0 : d / 10 = 0
    · rw [if_pos (show nI (d / 10) ≤ (0 : Int32) by rw [h0]; decide), h0]
      rfl
    · rw [if_neg (show ¬ nI (d / 10) ≤ (0 : Int32) from nI_nle (by omega) (by omega))]
  · rw [if_neg (show ¬ nI nt = (1 : Int32) from fun e => h1 ((nI_eq (a := nt) (b := 1) (by omega) (by decide)).mp e)), if_neg h1, la1, la1]
    by_cases h0 : d / 10 ≤ d % 10
    · rw [if_pos ((nI_leI (by omega) (by omega)).mpr h0), Nat.max_eq_right h0]
    · rw [if_neg (fun e => h0 ((nI_leI (by omega) (by omega)).mp e)), Nat.max_eq_left (by omega)]
def allN : Nat → (Nat → Bool) → Bool
  | 0, _ => true
  | k + 1, P => allN k P && P k
theorem allN_iff (k : Nat) (P : Nat → Bool) : allN k P = true ↔ ∀ i, i < k → P i = true := by
  induction k with
  | zero => simp [allN]
  | succ k ih =>
    simp only [allN, Bool.and_eq_true, ih]
    constructor
    · intro ⟨h1, h2⟩ i hi
      by_cases h : i = k
      · rw [h]; exact h2
      · exact h1 i (by omega)
    · intro h
      exact ⟨fun i hi => h i (by omega), h k (by omega)⟩
def soP (f : Nat) (mw mn : Nat → Nat) (d : Nat) : Bool := allN f (fun i => wb d (mn i) == mw i)
theorem areSo_eq (F : Nat) (hF : 4000 ≤ F) {S : ST} {f : Nat} {mw mn : Nat → Nat} (kf : KF S f mw mn) (hf : f ≤ 4) (hw : ∀ j, j < f → 1 ≤ mw j ∧ mw j ≤ 10 ∧ mn j ≤ 1) {d : Nat} (hd : d < 100) : fX1_areSo F (hp S) 205 (nI d) = some (if soP f mw mn d then 1 else 0, hp S) := by
  obtain ⟨k1, k2, k3⟩ := kf
  unfold fX1_areSo
  simp only [Option.bind_some, Nat.reduceAdd, ob1 kd_205, g1_0 kd_205, g1_1 kd_205, g1_2 kd_205, g1_3 kd_205, p1_2 kd_205]
  have body : ∀ k i, i < f → fX1_areSo_b2 F (k + 1) 205 (nI d) (nI i) (hp S) = if wb d (mn i) = mw i then fX1_areSo_b2 F k 205 (nI d) (nI (i + 1)) (hp S) else some (0, hp S) := by
    intro k i hi
    obtain ⟨a1, a2, a3⟩ := hw i hi
    have b := wb_le (nt := mn i) hd
    show fX1_areSo_b2c F _ 205 (nI d) (nI i) (hp S) = _
    unfold fX1_areSo_b2c
    have r6 : o_aI (hp S) 206 0 (nI i) = some (nI (mw i)) := by rw [ra (by rfl) (by decide) (by rw [kd_206]; show i < 4; omega), k2 i hi]
    have r7 : o_aI (hp S) 207 0 (nI i) = some (nI (mn i)) := by rw [ra (by rfl) (by decide) (by rw [kd_207]; show i < 4; omega), k3 i hi]
    simp only [Option.bind_some, Nat.reduceAdd, ob1 kd_205, g1_0 kd_205, g1_1 kd_205, g1_2 kd_205, g1_3 kd_205, p1_2 kd_205, k1, r6, r7, k_widthBy F _ hd a3, nI_1]
    rw [if_neg (nI_ge hi (by omega))]
    by_cases h : wb d (mn i) = mw i
    · rw [if_pos (by rw [h]), if_pos h]
    · rw [if_neg (fun e => h ((nI_eq (by omega) (by omega)).mp e)), if_neg h]
  cases hs : soP f mw mn d with
  | true =>
    have hall := (allN_iff _ _).mp hs
    have := loopA (fun k i (_ : Unit) => fX1_areSo_b2 F k 205 (nI d) (nI i) (hp S)) f (fun _ => ()) (some (1, hp S)) ?_ ?_ F 0 (by omega) (by omega)
    · exact this
    · intro k
      show fX1_areSo_b2c F _ 205 (nI d) (nI f) (hp S) = _
      unfold fX1_areSo_b2c
      simp only [Option.bind_some, Nat.reduceAdd, ob1 kd_205, g1_0 kd_205, g1_1 kd_205, g1_2 kd_205, g1_3 kd_205, p1_2 kd_205, k1]
      rw [if_pos (nI_le (Nat.le_refl _) (by omega))]
    · intro k i hi
      have := hall i hi
      rw [body k i hi, if_pos (by simpa using this)]
  | false =>
    have hex : ∃ i, i < f ∧ ¬ wb d (mn i) = mw i := by
      rcases Classical.em (∃ i, i < f ∧ ¬ wb d (mn i) = mw i) with h | h
      · exact h
      · exfalso
        have : soP f mw mn d = true := (allN_iff _ _).mpr (fun i hi => by
          rcases Classical.em (wb d (mn i) = mw i) with h1 | h1
          · simpa using h1
          · exact absurd ⟨i, hi, h1⟩ h)
        rw [this] at hs
        cases hs
    obtain ⟨j, ⟨j1, j2⟩, j3⟩ := pk_least _ hex
    have := loopA (fun k i (_ : Unit) => fX1_areSo_b2 F k 205 (nI d) (nI i) (hp S)) j (fun _ => ()) (some (0, hp S)) ?_ ?_ F 0 (by omega) (by omega)
    · exact this
    · intro k
      rw [body k j j1, if_neg j2]
    · intro k i hi
      rw [body k i (by omega), if_pos]
      rcases Classical.em (wb d (mn i) = mw i) with h1 | h1
      · exact h1
      · exact absurd ⟨by omega, h1⟩ (j3 i hi)
theorem isSo_eq (F : Nat) (hF : 4000 ≤ F) {S : ST} {f : Nat} {mw mn : Nat → Nat} (kf : MF S f mw mn) (hf : f ≤ 4) (hw : ∀ j, j < f → 1 ≤ mw j ∧ mw j ≤ 10 ∧ mn j ≤ 1) {d : Nat} (hd : d < 100) : fX10_isSo F (hp S) 209 (nI d) = some (if soP f mw mn d then 1 else 0, hp S) := by
  obtain ⟨k1, k2, k3⟩ := kf
  unfold fX10_isSo
  simp only [Option.bind_some, Nat.reduceAdd, ob9 kd_209, g9_0 kd_209, g9_1 kd_209, g9_2 kd_209, g9_3 kd_209, g9_4 kd_209, g9_5 kd_209, g9_6 kd_209, g9_7 kd_209, g9_8 kd_209, g9_9 kd_209, g9_10 kd_209, g9_11 kd_209, g9_12 kd_209, g9_13 kd_209, g9_14 kd_209, g9_15 kd_209, g9_16 kd_209, g9_17 kd_209, g9_18 kd_209, g9_19 kd_209, g9_20 kd_209, g9_21 kd_209, g9_22 kd_209, g9_23 kd_209, g9_24 kd_209, g9_25 kd_209, p9_1 kd_209, p9_10 kd_209, p9_11 kd_209, p9_12 kd_209, p9_13 kd_209, p9_14 kd_209, p9_15 kd_209, p9_24 kd_209, p9_25 kd_209]
  have := loopA (fun k i st => fX10_isSo_b4 F k 209 (nI d) st (nI i) (hp S)) f (fun i => if allN i (fun i => wb d (mn i) == mw i) then (1 : Int32) else 0) (some (if soP f mw mn d then 1 else 0, hp S)) ?_ ?_ F 0 (by omega) (by omega)
  · exact this
  · intro k
    show fX10_isSo_b4c F _ 209 (nI d) _ (nI f) (hp S) = _
    unfold fX10_isSo_b4c
    simp only [Option.bind_some, Nat.reduceAdd, ob9 kd_209, g9_0 kd_209, g9_1 kd_209, g9_2 kd_209, g9_3 kd_209, g9_4 kd_209, g9_5 kd_209, g9_6 kd_209, g9_7 kd_209, g9_8 kd_209, g9_9 kd_209, g9_10 kd_209, g9_11 kd_209, g9_12 kd_209, g9_13 kd_209, g9_14 kd_209, g9_15 kd_209, g9_16 kd_209, g9_17 kd_209, g9_18 kd_209, g9_19 kd_209, g9_20 kd_209, g9_21 kd_209, g9_22 kd_209, g9_23 kd_209, g9_24 kd_209, g9_25 kd_209, p9_1 kd_209, p9_10 kd_209, p9_11 kd_209, p9_12 kd_209, p9_13 kd_209, p9_14 kd_209, p9_15 kd_209, p9_24 kd_209, p9_25 kd_209, k1, ob_if]
    rw [if_pos (nI_le (Nat.le_refl _) (by omega))]
    rfl
  · intro k i hi
    obtain ⟨a1, a2, a3⟩ := hw i hi
    have b := wb_le (nt := mn i) hd
    have r6 : o_aI (hp S) 225 0 (nI i) = some (nI (mw i)) := by rw [ra (by rfl) (by decide) (by rw [kd_225]; show i < 4; omega), k2 i hi]
    have r7 : o_aI (hp S) 226 0 (nI i) = some (nI (mn i)) := by rw [ra (by rfl) (by decide) (by rw [kd_226]; show i < 4; omega), k3 i hi]
    show fX10_isSo_b4c F _ 209 (nI d) _ (nI i) (hp S) = _
    unfold fX10_isSo_b4c fX10_isSo_b39 fX10_isSo_b40
    simp only [Option.bind_some, Nat.reduceAdd, ob9 kd_209, g9_0 kd_209, g9_1 kd_209, g9_2 kd_209, g9_3 kd_209, g9_4 kd_209, g9_5 kd_209, g9_6 kd_209, g9_7 kd_209, g9_8 kd_209, g9_9 kd_209, g9_10 kd_209, g9_11 kd_209, g9_12 kd_209, g9_13 kd_209, g9_14 kd_209, g9_15 kd_209, g9_16 kd_209, g9_17 kd_209, g9_18 kd_209, g9_19 kd_209, g9_20 kd_209, g9_21 kd_209, g9_22 kd_209, g9_23 kd_209, g9_24 kd_209, g9_25 kd_209, p9_1 kd_209, p9_10 kd_209, p9_11 kd_209, p9_12 kd_209, p9_13 kd_209, p9_14 kd_209, p9_15 kd_209, p9_24 kd_209, p9_25 kd_209, k1, r6, r7, m_widthBy F _ hd a3, nI_1]
    rw [if_neg (nI_ge hi (by omega))]
    have e1 : allN (i + 1) (fun i => wb d (mn i) == mw i) = (allN i (fun i => wb d (mn i) == mw i) && (wb d (mn i) == mw i)) := rfl
    rw [e1]
    by_cases hq : allN i (fun i => wb d (mn i) == mw i) = true
    · rw [hq]
      simp only [if_true, e10, if_false, Bool.true_and]
      by_cases h : wb d (mn i) = mw i
      · rw [if_pos (by rw [h])]
        simp [h]
      · rw [if_neg (fun e => h ((nI_eq (by omega) (by omega)).mp e))]
        simp [h]
    · rw [Bool.not_eq_true] at hq
      rw [hq]
      simp
theorem many_eq (F : Nat) (hF : 4000 ≤ F) {S : ST} {f : Nat} {mw mn : Nat → Nat} (kf : KF S f mw mn) (hf : f ≤ 4) (hw : ∀ j, j < f → 1 ≤ mw j ∧ mw j ≤ 10 ∧ mn j ≤ 1) : fX1_manyDeeds F (hp S) 205 = some (nI (cnt 100 (soP f mw mn)), hp S) := by
  unfold fX1_manyDeeds
  simp only [Option.bind_some, Nat.reduceAdd, ob1 kd_205, g1_0 kd_205, g1_1 kd_205, g1_2 kd_205, g1_3 kd_205, p1_2 kd_205]
  have := loopA (fun k i st => fX1_manyDeeds_b4 F k 205 st (nI i) (hp S)) 100 (fun i => nI (cnt i (soP f mw mn))) (some (nI (cnt 100 (soP f mw mn)), hp S)) ?_ ?_ F 0 (by omega) (by omega)
  · exact this
  · intro k
    show fX1_manyDeeds_b4c F _ 205 _ (nI 100) (hp S) = _
    unfold fX1_manyDeeds_b4c
    rw [if_pos (by decide)]
  · intro k i hi
    show fX1_manyDeeds_b4c F _ 205 _ (nI i) (hp S) = _
    unfold fX1_manyDeeds_b4c fX1_manyDeeds_b21
    rw [if_neg (show ¬ (100 : Int32) ≤ nI i from nI_ge (b := 100) hi (by decide)), areSo_eq F hF kf hf hw hi]
    simp only [Option.bind_some, Nat.reduceAdd, nI_1, cnt]
    cases soP f mw mn i
    · simp
    · simp
/-- the least number below n with P; n if there is none -/
def ff : Nat → (Nat → Bool) → Nat
  | 0, _ => 0
  | k + 1, P => if ff k P < k then ff k P else if P k then k else k + 1
theorem ff_spec (n : Nat) (P : Nat → Bool) : ff n P ≤ n ∧ (∀ j, j < ff n P → P j = false) ∧ (ff n P < n → P (ff n P) = true) := by
  induction n with
  | zero => exact ⟨Nat.le_refl _, fun j hj => absurd hj (Nat.not_lt_zero _), fun h => absurd h (Nat.not_lt_zero _)⟩
  | succ k ih =>
    obtain ⟨h1, h2, h3⟩ := ih
    simp only [ff]
    by_cases h : ff k P < k
    · rw [if_pos h]
      exact ⟨by omega, h2, fun _ => h3 h⟩
    · rw [if_neg h]
      have he : ff k P = k := by omega
      rw [he] at h2
      cases hp : P k with
      | true =>
        rw [if_pos rfl]
        exact ⟨by omega, h2, fun _ => hp⟩
      | false =>
        rw [if_neg (by simp)]
        refine ⟨Nat.le_refl _, fun j hj => ?_, fun h => absurd h (by omega)⟩
        by_cases hj' : j = k
        · rw [hj']; exact hp
        · exact h2 j (by omega)
theorem ff_uniq {n m : Nat} {P : Nat → Bool} (h1 : m ≤ n) (h2 : ∀ j, j < m → P j = false) (h3 : m < n → P m = true) : ff n P = m := by
  obtain ⟨a1, a2, a3⟩ := ff_spec n P
  rcases Nat.lt_trichotomy (ff n P) m with h | h | h
  · have := h2 _ h
    rw [a3 (by omega)] at this
    cases this
  · exact h
  · have := a2 _ h
    rw [h3 (by omega)] at this
    cases this
theorem ff_congr {n : Nat} {P Q : Nat → Bool} (h : ∀ i, i < n → P i = Q i) : ff n P = ff n Q := by
  induction n with
  | zero => rfl
  | succ k ih => simp only [ff]; rw [ih (fun i hi => h i (by omega)), h k (by omega)]
/-- a loop that looks for the first -/
theorem loopF {R : Type} (W : Nat → Nat → Option R) (n : Nat) (P : Nat → Bool) (out : Nat → Option R) (hx : ∀ k, W (k + 1) n = out n) (hs : ∀ k i, i < n → W (k + 1) i = if P i then out i else W k (i + 1)) : ∀ k, n < k → W k 0 = out (ff n P) := by
  obtain ⟨h1, h2, h3⟩ := ff_spec n P
  intro k hk
  refine loopA (fun k i (_ : Unit) => W k i) (ff n P) (fun _ => ()) (out (ff n P)) ?_ ?_ k 0 (by omega) (by omega)
  · intro k
    show W (k + 1) (ff n P) = _
    by_cases h : ff n P < n
    · rw [hs k _ h, if_pos (h3 h)]
    · have : ff n P = n := by omega
      rw [this]
      exact hx k
  · intro k i hi
    show W (k + 1) i = W k (i + 1)
    rw [hs k i (by omega), h2 i hi, if_neg (by simp)]
/-- a loop that goes down -/
theorem loopD {σ R : Type} (W : Nat → Nat → σ → Option R) (n : Nat) (acc : Nat → σ) (out : Option R) (hx : ∀ k, W (k + 1) 0 (acc 0) = out) (hs : ∀ k i, i < n → W (k + 1) (i + 1) (acc (i + 1)) = W k i (acc i)) : ∀ k i, i ≤ n → i < k → W k i (acc i) = out := by
  intro k
  induction k with
  | zero => intro i h1 h2; omega
  | succ k ih =>
    intro i h1 h2
    cases i with
    | zero => exact hx k
    | succ i =>
      rw [hs k i (by omega)]
      exact ih i (by omega) (by omega)
theorem cnt_more {n a : Nat} {P Q : Nat → Bool} (ha : a < n) (hp : P a = false) (hq : Q a = true) (h : ∀ i, i < n → i ≠ a → P i = Q i) : cnt n Q = cnt n P + 1 := by
  induction n with
  | zero => omega
  | succ k ih =>
    simp only [cnt]
    by_cases hk : a = k
    · subst hk
      rw [hp, hq, cnt_congr (P := P) (Q := Q) (fun i hi => h i (by omega) (by omega))]
      simp
    · rw [ih (by omega) (fun i hi => h i (by omega)), h k (by omega) (fun e => hk e.symm)]
      omega
theorem cnt_none {n : Nat} {P : Nat → Bool} (h : ∀ i, i < n → P i = false) : cnt n P = 0 := by
  induction n with
  | zero => rfl
  | succ k ih => simp only [cnt]; rw [ih (fun i hi => h i (by omega)), h k (by omega)]; rfl
theorem ff_none {n : Nat} {P : Nat → Bool} (h : ∀ i, i < n → P i = false) : ff n P = n := ff_uniq (Nat.le_refl _) h (fun h => absurd h (Nat.lt_irrefl _))
def ffI (n : Nat) (P : Nat → Bool) : Int32 := if ff n P < n then nI (ff n P) else -9
theorem first_eq (F : Nat) (hF : 4000 ≤ F) {S : ST} {f : Nat} {mw mn : Nat → Nat} (kf : KF S f mw mn) (hf : f ≤ 4) (hw : ∀ j, j < f → 1 ≤ mw j ∧ mw j ≤ 10 ∧ mn j ≤ 1) : fX1_firstDeeds F (hp S) 205 = some (ffI 100 (soP f mw mn), hp S) := by
  unfold fX1_firstDeeds
  simp only [Option.bind_some, Nat.reduceAdd, ob1 kd_205, g1_0 kd_205, g1_1 kd_205, g1_2 kd_205, g1_3 kd_205, p1_2 kd_205]
  have := loopF (fun k i => fX1_firstDeeds_b2 F k 205 (nI i) (hp S)) 100 (soP f mw mn) (fun m => some (if m < 100 then nI m else -9, hp S)) ?_ ?_ F (by omega)
  · exact this
  · intro k
    show fX1_firstDeeds_b2c F _ 205 (nI 100) (hp S) = _
    unfold fX1_firstDeeds_b2c
    rw [if_pos (by decide)]
    rfl
  · intro k i hi
    show fX1_firstDeeds_b2c F _ 205 (nI i) (hp S) = _
    unfold fX1_firstDeeds_b2c
    rw [if_neg (show ¬ (100 : Int32) ≤ nI i from nI_ge (b := 100) hi (by decide)), areSo_eq F hF kf hf hw hi]
    simp only [Option.bind_some, Nat.reduceAdd, nI_1]
    cases soP f mw mn i
    · simp
    · simp [hi]
theorem mdeeds_eq (F : Nat) (hF : 4000 ≤ F) {S : ST} {f : Nat} {mw mn : Nat → Nat} (kf : MF S f mw mn) (hf : f ≤ 4) (hw : ∀ j, j < f → 1 ≤ mw j ∧ mw j ≤ 10 ∧ mn j ≤ 1) (x : Int32) : fX10_deeds_b20 F F 209 x 0 (-9) 99 (hp S) = if x = 0 then some (nI (cnt 100 (soP f mw mn)), hp S) else some (ffI 100 (soP f mw mn), hp S) := by
  have := loopD (fun k i (st : Int32 × Int32) => fX10_deeds_b20 F k 209 x st.1 st.2 (nI i + (-1)) (hp S)) 100 (fun i => (nI (cnt 100 (fun j => decide (i ≤ j) && soP f mw mn j)), ffI 100 (fun j => decide (i ≤ j) && soP f mw mn j))) (if x = 0 then some (nI (cnt 100 (soP f mw mn)), hp S) else some (ffI 100 (soP f mw mn), hp S)) ?_ ?_ F 100 (by omega) (by omega)
  · refine Eq.trans ?_ this
    dsimp only
    have e : ∀ j, j < 100 → (decide (100 ≤ j) && soP f mw mn j) = false := fun j hj => by
      have : ¬ 100 ≤ j := by omega
      simp [this]
    have e1 := cnt_none e
    have e2 : ffI 100 (fun j => decide (100 ≤ j) && soP f mw mn j) = -9 := by
      have := ff_none e
      unfold ffI
      rw [this, if_neg (Nat.lt_irrefl _)]
    rw [e1, e2]
    rfl
  · intro k
    show fX10_deeds_b20c F _ 209 x _ _ (nI 0 + (-1)) (hp S) = _
    unfold fX10_deeds_b20c
    rw [if_pos (by decide)]
    simp
  · intro k i hi
    show fX10_deeds_b20c F _ 209 x _ _ (nI (i + 1) + (-1)) (hp S) = _
    unfold fX10_deeds_b20c fX10_deeds_b40
    rw [pk_m1, if_neg (nI_pos (by omega)), isSo_eq F hF kf hf hw hi]
    simp only [Option.bind_some, Nat.reduceAdd]
    cases hs : soP f mw mn i with
    | false =>
      have e : (fun j => decide (i + 1 ≤ j) && soP f mw mn j) = (fun j => decide (i ≤ j) && soP f mw mn j) := by
        funext j
        by_cases hj : j = i
        · subst hj; simp [hs]
        · have : (decide (i + 1 ≤ j) : Bool) = decide (i ≤ j) := decide_eq_decide.mpr (by omega)
          rw [this]
      rw [e]
      simp
    | true =>
      have e0 : ¬ i + 1 ≤ i := by omega
      have e1 : cnt 100 (fun j => decide (i ≤ j) && soP f mw mn j) = cnt 100 (fun j => decide (i + 1 ≤ j) && soP f mw mn j) + 1 := by
        refine cnt_more hi ?_ ?_ ?_
        · simp [e0]
        · simp [hs]
        · intro j hj hji
          have : (decide (i + 1 ≤ j) : Bool) = decide (i ≤ j) := decide_eq_decide.mpr (by omega)
          simp only [this]
      have e2 : ffI 100 (fun j => decide (i ≤ j) && soP f mw mn j) = nI i := by
        have : ff 100 (fun j => decide (i ≤ j) && soP f mw mn j) = i := ff_uniq (by omega) (fun j hj => by
          have : ¬ i ≤ j := by omega
          simp [this]) (fun _ => by simp [hs])
        unfold ffI
        rw [this, if_pos hi]
      rw [e1, e2]
      simp only [if_true, e10, if_false, nI_1]
theorem c_deeds (F : Nat) (hF : 4000 ≤ F) {S : ST} (h : Inv S) (x : Int32) : Ok S (fun L => fX9_deeds F L 0 x) (fun L => fX10_deeds F L 209 x) := by
  have hI := h
  obtain ⟨Y, n, c, on, ot, wn, μ, k, ms, T, tx, f, mw, mn, kp, im, ik, ims, htw, hwa, hk, hm, htr⟩ := h
  obtain ⟨hf, hw⟩ := hwa.2.2.2.1
  have kf := hk.2.2.2.1
  have mf := hm.2.2.2.1
  by_cases h0 : x = 0
  · subst h0
    refine Ok.of hI ⟨nI (cnt 100 (soP f mw mn)), ?_, ?_⟩
    · unfold fX9_deeds
      simp only [Option.bind_some, Nat.reduceAdd, ob8 kd_0, g8_0 kd_0, g8_1 kd_0, g8_2 kd_0, g8_3 kd_0, g8_4 kd_0, g8_5 kd_0, g8_6 kd_0, g8_7 kd_0, g8_8 kd_0, g8_9 kd_0, p8_5 kd_0, p8_9 kd_0, if_true, many_eq F hF kf hf hw]
    · unfold fX10_deeds
      simp only [Option.bind_some, Nat.reduceAdd, ob9 kd_209, g9_0 kd_209, g9_1 kd_209, g9_2 kd_209, g9_3 kd_209, g9_4 kd_209, g9_5 kd_209, g9_6 kd_209, g9_7 kd_209, g9_8 kd_209, g9_9 kd_209, g9_10 kd_209, g9_11 kd_209, g9_12 kd_209, g9_13 kd_209, g9_14 kd_209, g9_15 kd_209, g9_16 kd_209, g9_17 kd_209, g9_18 kd_209, g9_19 kd_209, g9_20 kd_209, g9_21 kd_209, g9_22 kd_209, g9_23 kd_209, g9_24 kd_209, g9_25 kd_209, p9_1 kd_209, p9_10 kd_209, p9_11 kd_209, p9_12 kd_209, p9_13 kd_209, p9_14 kd_209, p9_15 kd_209, p9_24 kd_209, p9_25 kd_209, in_eq, mdeeds_eq F hF mf hf hw, if_true]
      rfl
  · by_cases h1 : x = 1
    · subst h1
      refine Ok.of hI ⟨ffI 100 (soP f mw mn), ?_, ?_⟩
      · unfold fX9_deeds
        simp only [Option.bind_some, Nat.reduceAdd, ob8 kd_0, g8_0 kd_0, g8_1 kd_0, g8_2 kd_0, g8_3 kd_0, g8_4 kd_0, g8_5 kd_0, g8_6 kd_0, g8_7 kd_0, g8_8 kd_0, g8_9 kd_0, p8_5 kd_0, p8_9 kd_0, if_true, e10, if_false, first_eq F hF kf hf hw]
      · unfold fX10_deeds
        simp only [Option.bind_some, Nat.reduceAdd, ob9 kd_209, g9_0 kd_209, g9_1 kd_209, g9_2 kd_209, g9_3 kd_209, g9_4 kd_209, g9_5 kd_209, g9_6 kd_209, g9_7 kd_209, g9_8 kd_209, g9_9 kd_209, g9_10 kd_209, g9_11 kd_209, g9_12 kd_209, g9_13 kd_209, g9_14 kd_209, g9_15 kd_209, g9_16 kd_209, g9_17 kd_209, g9_18 kd_209, g9_19 kd_209, g9_20 kd_209, g9_21 kd_209, g9_22 kd_209, g9_23 kd_209, g9_24 kd_209, g9_25 kd_209, p9_1 kd_209, p9_10 kd_209, p9_11 kd_209, p9_12 kd_209, p9_13 kd_209, p9_14 kd_209, p9_15 kd_209, p9_24 kd_209, p9_25 kd_209, in_eq, mdeeds_eq F hF mf hf hw, e10, if_false]
        rfl
    · refine Ok.of hI ⟨-1, ?_, ?_⟩
      · unfold fX9_deeds
        simp only [Option.bind_some, Nat.reduceAdd, ob8 kd_0, g8_0 kd_0, g8_1 kd_0, g8_2 kd_0, g8_3 kd_0, g8_4 kd_0, g8_5 kd_0, g8_6 kd_0, g8_7 kd_0, g8_8 kd_0, g8_9 kd_0, p8_5 kd_0, p8_9 kd_0, if_neg h0, if_neg h1]
      · unfold fX10_deeds
        rcases rng0_1 x with ⟨j, j0, j1, rfl, hx⟩ | hx
        · exfalso
          rcases (show j = 0 ∨ j = 1 by omega) with rfl | rfl
          · exact h0 rfl
          · exact h1 rfl
        · simp only [Option.bind_some, Nat.reduceAdd, ob9 kd_209, g9_0 kd_209, g9_1 kd_209, g9_2 kd_209, g9_3 kd_209, g9_4 kd_209, g9_5 kd_209, g9_6 kd_209, g9_7 kd_209, g9_8 kd_209, g9_9 kd_209, g9_10 kd_209, g9_11 kd_209, g9_12 kd_209, g9_13 kd_209, g9_14 kd_209, g9_15 kd_209, g9_16 kd_209, g9_17 kd_209, g9_18 kd_209, g9_19 kd_209, g9_20 kd_209, g9_21 kd_209, g9_22 kd_209, g9_23 kd_209, g9_24 kd_209, g9_25 kd_209, p9_1 kd_209, p9_10 kd_209, p9_11 kd_209, p9_12 kd_209, p9_13 kd_209, p9_14 kd_209, p9_15 kd_209, p9_24 kd_209, p9_25 kd_209, in_eq, if_neg hx, if_true]

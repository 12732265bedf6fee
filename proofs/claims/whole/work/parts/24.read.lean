/-! loops whose state is known at each turn -/
theorem loopA {σ R : Type} (W : Nat → Nat → σ → Option R) (n : Nat) (acc : Nat → σ) (out : Option R) (hx : ∀ k, W (k + 1) n (acc n) = out) (hs : ∀ k i, i < n → W (k + 1) i (acc i) = W k (i + 1) (acc (i + 1))) : ∀ k i, i ≤ n → n - i < k → W k i (acc i) = out := by
  intro k
  induction k with
  | zero => intro i h1 h2; omega
  | succ k ih =>
    intro i h1 h2
    by_cases h : i = n
    · subst h; exact hx k
    · rw [hs k i (by omega)]
      exact ih (i + 1) (by omega) (by omega)
/-! what the class's cells hold -/
abbrev Mo : Type := Nat → Nat → Nat
def KT (S : ST) (Y n c : Nat) (on ot wa : Nat → Nat) : Prop := S.2.1 9 0 = nI Y ∧ S.2.1 9 1 = nI n ∧ S.2.1 9 2 = nI c ∧ (∀ s, s < n → S.1 10 s = nI (on s)) ∧ (∀ s, s < n → S.1 11 s = nI (ot s)) ∧ (∀ p, p < c → S.1 14 p = nI (wa p))
def TW (Y n c : Nat) (on ot wa : Nat → Nat) : Prop := (2 ≤ Y ∧ Y ≤ 8) ∧ n ≤ 9 ∧ c ≤ 6 ∧ (∀ s, s < n → on s < Y ∧ ot s < Y ∧ on s ≠ ot s) ∧ (∀ p, p < c → 1 ≤ wa p ∧ wa p ≤ 10)
def MomAt (S : ST) (n c q : Nat) (μ : Mo) : Prop := (∀ s, s < n → S.1 (q + 1) s = nI (μ 0 s)) ∧ (∀ s, s < n → S.1 (q + 2) s = nI (μ 1 s)) ∧ (∀ s, s < n → S.1 (q + 3) s = nI (μ 2 s)) ∧ (∀ p, p < c → S.1 (q + 4) p = nI (μ 3 p)) ∧ S.2.1 q 4 = nI (μ 4 0)
def WM (n c : Nat) (μ : Mo) : Prop := (∀ s, s < n → μ 0 s ≤ 9 ∧ μ 1 s ≤ 9 ∧ μ 2 s ≤ 9) ∧ (∀ p, p < c → μ 3 p < n) ∧ μ 4 0 ≤ 1
def wd (μ : Mo) (s : Nat) : Nat := 1 + (if μ 4 0 = 1 then μ 0 s else max (μ 0 s) (μ 2 s))
theorem wd_le {n c : Nat} {μ : Mo} (h : WM n c μ) {s : Nat} (hs : s < n) : 1 ≤ wd μ s ∧ wd μ s ≤ 10 := by
  obtain ⟨h1, h2, h3⟩ := h.1 s hs
  unfold wd
  split <;> omega
theorem wI_eq {a b c : Nat} (ha : a ≤ 9) (hb : b ≤ 9) (hc : c ≤ 1) : wI (nI a) (nI b) (nI c) = nI (1 + (if c = 1 then a else max a b)) := by
  unfold wI
  rw [show (1 : Int32) = nI 1 from rfl]
  by_cases h : c = 1
  · subst h
    rw [if_pos rfl, if_pos rfl, nI_add]
  · rw [if_neg (fun e => h ((nI_eq (by omega) (by omega)).mp e)), if_neg h]
    by_cases hab : a < b
    · rw [if_pos ((nI_ltI (by omega) (by omega)).mpr hab), nI_add, Nat.max_eq_right (by omega)]
    · rw [if_neg (fun e => hab ((nI_ltI (by omega) (by omega)).mp e)), nI_add, Nat.max_eq_left (by omega)]
theorem IsM_16 : IsM 16 := ⟨rfl, rfl, rfl, rfl, rfl⟩
theorem widthOf_mu (F : Nat) {S : ST} {n c q s : Nat} {μ : Mo} (hq : IsM q) (hm : MomAt S n c q μ) (hw : WM n c μ) (hn : n ≤ 9) (hs : s < n) : fX2_widthOf F (hp S) q (nI s) = some (nI (wd μ s), hp S) := by
  obtain ⟨h1, h2, h3, h4, h5⟩ := hm
  obtain ⟨w1, w2, w3⟩ := hw.1 s hs
  rw [widthOf_eq F hq (by omega), h1 s hs, h3 s hs, h5, wI_eq w1 w3 hw.2.2]
  rfl
theorem within_eq (F : Nat) (L : HL) (x lo hi : Int32) : fX9_isWithin F L x lo hi = some (if lo ≤ x ∧ x ≤ hi then 1 else 0, L) := by
  unfold fX9_isWithin fX9_isWithin_b14
  by_cases h1 : x < lo
  · rw [if_pos h1, if_neg (fun h => absurd h.1 (Int32.not_le.mpr h1))]
  · rw [if_neg h1]
    by_cases h2 : hi < x
    · rw [if_pos h2, if_neg (fun h => absurd h.2 (Int32.not_le.mpr h2))]
    · rw [if_neg h2, if_pos ⟨Int32.not_lt.mp h1, Int32.not_lt.mp h2⟩]
theorem in_eq (F : Nat) (L : HL) (x lo hi : Int32) : fX10_in F L x lo hi = some (if lo ≤ x ∧ x ≤ hi then 1 else 0, L) := by
  unfold fX10_in fX10_in_b14
  by_cases h1 : x < lo
  · rw [if_pos h1, if_neg (fun h => absurd h.1 (Int32.not_le.mpr h1))]
  · rw [if_neg h1]
    by_cases h2 : hi < x
    · rw [if_pos h2, if_neg (fun h => absurd h.2 (Int32.not_le.mpr h2))]
    · rw [if_neg h2, if_pos ⟨Int32.not_lt.mp h1, Int32.not_lt.mp h2⟩]
theorem ob_if (p : Prop) [Decidable p] : o_b (if p then 1 else 0) = some () := by
  unfold o_b
  split <;> simp
theorem isStreet_eq (F : Nat) {S : ST} {n : Nat} (hn : S.2.1 9 1 = nI n) (h9 : n ≤ 9) (x : Int32) : fX9_isStreet F (hp S) 0 x = some (if 0 ≤ x ∧ x ≤ nI n - 1 then 1 else 0, hp S) := by
  unfold fX9_isStreet
  simp only [Option.bind_some, Nat.reduceAdd, ob8 kd_0, g8_0 kd_0, g8_1 kd_0, g8_2 kd_0, g8_3 kd_0, g8_4 kd_0, g8_5 kd_0, g8_6 kd_0, g8_7 kd_0, g8_8 kd_0, g8_9 kd_0, p8_5 kd_0, p8_9 kd_0, ob6 kd_9, g6_0 kd_9, g6_1 kd_9, g6_2 kd_9, g6_3 kd_9, g6_4 kd_9, g6_5 kd_9, g6_6 kd_9, g6_7 kd_9, p6_0 kd_9, p6_1 kd_9, p6_2 kd_9, hn, within_eq, ob_if]
theorem isCitizen_eq (F : Nat) {S : ST} {c : Nat} (hn : S.2.1 9 2 = nI c) (x : Int32) : fX9_isCitizen F (hp S) 0 x = some (if 0 ≤ x ∧ x ≤ nI c - 1 then 1 else 0, hp S) := by
  unfold fX9_isCitizen
  simp only [Option.bind_some, Nat.reduceAdd, ob8 kd_0, g8_0 kd_0, g8_1 kd_0, g8_2 kd_0, g8_3 kd_0, g8_4 kd_0, g8_5 kd_0, g8_6 kd_0, g8_7 kd_0, g8_8 kd_0, g8_9 kd_0, p8_5 kd_0, p8_9 kd_0, ob6 kd_9, g6_0 kd_9, g6_1 kd_9, g6_2 kd_9, g6_3 kd_9, g6_4 kd_9, g6_5 kd_9, g6_6 kd_9, g6_7 kd_9, p6_0 kd_9, p6_1 kd_9, p6_2 kd_9, hn, within_eq, ob_if]
def mt (on ot : Nat → Nat) (s t : Nat) : Bool := decide (on s = on t ∨ on s = ot t ∨ ot s = on t ∨ ot s = ot t)
def en (on ot : Nat → Nat) (s y : Nat) : Bool := y == on s || y == ot s
theorem endsOf_T (F : Nat) {S : ST} {Y n c : Nat} {on ot wa : Nat → Nat} (hk : KT S Y n c on ot wa) (hw : TW Y n c on ot wa) {s : Nat} (hs : s < n) : fX7_endsOf_T F (hp S) 9 (nI s) = some (bs 8 (en on ot s), hp S) := by
  obtain ⟨k1, k2, k3, k4, k5, k6⟩ := hk
  obtain ⟨⟨y1, y2⟩, hn, hc, w1, w2⟩ := hw
  obtain ⟨a1, a2, a3⟩ := w1 s hs
  unfold fX7_endsOf_T
  simp only [Option.bind_some, Nat.reduceAdd, ob6 kd_9, g6_0 kd_9, g6_1 kd_9, g6_2 kd_9, g6_3 kd_9, g6_4 kd_9, g6_5 kd_9, g6_6 kd_9, g6_7 kd_9, p6_0 kd_9, p6_1 kd_9, p6_2 kd_9]
  rw [ra (by rfl) (by decide) (by rw [kd_10]; show s < 9; omega), ra (by rfl) (by decide) (by rw [kd_11]; show s < 9; omega)]
  simp only [Option.bind_some, Nat.reduceAdd]
  rw [k4 s hs, k5 s hs, bs_one (k := 8) (by omega) (by omega), bs_one (k := 8) (by omega) (by omega), bs_or]
  rfl
theorem meet_bits (on ot : Nat → Nat) {Y n c : Nat} {wa : Nat → Nat} (hw : TW Y n c on ot wa) {s t : Nat} (hs : s < n) (ht : t < n) : (bs 8 (en on ot s) &&& bs 8 (en on ot t)) = 0 ↔ mt on ot s t = false := by
  obtain ⟨⟨y1, y2⟩, hn, hc, w1, w2⟩ := hw
  obtain ⟨a1, a2, a3⟩ := w1 s hs
  obtain ⟨b1, b2, b3⟩ := w1 t ht
  rw [bs_and, bs_zero (by omega)]
  unfold mt en
  constructor
  · intro h
    have h1 := h (on s) (by omega)
    have h2 := h (ot s) (by omega)
    simp at h1 h2
    simp
    omega
  · intro h i hi
    simp at h ⊢
    intro h1
    omega
theorem bs_init (k : Nat) (P : Nat → Bool) : bs k (fun t => decide (t < 0) && P t) = 0 := by
  rw [← bs_none k]
  exact bs_ext (fun i _ => by simp)
theorem streetsAt_eq (F : Nat) (hF : 4000 ≤ F) {S : ST} {Y n c : Nat} {on ot wa : Nat → Nat} (hk : KT S Y n c on ot wa) (hw : TW Y n c on ot wa) {s : Nat} (hs : s < n) : fX9_streetsAt F (hp S) 0 (nI s) = some (bs 9 (fun t => decide (t < n) && mt on ot s t), hp S) := by
  have hw' := hw
  have hk' := hk
  obtain ⟨k1, k2, k3, k4, k5, k6⟩ := hk
  obtain ⟨⟨y1, y2⟩, hn, hc, w1, w2⟩ := hw
  unfold fX9_streetsAt
  simp only [Option.bind_some, Nat.reduceAdd, ob8 kd_0, g8_0 kd_0, g8_1 kd_0, g8_2 kd_0, g8_3 kd_0, g8_4 kd_0, g8_5 kd_0, g8_6 kd_0, g8_7 kd_0, g8_8 kd_0, g8_9 kd_0, p8_5 kd_0, p8_9 kd_0]
  have := loopA (fun k i st => fX9_streetsAt_b4 F k 0 (nI s) st (nI i) (hp S)) n (fun i => bs 9 (fun t => decide (t < i) && mt on ot s t)) (some (bs 9 (fun t => decide (t < n) && mt on ot s t), hp S)) ?_ ?_ F 0 (by omega) (by omega)
  · refine Eq.trans ?_ this
    show _ = fX9_streetsAt_b4 F F 0 (nI s) (bs 9 _) (nI 0) (hp S)
    rw [bs_init]
    rfl
  · intro k
    show fX9_streetsAt_b4c F _ 0 (nI s) _ (nI n) (hp S) = _
    unfold fX9_streetsAt_b4c
    simp only [Option.bind_some, Nat.reduceAdd, ob8 kd_0, g8_0 kd_0, g8_1 kd_0, g8_2 kd_0, g8_3 kd_0, g8_4 kd_0, g8_5 kd_0, g8_6 kd_0, g8_7 kd_0, g8_8 kd_0, g8_9 kd_0, p8_5 kd_0, p8_9 kd_0, ob6 kd_9, g6_0 kd_9, g6_1 kd_9, g6_2 kd_9, g6_3 kd_9, g6_4 kd_9, g6_5 kd_9, g6_6 kd_9, g6_7 kd_9, p6_0 kd_9, p6_1 kd_9, p6_2 kd_9, k2]
    rw [if_pos (nI_le (Nat.le_refl _) (by omega))]
  · intro k i hi
    show fX9_streetsAt_b4c F _ 0 (nI s) _ (nI i) (hp S) = _
    unfold fX9_streetsAt_b4c fX9_streetsAt_b41
    simp only [Option.bind_some, Nat.reduceAdd, ob8 kd_0, g8_0 kd_0, g8_1 kd_0, g8_2 kd_0, g8_3 kd_0, g8_4 kd_0, g8_5 kd_0, g8_6 kd_0, g8_7 kd_0, g8_8 kd_0, g8_9 kd_0, p8_5 kd_0, p8_9 kd_0, ob6 kd_9, g6_0 kd_9, g6_1 kd_9, g6_2 kd_9, g6_3 kd_9, g6_4 kd_9, g6_5 kd_9, g6_6 kd_9, g6_7 kd_9, p6_0 kd_9, p6_1 kd_9, p6_2 kd_9, k2]
    rw [if_neg (nI_ge hi (by omega))]
    simp only [endsOf_T F hk' hw' hs, ob8 kd_0, g8_0 kd_0, g8_1 kd_0, g8_2 kd_0, g8_3 kd_0, g8_4 kd_0, g8_5 kd_0, g8_6 kd_0, g8_7 kd_0, g8_8 kd_0, g8_9 kd_0, p8_5 kd_0, p8_9 kd_0, endsOf_T F hk' hw' hi, Option.bind_some, Nat.reduceAdd, nI_1]
    by_cases hm : mt on ot s i = false
    · rw [if_pos ((meet_bits on ot hw' hs hi).mpr hm)]
      congr 1
      apply bs_ext
      intro j hj
      by_cases hji : j = i
      · subst hji; simp [hm]
      · have : (decide (j < i) : Bool) = decide (j < i + 1) := decide_eq_decide.mpr (by omega)
        rw [this]
    · rw [if_neg (fun h => hm ((meet_bits on ot hw' hs hi).mp h)), bs_one (k := 9) (by omega) (by omega), bs_or]
      congr 1
      apply bs_ext
      intro j hj
      by_cases hji : j = i
      · subst hji; simp at hm; simp [hm]
      · have : (decide (j < i) : Bool) = decide (j < i + 1) := decide_eq_decide.mpr (by omega)
        rw [this]
        simp [hji]
theorem has_eq (F : Nat) (L : HL) {k j : Nat} (P : Nat → Bool) (hk : k ≤ 31) (hj : j < k) : fX5_has F L (bs k P) (nI j) = some (if P j then 1 else 0, L) := by
  unfold fX5_has
  rw [bs_has P hk (by omega)]
  simp only [hj, decide_true, Bool.true_and]
  cases P j <;> simp
theorem without_eq (F : Nat) (L : HL) {k j : Nat} (P : Nat → Bool) (hk : k ≤ 31) (hj : j < k) : fX5_without F L (bs k P) (nI j) = some (bs k (fun i => P i && !(i == j)), L) := by
  unfold fX5_without
  rw [bs_one hj hk, bs_dif]
theorem livingInAny_eq (F : Nat) (hF : 4000 ≤ F) {S : ST} {n c : Nat} {μ : Mo} (hcc : S.2.1 9 2 = nI c) (h6 : c ≤ 6) (h9 : n ≤ 9) (hm : MomAt S n c 16 μ) (hw : WM n c μ) (Q : Nat → Bool) : fX9_livingInAny F (hp S) 0 (bs 9 Q) = some (bs 6 (fun p => decide (p < c) && Q (μ 3 p)), hp S) := by
  obtain ⟨m1, m2, m3, m4, m5⟩ := hm
  unfold fX9_livingInAny
  simp only [Option.bind_some, Nat.reduceAdd, ob8 kd_0, g8_0 kd_0, g8_1 kd_0, g8_2 kd_0, g8_3 kd_0, g8_4 kd_0, g8_5 kd_0, g8_6 kd_0, g8_7 kd_0, g8_8 kd_0, g8_9 kd_0, p8_5 kd_0, p8_9 kd_0]
  have := loopA (fun k i st => fX9_livingInAny_b4 F k 0 (bs 9 Q) st (nI i) (hp S)) c (fun i => bs 6 (fun p => decide (p < i) && Q (μ 3 p))) (some (bs 6 (fun p => decide (p < c) && Q (μ 3 p)), hp S)) ?_ ?_ F 0 (by omega) (by omega)
  · refine Eq.trans ?_ this
    show _ = fX9_livingInAny_b4 F F 0 (bs 9 Q) (bs 6 _) (nI 0) (hp S)
    rw [bs_init]
    rfl
  · intro k
    show fX9_livingInAny_b4c F _ 0 _ _ (nI c) (hp S) = _
    unfold fX9_livingInAny_b4c
    simp only [Option.bind_some, Nat.reduceAdd, ob8 kd_0, g8_0 kd_0, g8_1 kd_0, g8_2 kd_0, g8_3 kd_0, g8_4 kd_0, g8_5 kd_0, g8_6 kd_0, g8_7 kd_0, g8_8 kd_0, g8_9 kd_0, p8_5 kd_0, p8_9 kd_0, ob6 kd_9, g6_0 kd_9, g6_1 kd_9, g6_2 kd_9, g6_3 kd_9, g6_4 kd_9, g6_5 kd_9, g6_6 kd_9, g6_7 kd_9, p6_0 kd_9, p6_1 kd_9, p6_2 kd_9, hcc]
    rw [if_pos (nI_le (Nat.le_refl _) (by omega))]
  · intro k i hi
    have hh := hw.2.1 i hi
    show fX9_livingInAny_b4c F _ 0 _ _ (nI i) (hp S) = _
    unfold fX9_livingInAny_b4c fX9_livingInAny_b40
    simp only [Option.bind_some, Nat.reduceAdd, ob8 kd_0, g8_0 kd_0, g8_1 kd_0, g8_2 kd_0, g8_3 kd_0, g8_4 kd_0, g8_5 kd_0, g8_6 kd_0, g8_7 kd_0, g8_8 kd_0, g8_9 kd_0, p8_5 kd_0, p8_9 kd_0, ob6 kd_9, g6_0 kd_9, g6_1 kd_9, g6_2 kd_9, g6_3 kd_9, g6_4 kd_9, g6_5 kd_9, g6_6 kd_9, g6_7 kd_9, p6_0 kd_9, p6_1 kd_9, p6_2 kd_9, ob3 kd_15, g3_0 kd_15, g3_1 kd_15, g3_2 kd_15, p3_2 kd_15, ob2 kd_16, g2_0 kd_16, g2_1 kd_16, g2_2 kd_16, g2_3 kd_16, g2_4 kd_16, p2_4 kd_16, hcc]
    rw [if_neg (nI_ge hi (by omega)), ra (by rfl) (by decide) (by rw [kd_20]; show i < 6; omega)]
    simp only [Option.bind_some, Nat.reduceAdd]
    rw [m4 i hi, has_eq F _ Q (by omega) (by omega)]
    simp only [Option.bind_some, Nat.reduceAdd, nI_1]
    by_cases hq : Q (μ 3 i) = true
    · rw [hq, if_pos rfl, if_neg (by decide), bs_one (k := 6) (by omega) (by omega), bs_or]
      congr 1
      apply bs_ext
      intro j hj
      by_cases hji : j = i
      · subst hji; simp [hq]
      · have : (decide (j < i) : Bool) = decide (j < i + 1) := decide_eq_decide.mpr (by omega)
        rw [this]
        simp [hji]
    · simp only [Bool.not_eq_true] at hq
      rw [hq, if_pos (by rfl)]
      congr 1
      apply bs_ext
      intro j hj
      by_cases hji : j = i
      · subst hji; simp [hq]
      · have : (decide (j < i) : Bool) = decide (j < i + 1) := decide_eq_decide.mpr (by omega)
        rw [this]
theorem livingIn_eq (F : Nat) (hF : 4000 ≤ F) {S : ST} {n c : Nat} {μ : Mo} (hcc : S.2.1 9 2 = nI c) (h6 : c ≤ 6) (h9 : n ≤ 9) (hm : MomAt S n c 16 μ) (hw : WM n c μ) {s : Nat} (hs : s < n) : fX9_livingIn F (hp S) 0 (nI s) = some (bs 6 (fun p => decide (p < c) && (μ 3 p == s)), hp S) := by
  unfold fX9_livingIn
  simp only [Option.bind_some, Nat.reduceAdd, ob8 kd_0, g8_0 kd_0, g8_1 kd_0, g8_2 kd_0, g8_3 kd_0, g8_4 kd_0, g8_5 kd_0, g8_6 kd_0, g8_7 kd_0, g8_8 kd_0, g8_9 kd_0, p8_5 kd_0, p8_9 kd_0]
  rw [bs_one (k := 9) (by omega) (by omega), livingInAny_eq F hF hcc h6 h9 hm hw]
  rfl
theorem witnessesOf_eq (F : Nat) (hF : 4000 ≤ F) {S : ST} {Y n c : Nat} {on ot wa : Nat → Nat} {μ : Mo} (hk : KT S Y n c on ot wa) (hw : TW Y n c on ot wa) (hm : MomAt S n c 16 μ) (hwm : WM n c μ) {p : Nat} (hp' : p < c) : fX9_witnessesOf F (hp S) 0 (nI p) = some (bs 6 (fun o => decide (o < c) && (!(o == p) && mt on ot (μ 3 p) (μ 3 o))), hp S) := by
  have h6 := hw.2.2.1
  have h9 := hw.2.1
  have hh := hwm.2.1 p hp'
  unfold fX9_witnessesOf
  simp only [Option.bind_some, Nat.reduceAdd, ob8 kd_0, g8_0 kd_0, g8_1 kd_0, g8_2 kd_0, g8_3 kd_0, g8_4 kd_0, g8_5 kd_0, g8_6 kd_0, g8_7 kd_0, g8_8 kd_0, g8_9 kd_0, p8_5 kd_0, p8_9 kd_0, ob3 kd_15, g3_0 kd_15, g3_1 kd_15, g3_2 kd_15, p3_2 kd_15, ob2 kd_16, g2_0 kd_16, g2_1 kd_16, g2_2 kd_16, g2_3 kd_16, g2_4 kd_16, p2_4 kd_16]
  rw [ra (by rfl) (by decide) (by rw [kd_20]; show p < 6; omega)]
  simp only [Option.bind_some, Nat.reduceAdd]
  rw [hm.2.2.2.1 p hp', streetsAt_eq F hF hk hw hh]
  simp only [Option.bind_some, Nat.reduceAdd]
  rw [livingInAny_eq F hF hk.2.2.1 h6 h9 hm hwm]
  simp only [Option.bind_some, Nat.reduceAdd]
  rw [without_eq F _ _ (by omega) (by omega)]
  simp only [Option.bind_some, Nat.reduceAdd]
  congr 2
  apply bs_ext
  intro i hi
  by_cases hic : i < c
  · have := hwm.2.1 i hic
    simp only [hic, this, decide_true, Bool.true_and]
    rw [Bool.and_comm]
  · simp [hic]
theorem raise_eq (F : Nat) {S : ST} {q n s : Nat} (hq : kd q = (0, n)) (hs : s < n) (x : Int32) : fX9_raise F (hp S) q (nI s) x = some (hp (stI S q (upd (S.1 q) s (if S.1 q s < x then x else S.1 q s)))) := by
  unfold fX9_raise
  rw [ra (t := 0) (by rw [hq]) (by decide) (by rw [hq]; exact hs)]
  simp only [Option.bind_some, Nat.reduceAdd]
  rw [wa (t := 0) (by rw [hq]) (by decide) (by rw [hq]; exact hs)]
  rfl
def sumN : Nat → (Nat → Nat) → Nat
  | 0, _ => 0
  | k + 1, f => sumN k f + f k
theorem sumN_le (k : Nat) (f : Nat → Nat) (b : Nat) (h : ∀ i, i < k → f i ≤ b) : sumN k f ≤ k * b := by
  induction k with
  | zero => simp [sumN]
  | succ k ih =>
    simp only [sumN]
    have := ih (fun i hi => h i (by omega))
    have := h k (by omega)
    rw [Nat.succ_mul]
    omega
theorem widthsTogether_eq (F : Nat) (hF : 4000 ≤ F) {S : ST} {n c : Nat} {μ : Mo} (hn : S.2.1 9 1 = nI n) (h9 : n ≤ 9) (hm : MomAt S n c 16 μ) (hw : WM n c μ) : fX9_widthsTogether F (hp S) 0 = some (nI (sumN n (wd μ)), hp S) := by
  unfold fX9_widthsTogether
  simp only [Option.bind_some, Nat.reduceAdd, ob8 kd_0, g8_0 kd_0, g8_1 kd_0, g8_2 kd_0, g8_3 kd_0, g8_4 kd_0, g8_5 kd_0, g8_6 kd_0, g8_7 kd_0, g8_8 kd_0, g8_9 kd_0, p8_5 kd_0, p8_9 kd_0]
  have := loopA (fun k i st => fX9_widthsTogether_b4 F k 0 st (nI i) (hp S)) n (fun i => nI (sumN i (wd μ))) (some (nI (sumN n (wd μ)), hp S)) ?_ ?_ F 0 (by omega) (by omega)
  · exact this
  · intro k
    show fX9_widthsTogether_b4c F _ 0 _ (nI n) (hp S) = _
    unfold fX9_widthsTogether_b4c
    simp only [Option.bind_some, Nat.reduceAdd, ob8 kd_0, g8_0 kd_0, g8_1 kd_0, g8_2 kd_0, g8_3 kd_0, g8_4 kd_0, g8_5 kd_0, g8_6 kd_0, g8_7 kd_0, g8_8 kd_0, g8_9 kd_0, p8_5 kd_0, p8_9 kd_0, ob6 kd_9, g6_0 kd_9, g6_1 kd_9, g6_2 kd_9, g6_3 kd_9, g6_4 kd_9, g6_5 kd_9, g6_6 kd_9, g6_7 kd_9, p6_0 kd_9, p6_1 kd_9, p6_2 kd_9, hn]
    rw [if_pos (nI_le (Nat.le_refl _) (by omega))]
  · intro k i hi
    show fX9_widthsTogether_b4c F _ 0 _ (nI i) (hp S) = _
    unfold fX9_widthsTogether_b4c
    simp only [Option.bind_some, Nat.reduceAdd, ob8 kd_0, g8_0 kd_0, g8_1 kd_0, g8_2 kd_0, g8_3 kd_0, g8_4 kd_0, g8_5 kd_0, g8_6 kd_0, g8_7 kd_0, g8_8 kd_0, g8_9 kd_0, p8_5 kd_0, p8_9 kd_0, ob6 kd_9, g6_0 kd_9, g6_1 kd_9, g6_2 kd_9, g6_3 kd_9, g6_4 kd_9, g6_5 kd_9, g6_6 kd_9, g6_7 kd_9, p6_0 kd_9, p6_1 kd_9, p6_2 kd_9, ob3 kd_15, g3_0 kd_15, g3_1 kd_15, g3_2 kd_15, p3_2 kd_15, hn]
    rw [if_neg (nI_ge hi (by omega)), widthOf_mu F IsM_16 hm hw h9 hi]
    simp only [Option.bind_some, Nat.reduceAdd, nI_1, nI_add]
    rfl
theorem streetsWithHidden_eq (F : Nat) (hF : 4000 ≤ F) {S : ST} {n c : Nat} {μ : Mo} (hn : S.2.1 9 1 = nI n) (h9 : n ≤ 9) (hm : MomAt S n c 16 μ) (hw : WM n c μ) : fX9_streetsWithHidden F (hp S) 0 = some (nI (cnt n (fun s => decide (0 < μ 1 s))), hp S) := by
  unfold fX9_streetsWithHidden
  simp only [Option.bind_some, Nat.reduceAdd, ob8 kd_0, g8_0 kd_0, g8_1 kd_0, g8_2 kd_0, g8_3 kd_0, g8_4 kd_0, g8_5 kd_0, g8_6 kd_0, g8_7 kd_0, g8_8 kd_0, g8_9 kd_0, p8_5 kd_0, p8_9 kd_0]
  have := loopA (fun k i st => fX9_streetsWithHidden_b4 F k 0 st (nI i) (hp S)) n (fun i => nI (cnt i (fun s => decide (0 < μ 1 s)))) (some (nI (cnt n (fun s => decide (0 < μ 1 s))), hp S)) ?_ ?_ F 0 (by omega) (by omega)
  · exact this
  · intro k
    show fX9_streetsWithHidden_b4c F _ 0 _ (nI n) (hp S) = _
    unfold fX9_streetsWithHidden_b4c
    simp only [Option.bind_some, Nat.reduceAdd, ob8 kd_0, g8_0 kd_0, g8_1 kd_0, g8_2 kd_0, g8_3 kd_0, g8_4 kd_0, g8_5 kd_0, g8_6 kd_0, g8_7 kd_0, g8_8 kd_0, g8_9 kd_0, p8_5 kd_0, p8_9 kd_0, ob6 kd_9, g6_0 kd_9, g6_1 kd_9, g6_2 kd_9, g6_3 kd_9, g6_4 kd_9, g6_5 kd_9, g6_6 kd_9, g6_7 kd_9, p6_0 kd_9, p6_1 kd_9, p6_2 kd_9, hn]
    rw [if_pos (nI_le (Nat.le_refl _) (by omega))]
  · intro k i hi
    have := (hw.1 i hi).2.1
    show fX9_streetsWithHidden_b4c F _ 0 _ (nI i) (hp S) = _
    unfold fX9_streetsWithHidden_b4c fX9_streetsWithHidden_b33
    simp only [Option.bind_some, Nat.reduceAdd, ob8 kd_0, g8_0 kd_0, g8_1 kd_0, g8_2 kd_0, g8_3 kd_0, g8_4 kd_0, g8_5 kd_0, g8_6 kd_0, g8_7 kd_0, g8_8 kd_0, g8_9 kd_0, p8_5 kd_0, p8_9 kd_0, ob6 kd_9, g6_0 kd_9, g6_1 kd_9, g6_2 kd_9, g6_3 kd_9, g6_4 kd_9, g6_5 kd_9, g6_6 kd_9, g6_7 kd_9, p6_0 kd_9, p6_1 kd_9, p6_2 kd_9, ob3 kd_15, g3_0 kd_15, g3_1 kd_15, g3_2 kd_15, p3_2 kd_15, ob2 kd_16, g2_0 kd_16, g2_1 kd_16, g2_2 kd_16, g2_3 kd_16, g2_4 kd_16, p2_4 kd_16, hn]
    rw [if_neg (nI_ge hi (by omega)), ra (by rfl) (by decide) (by rw [kd_18]; show i < 9; omega)]
    simp only [Option.bind_some, Nat.reduceAdd]
    rw [hm.2.1 i hi, show (0 : Int32) = nI 0 from rfl]
    simp only [nI_1, cnt]
    by_cases h0 : μ 1 i = 0
    · rw [if_pos ((nI_leI (by omega) (by omega)).mpr (by omega))]
      simp [h0]
    · rw [if_neg (fun h => h0 (by have := (nI_leI (a := μ 1 i) (b := 0) (by omega) (by omega)).mp h; omega))]
      have : 0 < μ 1 i := by omega
      simp [this]

/-! who can have his carriage: the reference -/
def mS (S : ST) (G : Nat → Nat → Nat) (D : Nat → Bool) : ST := stI S 224 (fun j => if D j then nI (G (j / 512) (j % 512)) else S.1 224 j)
theorem mS_fr (S : ST) (G : Nat → Nat → Nat) (D : Nat → Bool) : Fr 224 225 S (mS S G D) := Fr.stI (by omega) (by omega)
theorem mS_rd (S : ST) (G : Nat → Nat → Nat) (D : Nat → Bool) {p m : Nat} (hm : m < 512) (hj : 512 * p + m < 3584) (hD : D (512 * p + m) = true) : o_aI (hp (mS S G D)) 224 0 (nI (512 * p + m)) = some (nI (G p m)) := by
  rw [ra (by rfl) (by decide) (by rw [kd_224]; exact hj)]
  unfold mS
  rw [stI_s, hD, if_pos rfl, show (512 * p + m) / 512 = p by omega, show (512 * p + m) % 512 = m by omega]
theorem mS_wr (S : ST) (G : Nat → Nat → Nat) (D : Nat → Bool) {p m v : Nat} (hm : m < 512) (hj : 512 * p + m < 3584) (hv : v = G p m) : o_sI (hp (mS S G D)) 224 0 (nI (512 * p + m)) (nI v) = some (hp (mS S G (fun j => D j || j == 512 * p + m))) := by
  rw [wa (by rfl) (by decide) (by rw [kd_224]; exact hj)]
  unfold mS
  rw [stI_stI, stI_s]
  congr 3
  funext j
  rw [upd_at]
  by_cases h : j = 512 * p + m
  · rw [if_pos h, h, show (512 * p + m) / 512 = p by omega, show (512 * p + m) % 512 = m by omega, hv]
    simp
  · rw [if_neg h]
    have e : (fun j => D j || j == 512 * p + m) j = D j := by
      show (D j || j == 512 * p + m) = D j
      rw [beq_false_of_ne h, Bool.or_false]
    rw [e]
def mE (c n q : Nat) : Nat → Bool := fun j => decide (512 * q ≤ j ∧ j < 512 * (c + 1) ∧ j % 512 < 2 ^ n)
def mD (c n p i : Nat) : Nat → Bool := fun j => decide ((512 * (p + 1) ≤ j ∧ j < 512 * (c + 1) ∧ j % 512 < 2 ^ n) ∨ (512 * p ≤ j ∧ j < 512 * p + i))
theorem mD_0 (c n p : Nat) : mD c n p 0 = mE c n (p + 1) := by
  funext j
  exact decide_eq_decide.mpr (by omega)
theorem mD_n {c n p : Nat} (hp : p ≤ c) (h9 : 2 ^ n ≤ 512) : mD c n p (2 ^ n) = mE c n p := by
  funext j
  exact decide_eq_decide.mpr (by omega)
theorem mD_s (c n p i : Nat) : (fun j => mD c n p i j || j == 512 * p + i) = mD c n p (i + 1) := by
  funext j
  unfold mD
  by_cases h : j = 512 * p + i
  · rw [h]
    have : (512 * (p + 1) ≤ 512 * p + i ∧ 512 * p + i < 512 * (c + 1) ∧ (512 * p + i) % 512 < 2 ^ n) ∨ (512 * p ≤ 512 * p + i ∧ 512 * p + i < 512 * p + (i + 1)) := by omega
    rw [decide_eq_true this]
    simp
  · rw [beq_false_of_ne h, Bool.or_false]
    exact decide_eq_decide.mpr (by omega)
theorem canHave_eq (F : Nat) {S : ST} {Y n c : Nat} {on ot wn : Nat → Nat} {μ : Mo} (mt0 : MT S Y n c on ot wn) (hw : TW Y n c on ot wn) (hm : MM S n c μ) (wm : WM n c μ) {p s : Nat} (hpc : p < c) (hs : s < n) : fX10_canHave F (hp S) 209 (nI p) (nI s) = some (if decide (wn p ≤ wd μ s) then 1 else 0, hp S) := by
  have h9 := hw.2.1
  have h6 := hw.2.2.1
  have hwp := hw.2.2.2.2 p hpc
  have hwd := wd_le wm hs
  have r8 : o_aI (hp S) 218 0 (nI p) = some (nI (wn p)) := by rw [ra (by rfl) (by decide) (by rw [kd_218]; show p < 12; omega), mt0.2.2.2.2.2 p hpc]
  unfold fX10_canHave
  simp only [Option.bind_some, Nat.reduceAdd, ob9 kd_209, g9_0 kd_209, g9_1 kd_209, g9_2 kd_209, g9_3 kd_209, g9_4 kd_209, g9_5 kd_209, g9_6 kd_209, g9_7 kd_209, g9_8 kd_209, g9_9 kd_209, g9_10 kd_209, g9_11 kd_209, g9_12 kd_209, g9_13 kd_209, g9_14 kd_209, g9_15 kd_209, g9_16 kd_209, g9_17 kd_209, g9_18 kd_209, g9_19 kd_209, g9_20 kd_209, g9_21 kd_209, g9_22 kd_209, g9_23 kd_209, g9_24 kd_209, g9_25 kd_209, p9_1 kd_209, p9_10 kd_209, p9_11 kd_209, p9_12 kd_209, p9_13 kd_209, p9_14 kd_209, p9_15 kd_209, p9_24 kd_209, p9_25 kd_209, mWidthOf_eq F hm wm h9 hs, r8]
  by_cases h : wn p ≤ wd μ s
  · rw [if_neg (nI_nlt h (by omega)), if_pos (decide_eq_true h)]
  · rw [if_pos (nI_lt (by omega) (by omega)), if_neg (by simp [h])]
theorem MM.fr {S S' : ST} {n c lo hi : Nat} {μ : Mo} (h : MM S n c μ) (hf : Fr lo hi S S') (hq : 219 < lo ∨ hi ≤ 219) : MM S' n c μ := MM_o.mpr ((MM_o.mp h).fr hf hq)
def orb (m s : Nat) : Nat := bsum 9 (fun t => m.testBit t || t == s)
theorem orb_lt {n m s : Nat} (h9 : n ≤ 9) (hm : m < 2 ^ n) (hs : s < n) : orb m s < 2 ^ n := by
  unfold orb
  have : bsum 9 (fun t => m.testBit t || t == s) = bsum n (fun t => m.testBit t || t == s) := by
    rw [bsum_up (fun t => m.testBit t || t == s) h9]
    apply bsum_congr
    intro t _
    by_cases ht : t < n
    · simp [ht]
    · rw [bit_hi hm (by omega), beq_false_of_ne (show t ≠ s by omega)]
      simp
  rw [this]
  exact bsum_lt _ _
theorem orb_bit {m s t : Nat} (ht : t < 9) : (orb m s).testBit t = (m.testBit t || t == s) := by
  unfold orb
  rw [bsum_bit]
  simp [ht]
theorem orb_nI {m s : Nat} (hm : m < 512) (hs : s < 9) : nI m ||| ((1 : Int32) <<< (nI s &&& 31)) = nI (orb m s) := by
  rw [nI_bs (k := 9) (show m < 2 ^ 9 by omega), bs_one (k := 9) hs (by omega), bs_or]
  rfl
theorem lm512 (i : Nat) : (512 : Int32) * nI i = nI (512 * i) := pk_mul 512 i
def Gm (c : Nat) (wn : Nat → Nat) (n : Nat) (wi : Nat → Nat) (p m : Nat) : Nat := gr c wn n wi p (fun s => !m.testBit s)
theorem Gm_orb {c : Nat} {wn : Nat → Nat} {n : Nat} {wi : Nat → Nat} {p m s : Nat} {fr : Nat → Bool} (h9 : n ≤ 9) (hf : ∀ t, t < n → fr t = !m.testBit t) : Gm c wn n wi p (orb m s) = gr c wn n wi p (fun t => fr t && !(t == s)) := by
  apply gr_congr
  intro t ht
  rw [orb_bit (by omega), Bool.not_or, hf t ht]
/-- one entry: the streets gone through -/
theorem tell_s (F : Nat) (hF : 4000 ≤ F) {S : ST} {Y n c : Nat} {on ot wn : Nat → Nat} {μ : Mo} (mt0 : MT S Y n c on ot wn) (hw : TW Y n c on ot wn) (hm : MM S n c μ) (wm : WM n c μ) {p i : Nat} (hpc : p < c) (hi : i < 2 ^ n) (K : Nat → Int32 → Int32 → Int32 → HL → Option HL) (x1 : Int32) : fX10_tellMost_b79 F K F 209 x1 (nI p) (nI i) (nI (Gm c wn n (wd μ) (p + 1) i)) 0 (hp (mS S (Gm c wn n (wd μ)) (mD c n p i))) = K 209 x1 (nI p) (nI (i + 1)) (hp (mS S (Gm c wn n (wd μ)) (mD c n p (i + 1)))) := by
  have h9 := hw.2.1
  have h6 := hw.2.2.1
  have hwn := hw.2.2.2.2
  have hwn1 : ∀ q, q < c → 1 ≤ wn q := fun q hq => (hwn q hq).1
  have w10 := wd_10 wm
  have hn1 : 2 ^ n ≤ 2 ^ 9 := Nat.pow_le_pow_right (by omega) h9
  have fr := mS_fr S (Gm c wn n (wd μ)) (mD c n p i)
  have mt1 := mt0.fr fr (by omega)
  have hm1 := hm.fr fr (by omega)
  have hrn : rn (fun s => 1 + Gm c wn n (wd μ) (p + 1) (orb i s)) (fun s => !i.testBit s && decide (wn p ≤ wd μ s)) (Gm c wn n (wd μ) (p + 1) i) n = Gm c wn n (wd μ) p i := by
    apply rn_eq
    · exact gr_i hwn1 w10 hpc _
    · intro s hs hP
      rw [Bool.and_eq_true] at hP
      rw [Gm_orb h9 (fr := fun t => !i.testBit t) (fun t _ => rfl)]
      exact gr_ii hwn1 w10 hpc hs hP.1 (of_decide_eq_true hP.2)
    · rcases gr_iii hwn w10 hpc (fun t => !i.testBit t) with h | ⟨s, h1, h2, h3, h4⟩
      · exact Or.inl h
      · refine Or.inr ⟨s, h1, ?_, ?_⟩
        · rw [Bool.and_eq_true]; exact ⟨h2, decide_eq_true h3⟩
        · rw [Gm_orb h9 (fr := fun t => !i.testBit t) (fun t _ => rfl)]
          exact h4
  have := loopA (fun k s st => fX10_tellMost_b79 F K k 209 x1 (nI p) (nI i) st (nI s) (hp (mS S (Gm c wn n (wd μ)) (mD c n p i)))) n (fun s => nI (rn (fun s => 1 + Gm c wn n (wd μ) (p + 1) (orb i s)) (fun s => !i.testBit s && decide (wn p ≤ wd μ s)) (Gm c wn n (wd μ) (p + 1) i) s)) (K 209 x1 (nI p) (nI (i + 1)) (hp (mS S (Gm c wn n (wd μ)) (mD c n p (i + 1))))) ?_ ?_ F 0 (by omega) (by omega)
  · exact this
  · intro k
    rw [hrn]
    show fX10_tellMost_b79c F K _ 209 x1 (nI p) (nI i) _ (nI n) (hp (mS S (Gm c wn n (wd μ)) (mD c n p i))) = _
    unfold fX10_tellMost_b79c
    simp only [Option.bind_some, Nat.reduceAdd, ob9 kd_209, g9_0 kd_209, g9_1 kd_209, g9_2 kd_209, g9_3 kd_209, g9_4 kd_209, g9_5 kd_209, g9_6 kd_209, g9_7 kd_209, g9_8 kd_209, g9_9 kd_209, g9_10 kd_209, g9_11 kd_209, g9_12 kd_209, g9_13 kd_209, g9_14 kd_209, g9_15 kd_209, g9_16 kd_209, g9_17 kd_209, g9_18 kd_209, g9_19 kd_209, g9_20 kd_209, g9_21 kd_209, g9_22 kd_209, g9_23 kd_209, g9_24 kd_209, g9_25 kd_209, p9_1 kd_209, p9_10 kd_209, p9_11 kd_209, p9_12 kd_209, p9_13 kd_209, p9_14 kd_209, p9_15 kd_209, p9_24 kd_209, p9_25 kd_209, m212_0, mt1.2.1, lm512, nI_add, nI_1]
    rw [if_pos (nI_le (Nat.le_refl _) (by omega)), mS_wr S _ _ (by omega) (by omega) rfl, mD_s]
    simp only [Option.bind_some, Nat.reduceAdd]
  · intro k s hs
    have ob := orb_lt h9 hi hs
    have hgle : ∀ q m, Gm c wn n (wd μ) q m ≤ c := fun q m => mo_le _ _ _ _ _ _ _
    have rnle : rn (fun s => 1 + Gm c wn n (wd μ) (p + 1) (orb i s)) (fun s => !i.testBit s && decide (wn p ≤ wd μ s)) (Gm c wn n (wd μ) (p + 1) i) s ≤ c + 1 := by
      have : ∀ k, rn (fun s => 1 + Gm c wn n (wd μ) (p + 1) (orb i s)) (fun s => !i.testBit s && decide (wn p ≤ wd μ s)) (Gm c wn n (wd μ) (p + 1) i) k ≤ c + 1 := by
        intro k
        induction k with
        | zero => have := hgle (p + 1) i; show Gm c wn n (wd μ) (p + 1) i ≤ c + 1; omega
        | succ k ih =>
          simp only [rn]
          have := hgle (p + 1) (orb i k)
          split <;> omega
      exact this s
    have rd : o_aI (hp (mS S (Gm c wn n (wd μ)) (mD c n p i))) 224 0 (nI (512 * (p + 1) + orb i s)) = some (nI (Gm c wn n (wd μ) (p + 1) (orb i s))) := mS_rd S _ _ (by omega) (by omega) (decide_eq_true (by omega))
    show fX10_tellMost_b79c F K _ 209 x1 (nI p) (nI i) (nI (rn (fun s => 1 + Gm c wn n (wd μ) (p + 1) (orb i s)) (fun s => !i.testBit s && decide (wn p ≤ wd μ s)) (Gm c wn n (wd μ) (p + 1) i) s)) (nI s) (hp (mS S (Gm c wn n (wd μ)) (mD c n p i))) = fX10_tellMost_b79 F K k 209 x1 (nI p) (nI i) (nI (if (!i.testBit s && decide (wn p ≤ wd μ s)) then max (rn (fun s => 1 + Gm c wn n (wd μ) (p + 1) (orb i s)) (fun s => !i.testBit s && decide (wn p ≤ wd μ s)) (Gm c wn n (wd μ) (p + 1) i) s) (1 + Gm c wn n (wd μ) (p + 1) (orb i s)) else rn (fun s => 1 + Gm c wn n (wd μ) (p + 1) (orb i s)) (fun s => !i.testBit s && decide (wn p ≤ wd μ s)) (Gm c wn n (wd μ) (p + 1) i) s)) (nI (s + 1)) (hp (mS S (Gm c wn n (wd μ)) (mD c n p i)))
    generalize rn (fun s => 1 + Gm c wn n (wd μ) (p + 1) (orb i s)) (fun s => !i.testBit s && decide (wn p ≤ wd μ s)) (Gm c wn n (wd μ) (p + 1) i) s = V at *
    have hg := hgle (p + 1) (orb i s)
    have hh : fX10_has F (hp (mS S (Gm c wn n (wd μ)) (mD c n p i))) (nI i) (nI s) = some (if i.testBit s then 1 else 0, hp (mS S (Gm c wn n (wd μ)) (mD c n p i))) := by
      rw [nI_bs (k := 9) (show i < 2 ^ 9 by omega)]; exact mHas_eq F _ _ (by omega) (by omega)
    unfold fX10_tellMost_b79c fX10_tellMost_b146 fX10_tellMost_b148
    simp only [Option.bind_some, Nat.reduceAdd, ob9 kd_209, g9_0 kd_209, g9_1 kd_209, g9_2 kd_209, g9_3 kd_209, g9_4 kd_209, g9_5 kd_209, g9_6 kd_209, g9_7 kd_209, g9_8 kd_209, g9_9 kd_209, g9_10 kd_209, g9_11 kd_209, g9_12 kd_209, g9_13 kd_209, g9_14 kd_209, g9_15 kd_209, g9_16 kd_209, g9_17 kd_209, g9_18 kd_209, g9_19 kd_209, g9_20 kd_209, g9_21 kd_209, g9_22 kd_209, g9_23 kd_209, g9_24 kd_209, g9_25 kd_209, p9_1 kd_209, p9_10 kd_209, p9_11 kd_209, p9_12 kd_209, p9_13 kd_209, p9_14 kd_209, p9_15 kd_209, p9_24 kd_209, p9_25 kd_209, m212_0, mt1.2.1, hh, canHave_eq F mt1 hw hm1 wm hpc hs, orb_nI (show i < 512 by omega) (show s < 9 by omega), nI_1, lm512, nI_add, rd, la1]
    generalize mS S (Gm c wn n (wd μ)) (mD c n p i) = SS
    rw [if_neg (nI_ge hs (by omega))]
    cases i.testBit s
    · simp only [Bool.false_eq_true, if_false, if_true, Bool.not_false, Bool.true_and]
      by_cases hc : wn p ≤ wd μ s
      · simp only [hc, decide_true, if_true, e10, if_false]
        by_cases h : 1 + Gm c wn n (wd μ) (p + 1) (orb i s) ≤ V
        · rw [if_pos (nI_le h (by omega)), Nat.max_eq_left h]
        · rw [if_neg (nI_ge (by omega) (by omega)), Nat.max_eq_right (by omega)]
      · simp only [hc, decide_false, Bool.false_eq_true, if_false, if_true]
    · simp only [if_true, e10, if_false, Bool.not_true, Bool.false_and, Bool.false_eq_true]
theorem tell_p (F : Nat) (hF : 4000 ≤ F) {S : ST} {Y n c : Nat} {on ot wn : Nat → Nat} {μ : Mo} (mt0 : MT S Y n c on ot wn) (hw : TW Y n c on ot wn) (hm : MM S n c μ) (wm : WM n c μ) {p : Nat} (hpc : p < c) (K : Nat → Int32 → Int32 → HL → Option HL) : fX10_tellMost_b55 F K F 209 (nI (2 ^ n)) (nI p) 0 (hp (mS S (Gm c wn n (wd μ)) (mE c n (p + 1)))) = K 209 (nI (2 ^ n)) (nI p + (-1)) (hp (mS S (Gm c wn n (wd μ)) (mE c n p))) := by
  have h9 := hw.2.1
  have h6 := hw.2.2.1
  have hn1 : 2 ^ n ≤ 2 ^ 9 := Nat.pow_le_pow_right (by omega) h9
  have hn2 : 1 ≤ 2 ^ n := Nat.one_le_two_pow
  rw [← mD_0, ← mD_n (Nat.le_of_lt hpc) hn1]
  have := loopA (fun k i D => fX10_tellMost_b55 F K k 209 (nI (2 ^ n)) (nI p) (nI i) (hp (mS S (Gm c wn n (wd μ)) D))) (2 ^ n) (fun i => mD c n p i) (K 209 (nI (2 ^ n)) (nI p + (-1)) (hp (mS S (Gm c wn n (wd μ)) (mD c n p (2 ^ n))))) ?_ ?_ F 0 (by omega) (by omega)
  · exact this
  · intro k
    show fX10_tellMost_b55c F K _ 209 (nI (2 ^ n)) (nI p) (nI (2 ^ n)) (hp _) = _
    unfold fX10_tellMost_b55c
    rw [if_pos (nI_le (Nat.le_refl _) (by omega))]
  · intro k i hi
    show fX10_tellMost_b55c F K _ 209 (nI (2 ^ n)) (nI p) (nI i) (hp (mS S (Gm c wn n (wd μ)) (mD c n p i))) = _
    have rd : o_aI (hp (mS S (Gm c wn n (wd μ)) (mD c n p i))) 224 0 (nI (512 * (p + 1) + i)) = some (nI (Gm c wn n (wd μ) (p + 1) i)) := mS_rd S _ _ (by omega) (by omega) (decide_eq_true (by omega))
    unfold fX10_tellMost_b55c
    simp only [Option.bind_some, Nat.reduceAdd, ob9 kd_209, g9_0 kd_209, g9_1 kd_209, g9_2 kd_209, g9_3 kd_209, g9_4 kd_209, g9_5 kd_209, g9_6 kd_209, g9_7 kd_209, g9_8 kd_209, g9_9 kd_209, g9_10 kd_209, g9_11 kd_209, g9_12 kd_209, g9_13 kd_209, g9_14 kd_209, g9_15 kd_209, g9_16 kd_209, g9_17 kd_209, g9_18 kd_209, g9_19 kd_209, g9_20 kd_209, g9_21 kd_209, g9_22 kd_209, g9_23 kd_209, g9_24 kd_209, g9_25 kd_209, p9_1 kd_209, p9_10 kd_209, p9_11 kd_209, p9_12 kd_209, p9_13 kd_209, p9_14 kd_209, p9_15 kd_209, p9_24 kd_209, p9_25 kd_209, nI_1, lm512, nI_add, rd]
    rw [if_neg (nI_ge hi (by omega)), tell_s F hF mt0 hw hm wm hpc hi]
theorem tell_eq (F : Nat) (hF : 4000 ≤ F) {S : ST} {Y n c : Nat} {on ot wn : Nat → Nat} {μ : Mo} (mt0 : MT S Y n c on ot wn) (hw : TW Y n c on ot wn) (hm : MM S n c μ) (wm : WM n c μ) : fX10_tellMost F (hp S) 209 = some (hp (mS S (Gm c wn n (wd μ)) (mE c n 0))) := by
  have h9 := hw.2.1
  have h6 := hw.2.2.1
  have hn1 : 2 ^ n ≤ 2 ^ 9 := Nat.pow_le_pow_right (by omega) h9
  have hn2 : 1 ≤ 2 ^ n := Nat.one_le_two_pow
  unfold fX10_tellMost
  simp only [Option.bind_some, Nat.reduceAdd, ob9 kd_209, g9_0 kd_209, g9_1 kd_209, g9_2 kd_209, g9_3 kd_209, g9_4 kd_209, g9_5 kd_209, g9_6 kd_209, g9_7 kd_209, g9_8 kd_209, g9_9 kd_209, g9_10 kd_209, g9_11 kd_209, g9_12 kd_209, g9_13 kd_209, g9_14 kd_209, g9_15 kd_209, g9_16 kd_209, g9_17 kd_209, g9_18 kd_209, g9_19 kd_209, g9_20 kd_209, g9_21 kd_209, g9_22 kd_209, g9_23 kd_209, g9_24 kd_209, g9_25 kd_209, p9_1 kd_209, p9_10 kd_209, p9_11 kd_209, p9_12 kd_209, p9_13 kd_209, p9_14 kd_209, p9_15 kd_209, p9_24 kd_209, p9_25 kd_209, m212_0, mt0.2.1, sh1 (show n < 31 by omega)]
  have := loopA (fun k i D => fX10_tellMost_b11 F k 209 (nI (2 ^ n)) (nI i) (hp (mS S (Gm c wn n (wd μ)) D))) (2 ^ n) (fun i j => decide (512 * c ≤ j ∧ j < 512 * c + i)) (some (hp (mS S (Gm c wn n (wd μ)) (mE c n 0)))) ?_ ?_ F 0 (by omega) (by omega)
  · refine Eq.trans ?_ this
    have e : mS S (Gm c wn n (wd μ)) (fun j => decide (512 * c ≤ j ∧ j < 512 * c + 0)) = S := stI_id (fun j => if_neg (by
      have : ¬ (512 * c ≤ j ∧ j < 512 * c + 0) := by omega
      simp only [this, decide_false]
      exact Bool.false_ne_true))
    rw [e]
    rfl
  · intro k
    have e : (fun j => decide (512 * c ≤ j ∧ j < 512 * c + 2 ^ n)) = mE c n c := by
      funext j
      exact decide_eq_decide.mpr (by omega)
    rw [e]
    have mt1 := mt0.fr (mS_fr S (Gm c wn n (wd μ)) (mE c n c)) (by omega)
    show fX10_tellMost_b11c F _ 209 (nI (2 ^ n)) (nI (2 ^ n)) (hp (mS S (Gm c wn n (wd μ)) (mE c n c))) = _
    unfold fX10_tellMost_b11c
    simp only [Option.bind_some, Nat.reduceAdd, ob9 kd_209, g9_0 kd_209, g9_1 kd_209, g9_2 kd_209, g9_3 kd_209, g9_4 kd_209, g9_5 kd_209, g9_6 kd_209, g9_7 kd_209, g9_8 kd_209, g9_9 kd_209, g9_10 kd_209, g9_11 kd_209, g9_12 kd_209, g9_13 kd_209, g9_14 kd_209, g9_15 kd_209, g9_16 kd_209, g9_17 kd_209, g9_18 kd_209, g9_19 kd_209, g9_20 kd_209, g9_21 kd_209, g9_22 kd_209, g9_23 kd_209, g9_24 kd_209, g9_25 kd_209, p9_1 kd_209, p9_10 kd_209, p9_11 kd_209, p9_12 kd_209, p9_13 kd_209, p9_14 kd_209, p9_15 kd_209, p9_24 kd_209, p9_25 kd_209, m216_0, mt1.2.2.1]
    rw [if_pos (nI_le (Nat.le_refl _) (by omega)), show nI c - 1 = nI c + (-1) from Int32.sub_eq_add_neg _ _]
    have := loopD (fun k r D => fX10_tellMost_b49 F k 209 (nI (2 ^ n)) (nI r + (-1)) (hp (mS S (Gm c wn n (wd μ)) D))) c (fun r => mE c n r) (some (hp (mS S (Gm c wn n (wd μ)) (mE c n 0)))) ?_ ?_ F c (by omega) (by omega)
    · exact this
    · intro k
      show fX10_tellMost_b49c F _ 209 (nI (2 ^ n)) (nI 0 + (-1)) (hp _) = _
      unfold fX10_tellMost_b49c
      rw [if_pos (by decide)]
    · intro k r hr
      show fX10_tellMost_b49c F _ 209 (nI (2 ^ n)) (nI (r + 1) + (-1)) (hp (mS S (Gm c wn n (wd μ)) (mE c n (r + 1)))) = _
      unfold fX10_tellMost_b49c
      rw [pk_m1, if_neg (nI_pos (by omega)), tell_p F hF mt0 hw hm wm hr]
  · intro k i hi
    have mt1 := mt0.fr (mS_fr S (Gm c wn n (wd μ)) (fun j => decide (512 * c ≤ j ∧ j < 512 * c + i))) (by omega)
    show fX10_tellMost_b11c F _ 209 (nI (2 ^ n)) (nI i) (hp (mS S (Gm c wn n (wd μ)) (fun j => decide (512 * c ≤ j ∧ j < 512 * c + i)))) = fX10_tellMost_b11 F k 209 (nI (2 ^ n)) (nI (i + 1)) (hp (mS S (Gm c wn n (wd μ)) (fun j => decide (512 * c ≤ j ∧ j < 512 * c + (i + 1)))))
    have e : (fun j => decide (512 * c ≤ j ∧ j < 512 * c + i) || j == 512 * c + i) = fun j => decide (512 * c ≤ j ∧ j < 512 * c + (i + 1)) := by
      funext j
      by_cases h : j = 512 * c + i
      · rw [h]
        have : 512 * c ≤ 512 * c + i ∧ 512 * c + i < 512 * c + (i + 1) := by omega
        rw [decide_eq_true this]
        simp
      · rw [beq_false_of_ne h, Bool.or_false]
        exact decide_eq_decide.mpr (by omega)
    unfold fX10_tellMost_b11c
    simp only [Option.bind_some, Nat.reduceAdd, ob9 kd_209, g9_0 kd_209, g9_1 kd_209, g9_2 kd_209, g9_3 kd_209, g9_4 kd_209, g9_5 kd_209, g9_6 kd_209, g9_7 kd_209, g9_8 kd_209, g9_9 kd_209, g9_10 kd_209, g9_11 kd_209, g9_12 kd_209, g9_13 kd_209, g9_14 kd_209, g9_15 kd_209, g9_16 kd_209, g9_17 kd_209, g9_18 kd_209, g9_19 kd_209, g9_20 kd_209, g9_21 kd_209, g9_22 kd_209, g9_23 kd_209, g9_24 kd_209, g9_25 kd_209, p9_1 kd_209, p9_10 kd_209, p9_11 kd_209, p9_12 kd_209, p9_13 kd_209, p9_14 kd_209, p9_15 kd_209, p9_24 kd_209, p9_25 kd_209, m216_0, mt1.2.2.1, lm512, nI_add, nI_1]
    rw [if_neg (nI_ge hi (by omega)), show (0 : Int32) = nI 0 from rfl, mS_wr S (Gm c wn n (wd μ)) _ (p := c) (m := i) (v := 0) (by omega) (by omega) (gr_c _).symm, e]
    simp only [Option.bind_some, Nat.reduceAdd]

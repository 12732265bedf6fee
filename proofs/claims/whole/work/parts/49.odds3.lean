/-! odds -/
theorem tenTo_eq (F : Nat) (hF : 4000 ≤ F) (L : HL) {c : Nat} (hc : c ≤ 9) : fX8_tenTo F L (nI c) = some (nI (10 ^ c), L) := by
  unfold fX8_tenTo
  have := loopA (fun k i st => fX8_tenTo_b4 F k (nI c) st (nI i) L) c (fun i => nI (10 ^ i)) (some (nI (10 ^ c), L)) ?_ ?_ F 0 (by omega) (by omega)
  · exact this
  · intro k
    show fX8_tenTo_b4c F _ (nI c) _ (nI c) L = _
    unfold fX8_tenTo_b4c fX8_tenTo_b26
    rw [if_pos (nI_le (Nat.le_refl _) (by omega))]
  · intro k i hi
    show fX8_tenTo_b4c F _ (nI c) _ (nI i) L = _
    unfold fX8_tenTo_b4c
    rw [if_neg (nI_ge hi (by omega)), if_neg (show ¬ (9 : Int32) ≤ nI i from nI_ge (b := 9) (by omega) (by decide)), nI_1, show (10 : Int32) = nI 10 from rfl, pk_mul, Nat.pow_succ]
theorem streetOut_eq (F : Nat) (hF : 4000 ≤ F) {S : ST} {Y n c : Nat} {on ot wn wi : Nat → Nat} (hp' : PL S 188 Y n c on ot wn wi) (hw : TW Y n c on ot wn) (R U : Nat → Bool) : fX8_streetOut F (hp S) 187 (bs 8 R) (bs 9 U) = some (ffI n (fun s => U s && cutS on ot R s), hp S) := by
  have h9 := hw.2.1
  unfold fX8_streetOut
  simp only [Option.bind_some, Nat.reduceAdd, ob7 kd_187, g7_0 kd_187, g7_1 kd_187]
  have := loopF (fun k i => fX8_streetOut_b2 F k 187 (bs 8 R) (bs 9 U) (nI i) (hp S)) n (fun s => U s && cutS on ot R s) (fun m => some (if m < n then nI m else -9, hp S)) ?_ ?_ F (by omega)
  · exact this
  · intro k
    show fX8_streetOut_b2c F _ 187 (bs 8 R) (bs 9 U) (nI n) (hp S) = _
    unfold fX8_streetOut_b2c
    simp only [Option.bind_some, Nat.reduceAdd, ob7 kd_187, g7_0 kd_187, g7_1 kd_187, ob4 kd_188, g4_0 kd_188, g4_1 kd_188, g4_2 kd_188, g4_3 kd_188, g4_4 kd_188, g4_5 kd_188, g4_6 kd_188, g4_7 kd_188, g4_8 kd_188, p4_0 kd_188, p4_1 kd_188, p4_2 kd_188, hp'.2.1]
    rw [if_pos (nI_le (Nat.le_refl _) (by omega)), if_neg (Nat.lt_irrefl _)]
  · intro k i hi
    show fX8_streetOut_b2c F _ 187 (bs 8 R) (bs 9 U) (nI i) (hp S) = _
    unfold fX8_streetOut_b2c fX8_streetOut_b35
    simp only [Option.bind_some, Nat.reduceAdd, ob7 kd_187, g7_0 kd_187, g7_1 kd_187, ob4 kd_188, g4_0 kd_188, g4_1 kd_188, g4_2 kd_188, g4_3 kd_188, g4_4 kd_188, g4_5 kd_188, g4_6 kd_188, g4_7 kd_188, g4_8 kd_188, p4_0 kd_188, p4_1 kd_188, p4_2 kd_188, hp'.2.1]
    rw [if_neg (nI_ge hi (by omega)), has_eq F _ U (by omega) (by omega)]
    simp only [Option.bind_some, Nat.reduceAdd, ob7 kd_187, g7_0 kd_187, g7_1 kd_187, leadsOut_eq F hp' hw hi, nI_1]
    cases U i
    · simp
    · cases cutS on ot R i
      · simp
      · simp [hi]
theorem chances_eq (F : Nat) (hF : 4000 ≤ F) {S : ST} {Y n c : Nat} {on ot wn wi : Nat → Nat} (hp' : PL S 188 Y n c on ot wn wi) (hw : TW Y n c on ot wn) {x b : Nat} (hx : x ≤ 10) (hb : b < Y) (k : Nat) : ∀ (R U : Nat → Bool), cnt 9 U < k → fX8_chances F k (hp S) 187 (bs 8 R) (bs 9 U) (nI b) (nI x) = some (nI (chP n on ot x b k R U), hp S) := by
  have h9 := hw.2.1
  have y2 := hw.1.2
  induction k with
  | zero => intro R U h; omega
  | succ k ih =>
    intro R U hk
    show fX8_chancesc F (fX8_chances F k) (hp S) 187 (bs 8 R) (bs 9 U) (nI b) (nI x) = _
    unfold fX8_chancesc
    simp only [Option.bind_some, Nat.reduceAdd, ob7 kd_187, g7_0 kd_187, g7_1 kd_187, has_eq F _ R (show 8 ≤ 31 by omega) (show b < 8 by omega)]
    simp only [chP]
    cases hR : R b with
    | true =>
      have hc9 := cnt_le 9 U
      simp only [if_true, e10, if_false, bc_eq F _ U (Nat.le_refl 9), Option.bind_some, Nat.reduceAdd, tenTo_eq F hF _ hc9]
    | false =>
      simp only [Bool.false_eq_true, if_false, if_true, streetOut_eq F hF hp' hw, Option.bind_some, Nat.reduceAdd]
      unfold ffI
      obtain ⟨s1, s2, s3⟩ := ff_spec n (fun s => U s && cutS on ot R s)
      generalize ff n (fun s => U s && cutS on ot R s) = s at *
      by_cases hs : s < n
      · have hc := s3 hs
        rw [Bool.and_eq_true] at hc
        have hcnt : cnt 9 U = cnt 9 (fun i => U i && !(i == s)) + 1 := cnt_more (a := s) (by omega) (by simp) hc.1 (fun i _ hne => by simp [hne])
        simp only [if_pos hs]
        rw [if_neg (nI_m9 (by omega)), without_eq F _ U (by omega) (by omega)]
        simp only [Option.bind_some, Nat.reduceAdd, ob7 kd_187, g7_0 kd_187, g7_1 kd_187, endsOf_P F IsP_188 hp' hw hs, bs_or]
        rw [ih _ _ (by omega)]
        simp only [Option.bind_some, Nat.reduceAdd]
        rw [ih _ _ (by omega)]
        simp only [Option.bind_some, Nat.reduceAdd]
        rw [show (10 : Int32) = nI 10 from rfl, pk_sub hx, pk_mul, pk_mul, nI_add]
      · simp only [if_neg hs, if_true]
        rfl
theorem odds_pure {n Y : Nat} {on ot : Nat → Nat} {a b x : Nat} (hx : x ≤ 10) (h9 : n ≤ 9) (ha : a < 8) (hy : ∀ s, s < n → on s < 8 ∧ ot s < 8) : chP n on ot x b 12 (fun y => y == a) (fun s => decide (s < n)) = EE x n (fun z => if con n on ot z a b then 1 else 0) := by
  have hc : cnt 9 (fun s => decide (s < n)) = n := (by decide : ∀ n, n ≤ 9 → cnt 9 (fun s => decide (s < n)) = n) n h9
  have := chP_eq (n := n) (on := on) (ot := ot) (b := b) hx h9 12 (fun y => y == a) (fun s => decide (s < n)) (fun z => if con n on ot z a b then 1 else 0) (fun s hs => of_decide_eq_true hs) (by omega) (by
    intro z
    have iff : RE n on ot (fun y => y == a) (fun s => decide (s < n) && z s) b ↔ con n on ot z a b = true := by
      rw [con_iff ha hy]
      constructor
      · intro h X h1 h2
        refine h X (fun y hy' => ?_) (fun s hs ho => h2 s hs ?_)
        · rw [show y = a by simpa using hy']; exact h1
        · simpa [hs] using ho
      · intro h X h1 h2
        refine h X (h1 a (by simp)) (fun s hs ho => h2 s hs ?_)
        simp [hs, ho]
    refine ⟨fun h => if_pos (iff.mp h), fun h => if_neg (fun e => h (iff.mpr e))⟩)
  rw [hc, Nat.sub_self, Nat.pow_zero, Nat.mul_one] at this
  exact this
theorem wy_le {x : Nat} (hx : x ≤ 10) (k m : Nat) : wy x k m ≤ 10 ^ k := by
  induction k with
  | zero => exact Nat.le_refl _
  | succ k ih =>
    simp only [wy]
    rw [Nat.pow_succ]
    apply Nat.mul_le_mul ih
    split <;> omega
theorem ten9 {n : Nat} (h9 : n ≤ 9) : 10 ^ n ≤ 1000000000 := by
  have : 10 ^ n ≤ 10 ^ 9 := Nat.pow_le_pow_right (by omega) h9
  omega
theorem modds_inner (F : Nat) (hF : 4000 ≤ F) {S : ST} {Y n c : Nat} {on ot wn : Nat → Nat} {μ : Mo} (mt0 : MT S Y n c on ot wn) (hw : TW Y n c on ot wn) {a b x i : Nat} (ha : a < Y) (hb : b < Y) (hx : x ≤ 10) (hi : i < 2 ^ n) (K : Nat → Int32 → Int32 → Int32 → Int32 → Int32 → Int32 → Int32 → Int32 → HL → Option (Int32 × HL)) (w : Int32) (q : Nat) : fX10_odds_b60 F K F 209 (nI a) (nI b) (nI x) w (nI q) 1 (nI (2 ^ n - 1)) (nI i) 1 0 (hp S) = K 209 (nI a) (nI b) (nI x) w (nI (q + wy x n i * (if con n on ot (fun s => decide (s < n) && !i.testBit s) a b then 1 else 0))) 1 (nI (2 ^ n - 1)) (nI (i + 1)) (hp S) := by
  have h9 := hw.2.1
  have hn1 : 2 ^ n ≤ 2 ^ 9 := Nat.pow_le_pow_right (by omega) h9
  have hi9 : nI i = bs 9 (fun s => i.testBit s) := nI_bs (by omega)
  have v3 : fX10_wayBy F (hp S) 209 (nI a) (nI b) (nI (2 ^ n - 1) &&& (nI i ^^^ (-1))) = some (ffI 8 (fun t => rch n on ot (fun s => (decide (s < n) && opn (wd μ) 0 s) && !i.testBit s) a t b), hp S) := by
    rw [← allOpen h9 μ, hi9, bs_dif, wayBy_eq F hF mt0 hw _ ha hb]
  have v4 : con n on ot (fun s => (decide (s < n) && opn (wd μ) 0 s) && !i.testBit s) a b = con n on ot (fun s => decide (s < n) && !i.testBit s) a b := con_congr (fun s hs => by simp [hs, opn])
  have := loopA (fun k j st => fX10_odds_b60 F K k 209 (nI a) (nI b) (nI x) w (nI q) 1 (nI (2 ^ n - 1)) (nI i) st (nI j) (hp S)) n (fun j => nI (wy x j i)) (K 209 (nI a) (nI b) (nI x) w (nI (q + wy x n i * (if con n on ot (fun s => decide (s < n) && !i.testBit s) a b then 1 else 0))) 1 (nI (2 ^ n - 1)) (nI (i + 1)) (hp S)) ?_ ?_ F 0 (by omega) (by omega)
  · exact this
  · intro k
    show fX10_odds_b60c F K _ 209 (nI a) (nI b) (nI x) w (nI q) 1 (nI (2 ^ n - 1)) (nI i) (nI (wy x n i)) (nI n) (hp S) = _
    have hwy := wy_le hx n i
    have := ten9 h9
    unfold fX10_odds_b60c fX10_odds_b130 fX10_odds_b131
    simp only [Option.bind_some, Nat.reduceAdd, ob9 kd_209, g9_0 kd_209, g9_1 kd_209, g9_2 kd_209, g9_3 kd_209, g9_4 kd_209, g9_5 kd_209, g9_6 kd_209, g9_7 kd_209, g9_8 kd_209, g9_9 kd_209, g9_10 kd_209, g9_11 kd_209, g9_12 kd_209, g9_13 kd_209, g9_14 kd_209, g9_15 kd_209, g9_16 kd_209, g9_17 kd_209, g9_18 kd_209, g9_19 kd_209, g9_20 kd_209, g9_21 kd_209, g9_22 kd_209, g9_23 kd_209, g9_24 kd_209, g9_25 kd_209, p9_1 kd_209, p9_10 kd_209, p9_11 kd_209, p9_12 kd_209, p9_13 kd_209, p9_14 kd_209, p9_15 kd_209, p9_24 kd_209, p9_25 kd_209, m212_0, mt0.2.1, v3, ffI_dec, v4, nI_1]
    rw [if_pos (nI_le (Nat.le_refl _) (by omega))]
    by_cases h0 : wy x n i = 0
    · rw [if_pos (show nI (wy x n i) ≤ 0 by rw [h0]; decide), h0]
      simp
    · rw [if_neg (nI_nle (by omega) (by omega))]
      cases con n on ot (fun s => decide (s < n) && !i.testBit s) a b
      · simp
      · simp only [if_true, nI_add, Nat.mul_one]
  · intro k j hj
    show fX10_odds_b60c F K _ 209 (nI a) (nI b) (nI x) w (nI q) 1 (nI (2 ^ n - 1)) (nI i) (nI (wy x j i)) (nI j) (hp S) = fX10_odds_b60 F K k 209 (nI a) (nI b) (nI x) w (nI q) 1 (nI (2 ^ n - 1)) (nI i) (nI (wy x (j + 1) i)) (nI (j + 1)) (hp S)
    have hh : fX10_has F (hp S) (nI i) (nI j) = some (if i.testBit j then 1 else 0, hp S) := by rw [hi9]; exact mHas_eq F _ _ (by omega) (by omega)
    unfold fX10_odds_b60c fX10_odds_b91
    simp only [Option.bind_some, Nat.reduceAdd, ob9 kd_209, g9_0 kd_209, g9_1 kd_209, g9_2 kd_209, g9_3 kd_209, g9_4 kd_209, g9_5 kd_209, g9_6 kd_209, g9_7 kd_209, g9_8 kd_209, g9_9 kd_209, g9_10 kd_209, g9_11 kd_209, g9_12 kd_209, g9_13 kd_209, g9_14 kd_209, g9_15 kd_209, g9_16 kd_209, g9_17 kd_209, g9_18 kd_209, g9_19 kd_209, g9_20 kd_209, g9_21 kd_209, g9_22 kd_209, g9_23 kd_209, g9_24 kd_209, g9_25 kd_209, p9_1 kd_209, p9_10 kd_209, p9_11 kd_209, p9_12 kd_209, p9_13 kd_209, p9_14 kd_209, p9_15 kd_209, p9_24 kd_209, p9_25 kd_209, m212_0, mt0.2.1, hh, nI_1]
    rw [if_neg (nI_ge hj (by omega)), show (10 : Int32) = nI 10 from rfl, pk_sub hx, pk_mul, pk_mul]
    simp only [wy]
    cases i.testBit j
    · simp
    · simp
theorem modds_eq (F : Nat) (hF : 4000 ≤ F) {S : ST} {Y n c : Nat} {on ot wn : Nat → Nat} {μ : Mo} (mt0 : MT S Y n c on ot wn) (hw : TW Y n c on ot wn) {a b x : Nat} (ha : a < Y) (hb : b < Y) (hx : x ≤ 10) (w : Int32) : fX10_odds_b47 F F 209 (nI a) (nI b) (nI x) w 0 1 (nI (2 ^ n - 1)) 0 (hp S) = some (if w = 0 then nI (EE x n (fun z => if con n on ot z a b then 1 else 0) / Nat.gcd (EE x n (fun z => if con n on ot z a b then 1 else 0)) (10 ^ n)) else nI (10 ^ n / Nat.gcd (EE x n (fun z => if con n on ot z a b then 1 else 0)) (10 ^ n)), hp S) := by
  have h9 := hw.2.1
  have hn1 : 2 ^ n ≤ 2 ^ 9 := Nat.pow_le_pow_right (by omega) h9
  have hn2 : 1 ≤ 2 ^ n := Nat.one_le_two_pow
  have h10 := ten9 h9
  have h10p : 0 < 10 ^ n := Nat.pow_pos (by decide)
  have hEle : EE x n (fun z => if con n on ot z a b then 1 else 0) ≤ 10 ^ n := by
    have h1 := EE_mono (x := x) (k := n) (f := fun z => if con n on ot z a b then 1 else 0) (g := fun _ => 1) (fun z => by split <;> omega)
    rw [EE_const hx, Nat.mul_one] at h1
    exact h1
  rw [← sum_EE] at hEle ⊢
  generalize hg : (fun m : Nat => wy x n m * (if con n on ot (fun s => decide (s < n) && !m.testBit s) a b then 1 else 0)) = g at hEle ⊢
  have hgi : ∀ i, g i = wy x n i * (if con n on ot (fun s => decide (s < n) && !i.testBit s) a b then 1 else 0) := fun i => by rw [← hg]
  have := loopA (fun k i st => fX10_odds_b47 F k 209 (nI a) (nI b) (nI x) w st 1 (nI (2 ^ n - 1)) (nI i) (hp S)) (2 ^ n) (fun i => nI (sumN i g)) (some (if w = 0 then nI (sumN (2 ^ n) g / Nat.gcd (sumN (2 ^ n) g) (10 ^ n)) else nI (10 ^ n / Nat.gcd (sumN (2 ^ n) g) (10 ^ n)), hp S)) ?_ ?_ F 0 (by omega) (by omega)
  · exact this
  · intro k
    generalize sumN (2 ^ n) g = N at *
    show fX10_odds_b47c F _ 209 (nI a) (nI b) (nI x) w (nI N) 1 (nI (2 ^ n - 1)) (nI (2 ^ n)) (hp S) = _
    unfold fX10_odds_b47c
    rw [if_pos (nI_lt (by omega) (by omega))]
    have := loopA (fun k i st => fX10_odds_b143 F k 209 w (nI N) st (nI i) (hp S)) n (fun i => nI (10 ^ i)) (some (if w = 0 then nI (N / Nat.gcd N (10 ^ n)) else nI (10 ^ n / Nat.gcd N (10 ^ n)), hp S)) ?_ ?_ F 0 (by omega) (by omega)
    · exact this
    · intro k
      show fX10_odds_b143c F _ 209 w (nI N) (nI (10 ^ n)) (nI n) (hp S) = _
      unfold fX10_odds_b143c
      simp only [Option.bind_some, Nat.reduceAdd, ob9 kd_209, g9_0 kd_209, g9_1 kd_209, g9_2 kd_209, g9_3 kd_209, g9_4 kd_209, g9_5 kd_209, g9_6 kd_209, g9_7 kd_209, g9_8 kd_209, g9_9 kd_209, g9_10 kd_209, g9_11 kd_209, g9_12 kd_209, g9_13 kd_209, g9_14 kd_209, g9_15 kd_209, g9_16 kd_209, g9_17 kd_209, g9_18 kd_209, g9_19 kd_209, g9_20 kd_209, g9_21 kd_209, g9_22 kd_209, g9_23 kd_209, g9_24 kd_209, g9_25 kd_209, p9_1 kd_209, p9_10 kd_209, p9_11 kd_209, p9_12 kd_209, p9_13 kd_209, p9_14 kd_209, p9_15 kd_209, p9_24 kd_209, p9_25 kd_209, m212_0, mt0.2.1]
      rw [if_pos (nI_le (Nat.le_refl _) (by omega))]
      exact euclid F _ w (by omega) (by omega) 30 F N (10 ^ n) (by omega) (by omega) (by omega) (by omega) (by omega)
    · intro k i hi
      show fX10_odds_b143c F _ 209 w (nI N) (nI (10 ^ i)) (nI i) (hp S) = _
      unfold fX10_odds_b143c
      simp only [Option.bind_some, Nat.reduceAdd, ob9 kd_209, g9_0 kd_209, g9_1 kd_209, g9_2 kd_209, g9_3 kd_209, g9_4 kd_209, g9_5 kd_209, g9_6 kd_209, g9_7 kd_209, g9_8 kd_209, g9_9 kd_209, g9_10 kd_209, g9_11 kd_209, g9_12 kd_209, g9_13 kd_209, g9_14 kd_209, g9_15 kd_209, g9_16 kd_209, g9_17 kd_209, g9_18 kd_209, g9_19 kd_209, g9_20 kd_209, g9_21 kd_209, g9_22 kd_209, g9_23 kd_209, g9_24 kd_209, g9_25 kd_209, p9_1 kd_209, p9_10 kd_209, p9_11 kd_209, p9_12 kd_209, p9_13 kd_209, p9_14 kd_209, p9_15 kd_209, p9_24 kd_209, p9_25 kd_209, m212_0, mt0.2.1]
      rw [if_neg (nI_ge hi (by omega)), nI_1, show (10 : Int32) = nI 10 from rfl, pk_mul, Nat.pow_succ]
  · intro k i hi
    show fX10_odds_b47c F _ 209 (nI a) (nI b) (nI x) w (nI (sumN i g)) 1 (nI (2 ^ n - 1)) (nI i) (hp S) = fX10_odds_b47 F k 209 (nI a) (nI b) (nI x) w (nI (sumN i g + g i)) 1 (nI (2 ^ n - 1)) (nI (i + 1)) (hp S)
    unfold fX10_odds_b47c
    rw [if_neg (nI_nlt (by omega) (by omega)), modds_inner F hF (μ := μ) mt0 hw ha hb hx hi, hgi]
theorem c_odds (F : Nat) (hF : 4000 ≤ F) {S : ST} (h : Inv S) (x y z w : Int32) : Ok S (fun L => fX9_odds F L 0 x y z w) (fun L => fX10_odds F L 209 x y z w) := by
  have hI := h
  obtain ⟨Y, n, c, on, ot, wn, μ, k, ms, T, tx, f, mw, mn, kp, im, ik, ims, htw, hwa, hk, hm, htr⟩ := h
  have h9 := htw.2.1
  have h6 := htw.2.2.1
  have kt := hk.1
  have km := hk.2.1.1
  have wm := hwa.1
  have y2 := htw.1.2
  rcases twoc x y htw.1.2 with ⟨a, b, ha, hb, hab, rfl, rfl, hx⟩ | hx
  · rcases rng0_10 z with ⟨q, q1, q2, rfl, hz⟩ | hz
    · by_cases hw : (0 : Int32) ≤ w ∧ w ≤ 1
      · obtain ⟨S1, e1, f1, p1⟩ := waysNow_eq F hF h9 h6 kt km wm
        obtain ⟨m1, m2, m3, m4, m5⟩ := M_fr hm f1 (by omega)
        have kt1 := kt.fr f1 (by omega)
        have mo := modds_eq F hF (μ := μ) m1 htw ha hb q2 w
        have ch := chances_eq F hF p1 htw q2 hb 12 (fun y => y == a) (fun s => decide (s < n)) (by have := cnt_le 9 (fun s => decide (s < n)); omega)
        rw [odds_pure (Y := Y) q2 h9 (by omega) (on_8 htw)] at ch
        have hEle : EE q n (fun z => if con n on ot z a b then 1 else 0) ≤ 10 ^ n := by
          have h1 := EE_mono (x := q) (k := n) (f := fun z => if con n on ot z a b then 1 else 0) (g := fun _ => 1) (fun z => by split <;> omega)
          rw [EE_const q2, Nat.mul_one] at h1
          exact h1
        generalize EE q n (fun z => if con n on ot z a b then 1 else 0) = N at *
        have h10 := ten9 h9
        have sh := short_eq F hF kt1.2.1 h9 w (u := N) (l := 10 ^ n) (by omega) (by omega)
        obtain ⟨s1, s2⟩ := sh_end (red_sh (N := N) n (Nat.le_refl n))
        rw [s1, s2] at sh
        have ebs : bs 9 (fun s => decide (s < n)) = nI (2 ^ n - 1) := by unfold bs; rw [allb n h9]
        rw [ebs] at ch
        refine ⟨if w = 0 then nI (N / Nat.gcd N (10 ^ n)) else nI (10 ^ n / Nat.gcd N (10 ^ n)), S1, S1, ?_, ?_, hI.scr f1 (by omega)⟩
        · show fX9_odds F (hp S) 0 _ _ _ _ = _
          unfold fX9_odds
          simp only [Option.bind_some, Nat.reduceAdd, ob8 kd_0, g8_0 kd_0, g8_1 kd_0, g8_2 kd_0, g8_3 kd_0, g8_4 kd_0, g8_5 kd_0, g8_6 kd_0, g8_7 kd_0, g8_8 kd_0, g8_9 kd_0, p8_5 kd_0, p8_9 kd_0, ob6 kd_9, g6_0 kd_9, g6_1 kd_9, g6_2 kd_9, g6_3 kd_9, g6_4 kd_9, g6_5 kd_9, g6_6 kd_9, g6_7 kd_9, p6_0 kd_9, p6_1 kd_9, p6_2 kd_9, yards_eq F kt.1, if_pos hx, e10, if_false, within_eq, if_pos hz, if_pos hw, kt.2.1, kt1.2.1, tenTo_eq F hF _ h9, e1, allOf_eq F _ (show n < 31 by omega)]
          rw [bs_one (k := 8) (show a < 8 by omega) (by omega), ch]
          simp only [Option.bind_some, Nat.reduceAdd]
          exact sh
        · show fX10_odds F (hp S1) 209 _ _ _ _ = _
          unfold fX10_odds
          simp only [Option.bind_some, Nat.reduceAdd, ob9 kd_209, g9_0 kd_209, g9_1 kd_209, g9_2 kd_209, g9_3 kd_209, g9_4 kd_209, g9_5 kd_209, g9_6 kd_209, g9_7 kd_209, g9_8 kd_209, g9_9 kd_209, g9_10 kd_209, g9_11 kd_209, g9_12 kd_209, g9_13 kd_209, g9_14 kd_209, g9_15 kd_209, g9_16 kd_209, g9_17 kd_209, g9_18 kd_209, g9_19 kd_209, g9_20 kd_209, g9_21 kd_209, g9_22 kd_209, g9_23 kd_209, g9_24 kd_209, g9_25 kd_209, p9_1 kd_209, p9_10 kd_209, p9_11 kd_209, p9_12 kd_209, p9_13 kd_209, p9_14 kd_209, p9_15 kd_209, p9_24 kd_209, p9_25 kd_209, areTwo_eq F m1.1, if_pos hx, e10, if_false, in_eq, if_pos hz, if_pos hw]
          rw [show fX10_openBy F (hp S1) 209 0 = _ from openBy_eq F hF m1.2.1 h9 m2.1 wm (w := 0) (by omega)]
          simp only [Option.bind_some, Nat.reduceAdd, allOpen h9 μ, mo]
      · refine Ok.of hI ⟨-1, ?_, ?_⟩
        · unfold fX9_odds fX9_odds_b29
          simp only [Option.bind_some, Nat.reduceAdd, ob8 kd_0, g8_0 kd_0, g8_1 kd_0, g8_2 kd_0, g8_3 kd_0, g8_4 kd_0, g8_5 kd_0, g8_6 kd_0, g8_7 kd_0, g8_8 kd_0, g8_9 kd_0, p8_5 kd_0, p8_9 kd_0, yards_eq F kt.1, if_pos hx, e10, if_false, within_eq, if_pos hz, if_neg hw, if_true]
        · unfold fX10_odds fX10_odds_b29
          simp only [Option.bind_some, Nat.reduceAdd, ob9 kd_209, g9_0 kd_209, g9_1 kd_209, g9_2 kd_209, g9_3 kd_209, g9_4 kd_209, g9_5 kd_209, g9_6 kd_209, g9_7 kd_209, g9_8 kd_209, g9_9 kd_209, g9_10 kd_209, g9_11 kd_209, g9_12 kd_209, g9_13 kd_209, g9_14 kd_209, g9_15 kd_209, g9_16 kd_209, g9_17 kd_209, g9_18 kd_209, g9_19 kd_209, g9_20 kd_209, g9_21 kd_209, g9_22 kd_209, g9_23 kd_209, g9_24 kd_209, g9_25 kd_209, p9_1 kd_209, p9_10 kd_209, p9_11 kd_209, p9_12 kd_209, p9_13 kd_209, p9_14 kd_209, p9_15 kd_209, p9_24 kd_209, p9_25 kd_209, areTwo_eq F hm.1.1, if_pos hx, e10, if_false, in_eq, if_pos hz, if_neg hw, if_true]
    · refine Ok.of hI ⟨-1, ?_, ?_⟩
      · unfold fX9_odds fX9_odds_b29
        simp only [Option.bind_some, Nat.reduceAdd, ob8 kd_0, g8_0 kd_0, g8_1 kd_0, g8_2 kd_0, g8_3 kd_0, g8_4 kd_0, g8_5 kd_0, g8_6 kd_0, g8_7 kd_0, g8_8 kd_0, g8_9 kd_0, p8_5 kd_0, p8_9 kd_0, yards_eq F kt.1, if_pos hx, e10, if_false, within_eq, if_neg hz, if_true]
      · unfold fX10_odds fX10_odds_b29
        simp only [Option.bind_some, Nat.reduceAdd, ob9 kd_209, g9_0 kd_209, g9_1 kd_209, g9_2 kd_209, g9_3 kd_209, g9_4 kd_209, g9_5 kd_209, g9_6 kd_209, g9_7 kd_209, g9_8 kd_209, g9_9 kd_209, g9_10 kd_209, g9_11 kd_209, g9_12 kd_209, g9_13 kd_209, g9_14 kd_209, g9_15 kd_209, g9_16 kd_209, g9_17 kd_209, g9_18 kd_209, g9_19 kd_209, g9_20 kd_209, g9_21 kd_209, g9_22 kd_209, g9_23 kd_209, g9_24 kd_209, g9_25 kd_209, p9_1 kd_209, p9_10 kd_209, p9_11 kd_209, p9_12 kd_209, p9_13 kd_209, p9_14 kd_209, p9_15 kd_209, p9_24 kd_209, p9_25 kd_209, areTwo_eq F hm.1.1, if_pos hx, e10, if_false, in_eq, if_neg hz, if_true]
  · refine Ok.of hI ⟨-1, ?_, ?_⟩
    · unfold fX9_odds fX9_odds_b29
      simp only [Option.bind_some, Nat.reduceAdd, ob8 kd_0, g8_0 kd_0, g8_1 kd_0, g8_2 kd_0, g8_3 kd_0, g8_4 kd_0, g8_5 kd_0, g8_6 kd_0, g8_7 kd_0, g8_8 kd_0, g8_9 kd_0, p8_5 kd_0, p8_9 kd_0, yards_eq F kt.1, if_neg hx, if_true]
    · unfold fX10_odds fX10_odds_b29
      simp only [Option.bind_some, Nat.reduceAdd, ob9 kd_209, g9_0 kd_209, g9_1 kd_209, g9_2 kd_209, g9_3 kd_209, g9_4 kd_209, g9_5 kd_209, g9_6 kd_209, g9_7 kd_209, g9_8 kd_209, g9_9 kd_209, g9_10 kd_209, g9_11 kd_209, g9_12 kd_209, g9_13 kd_209, g9_14 kd_209, g9_15 kd_209, g9_16 kd_209, g9_17 kd_209, g9_18 kd_209, g9_19 kd_209, g9_20 kd_209, g9_21 kd_209, g9_22 kd_209, g9_23 kd_209, g9_24 kd_209, g9_25 kd_209, p9_1 kd_209, p9_10 kd_209, p9_11 kd_209, p9_12 kd_209, p9_13 kd_209, p9_14 kd_209, p9_15 kd_209, p9_24 kd_209, p9_25 kd_209, areTwo_eq F hm.1.1, if_neg hx, if_true]

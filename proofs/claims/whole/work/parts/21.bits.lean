/-! sets of small numbers as bits (the bt rows began as kit/laws/BITS.to-paste) -/
def bt (x : Int32) (i : Nat) : Bool := x.toBitVec.getLsbD i
theorem b_ext {x y : Int32} (h : ∀ i, i < 32 → bt x i = bt y i) : x = y := Int32.toBitVec_inj.mp (BitVec.eq_of_getLsbD_eq (fun i hi => h i hi))
theorem b_or (x y : Int32) (i : Nat) : bt (x ||| y) i = (bt x i || bt y i) := by unfold bt; rw [Int32.toBitVec_or, BitVec.getLsbD_or]
theorem b_and (x y : Int32) (i : Nat) : bt (x &&& y) i = (bt x i && bt y i) := by unfold bt; rw [Int32.toBitVec_and, BitVec.getLsbD_and]
theorem b_xor (x y : Int32) (i : Nat) : bt (x ^^^ y) i = (bt x i ^^ bt y i) := by unfold bt; rw [Int32.toBitVec_xor, BitVec.getLsbD_xor]
theorem b_m1 : ∀ i, i < 32 → bt (-1) i = true := by decide +kernel
theorem b_0 (i : Nat) : bt 0 i = false := BitVec.getLsbD_zero
theorem s_l : ∀ n, n < 32 → ((nI n &&& 31).toBitVec.smod 32).toNat = n := by decide +kernel
def bsum : Nat → (Nat → Bool) → Nat
  | 0, _ => 0
  | k + 1, P => bsum k P + (if P k then 2 ^ k else 0)
theorem bsum_lt (k : Nat) (P : Nat → Bool) : bsum k P < 2 ^ k := by
  induction k with
  | zero => simp [bsum]
  | succ k ih =>
    simp only [bsum]
    rw [Nat.pow_succ]
    split <;> omega
theorem bsum_bit (k : Nat) (P : Nat → Bool) (i : Nat) : (bsum k P).testBit i = (decide (i < k) && P i) := by
  induction k with
  | zero => simp [bsum]
  | succ k ih =>
    have h : bsum (k + 1) P = 2 ^ k * (if P k then 1 else 0) + bsum k P := by
      simp only [bsum]
      split <;> omega
    rw [h, Nat.testBit_two_pow_mul_add _ (bsum_lt k P)]
    by_cases hi : i < k
    · rw [if_pos hi, ih]
      simp [hi, Nat.lt_succ_of_lt hi]
    · rw [if_neg hi]
      by_cases hk : i = k
      · subst hk
        cases hp : P i <;> simp
      · have h1 : ¬ i < k + 1 := by omega
        have h2 : i - k ≠ 0 := by omega
        have h3 : ∀ b : Nat, b ≤ 1 → b.testBit (i - k) = false := by
          intro b hb
          apply Nat.testBit_lt_two_pow
          have : 2 ^ 1 ≤ 2 ^ (i - k) := Nat.pow_le_pow_right (by omega) (by omega)
          omega
        simp only [h1, decide_false, Bool.false_and]
        exact h3 _ (by split <;> omega)
theorem bsum_congr {k : Nat} {P Q : Nat → Bool} (h : ∀ i, i < k → P i = Q i) : bsum k P = bsum k Q := by
  induction k with
  | zero => rfl
  | succ k ih =>
    simp only [bsum]
    rw [ih (fun i hi => h i (by omega)), h k (by omega)]
/-- a set as an int -/
def bs (k : Nat) (P : Nat → Bool) : Int32 := nI (bsum k P)
theorem bt_nI (m i : Nat) (h : i < 32) : bt (nI m) i = m.testBit i := by
  show (BitVec.ofNat 32 m).getLsbD i = _
  rw [BitVec.getLsbD_ofNat]
  simp [h]
theorem bt_bs (k : Nat) (P : Nat → Bool) {i : Nat} (h : i < 32) : bt (bs k P) i = (decide (i < k) && P i) := by
  unfold bs
  rw [bt_nI _ _ h, bsum_bit]
theorem bs_ext {k : Nat} {P Q : Nat → Bool} (h : ∀ i, i < k → P i = Q i) : bs k P = bs k Q := by
  unfold bs
  rw [bsum_congr h]
theorem bs_or (k : Nat) (P Q : Nat → Bool) : bs k P ||| bs k Q = bs k (fun i => P i || Q i) := by
  apply b_ext
  intro i hi
  rw [b_or, bt_bs _ _ hi, bt_bs _ _ hi, bt_bs _ _ hi]
  cases decide (i < k) <;> simp
theorem bs_and (k : Nat) (P Q : Nat → Bool) : bs k P &&& bs k Q = bs k (fun i => P i && Q i) := by
  apply b_ext
  intro i hi
  rw [b_and, bt_bs _ _ hi, bt_bs _ _ hi, bt_bs _ _ hi]
  cases decide (i < k) <;> simp
theorem bs_dif (k : Nat) (P Q : Nat → Bool) : bs k P &&& (bs k Q ^^^ (-1)) = bs k (fun i => P i && !Q i) := by
  apply b_ext
  intro i hi
  rw [b_and, b_xor, bt_bs _ _ hi, bt_bs _ _ hi, bt_bs _ _ hi, b_m1 i hi]
  cases decide (i < k) <;> simp
theorem bsum_one (k j : Nat) (h : j < k) : bsum k (fun i => i == j) = 2 ^ j := by
  induction k with
  | zero => omega
  | succ k ih =>
    simp only [bsum]
    by_cases hk : k = j
    · subst hk
      have : bsum k (fun i => i == k) = 0 := by
        have h0 : ∀ m, m ≤ k → bsum m (fun i => i == k) = 0 := by
          intro m
          induction m with
          | zero => intro _; rfl
          | succ m ihm =>
            intro hm
            simp only [bsum]
            rw [ihm (by omega)]
            have : m ≠ k := by omega
            simp [this]
        exact h0 k (Nat.le_refl _)
      rw [this]
      simp
    · rw [ih (by omega)]
      simp [hk]
theorem bs_one {k j : Nat} (h : j < k) (hk : k ≤ 31) : (1 : Int32) <<< (nI j &&& 31) = bs k (fun i => i == j) := by
  unfold bs
  rw [bsum_one k j h, show (1 : Int32) = nI 1 from rfl, pk_shlN (nI j &&& 31) j (s_l j (by omega)) ?_, Nat.one_mul]
  rw [Nat.one_mul]
  exact Nat.pow_lt_pow_right (by omega) (by omega)
theorem bs_lt {k : Nat} (P : Nat → Bool) (hk : k ≤ 31) : bsum k P < 2 ^ 31 := Nat.lt_of_lt_of_le (bsum_lt k P) (Nat.pow_le_pow_right (by omega) hk)
theorem bs_has {k j : Nat} (P : Nat → Bool) (hk : k ≤ 31) (hj : j < 31) : (bs k P >>> (nI j &&& 31)) &&& 1 = if (decide (j < k) && P j) then 1 else 0 := by
  unfold bs
  rw [pk_shrN (bs_lt P hk) (nI j &&& 31) j (s_l j (by omega)), pk_andN (k := 1) (Nat.lt_of_le_of_lt (Nat.div_le_self _ _) (Nat.lt_trans (bs_lt P hk) (by decide))) (by decide)]
  have h := bsum_bit k P j
  rw [Nat.testBit_eq_decide_div_mod_eq] at h
  rw [← h]
  rcases Nat.mod_two_eq_zero_or_one (bsum k P / 2 ^ j) with h2 | h2
  · simp [h2]; rfl
  · simp [h2]; rfl
theorem bs_none (k : Nat) : bs k (fun _ => false) = 0 := by
  have : bsum k (fun _ => false) = 0 := by
    induction k with
    | zero => rfl
    | succ k ih => simp [bsum, ih]
  unfold bs
  rw [this]
  rfl
theorem bs_inj {k : Nat} {P Q : Nat → Bool} (hk : k ≤ 31) (h : bs k P = bs k Q) : ∀ i, i < k → P i = Q i := by
  intro i hi
  have h1 := bt_bs k P (show i < 32 by omega)
  have h2 := bt_bs k Q (show i < 32 by omega)
  rw [h, h2] at h1
  simpa [hi] using h1.symm
theorem bs_zero {k : Nat} {P : Nat → Bool} (hk : k ≤ 31) : bs k P = 0 ↔ ∀ i, i < k → P i = false := by
  constructor
  · intro h
    rw [← bs_none k] at h
    exact bs_inj hk h
  · intro h
    rw [← bs_none k]
    exact bs_ext h
def cnt : Nat → (Nat → Bool) → Nat
  | 0, _ => 0
  | k + 1, P => cnt k P + (if P k then 1 else 0)
theorem cnt_congr {k : Nat} {P Q : Nat → Bool} (h : ∀ i, i < k → P i = Q i) : cnt k P = cnt k Q := by
  induction k with
  | zero => rfl
  | succ k ih =>
    simp only [cnt]
    rw [ih (fun i hi => h i (by omega)), h k (by omega)]
theorem cnt_le (k : Nat) (P : Nat → Bool) : cnt k P ≤ k := by
  induction k with
  | zero => exact Nat.le_refl _
  | succ k ih => simp only [cnt]; split <;> omega
theorem bsum_up {k k' : Nat} (P : Nat → Bool) (h : k ≤ k') : bsum k P = bsum k' (fun i => decide (i < k) && P i) := by
  induction k' with
  | zero =>
    have : k = 0 := by omega
    subst this
    rfl
  | succ m ih =>
    by_cases hk : k = m + 1
    · subst hk
      exact bsum_congr (fun i hi => by simp [hi])
    · rw [ih (by omega)]
      simp only [bsum]
      have : ¬ m < k := by omega
      simp [this]
theorem cnt_up {k k' : Nat} (P : Nat → Bool) (h : k ≤ k') : cnt k P = cnt k' (fun i => decide (i < k) && P i) := by
  induction k' with
  | zero =>
    have : k = 0 := by omega
    subst this
    rfl
  | succ m ih =>
    by_cases hk : k = m + 1
    · subst hk
      exact cnt_congr (fun i hi => by simp [hi])
    · rw [ih (by omega)]
      simp only [cnt]
      have : ¬ m < k := by omega
      simp [this]
/-- a number as the set of its bits -/
theorem bsum_of (k m : Nat) (h : m < 2 ^ k) : bsum k (fun i => m.testBit i) = m := by
  apply Nat.eq_of_testBit_eq
  intro i
  rw [bsum_bit]
  by_cases hi : i < k
  · simp [hi]
  · rw [Nat.testBit_lt_two_pow (Nat.lt_of_lt_of_le h (Nat.pow_le_pow_right (by omega) (by omega)))]
    simp [hi]
/-- the JDK's bitCount, on nine bits -/
theorem bc_all : ∀ m, m < 512 → (fJ6_bitCount_0f7a4 0 [] (nI m)).map Prod.fst = some (nI (cnt 9 (fun i => m.testBit i))) := by decide +kernel
theorem bc_eq (F : Nat) (L : HL) {k : Nat} (P : Nat → Bool) (hk : k ≤ 9) : fJ6_bitCount_0f7a4 F L (bs k P) = some (nI (cnt k P), L) := by
  have hm : bsum k P < 512 := Nat.lt_of_lt_of_le (bsum_lt k P) (Nat.pow_le_pow_right (n := 2) (by omega) hk)
  have h := bc_all _ hm
  have hc : cnt 9 (fun i => (bsum k P).testBit i) = cnt k P := by
    rw [cnt_up P hk]
    exact cnt_congr (fun i _ => bsum_bit k P i)
  rw [hc] at h
  unfold fJ6_bitCount_0f7a4 at h ⊢
  simp only [Option.map_some, Option.some.injEq] at h
  unfold bs
  rw [h]
theorem isIn (x : Int32) (n : Nat) (hn : n < 2 ^ 30) : (0 ≤ x ∧ x ≤ nI n - 1) ↔ ∃ j, j < n ∧ x = nI j := by
  constructor
  · intro ⟨h0, h1⟩
    obtain ⟨j, hj, rfl⟩ := nI_of (x := x) (by intro h; exact absurd h0 (Int32.not_le.mpr h))
    refine ⟨j, ?_, rfl⟩
    rw [Int32.le_iff_toInt_le, nI_toInt hj] at h1
    have h2 : (nI n - 1).toInt = (n : Int) - 1 := pk_sub_toInt (a := n) (b := 1) hn (by decide)
    omega
  · rintro ⟨j, hj, rfl⟩
    refine ⟨nI_pos' (by omega), ?_⟩
    rw [Int32.le_iff_toInt_le, nI_toInt (by omega), show (nI n - 1).toInt = (n : Int) - 1 from pk_sub_toInt (a := n) (b := 1) hn (by decide)]
    omega

/-! sets of streets by their keys: the pure part of flow and need -/
theorem sumN_congr {k : Nat} {f g : Nat → Nat} (h : ∀ i, i < k → f i = g i) : sumN k f = sumN k g := by
  induction k with
  | zero => rfl
  | succ k ih => simp only [sumN]; rw [ih (fun i hi => h i (by omega)), h k (by omega)]
theorem sumN_mono {k : Nat} {f g : Nat → Nat} (h : ∀ i, i < k → f i ≤ g i) : sumN k f ≤ sumN k g := by
  induction k with
  | zero => exact Nat.le_refl _
  | succ k ih =>
    simp only [sumN]
    have := ih (fun i hi => h i (by omega))
    have := h k (by omega)
    omega
def sset (n : Nat) (D : Nat → Bool) (f : Nat → Nat) : Nat := sumN n (fun s => if D s then f s else 0)
theorem sset_congr {n : Nat} {D E : Nat → Bool} (f : Nat → Nat) (h : ∀ s, s < n → D s = E s) : sset n D f = sset n E f := sumN_congr (fun s hs => by rw [h s hs])
theorem sset_mono {n : Nat} {D E : Nat → Bool} (f : Nat → Nat) (h : ∀ s, s < n → D s = true → E s = true) : sset n D f ≤ sset n E f := sumN_mono (fun s hs => by
  cases hd : D s
  · simp
  · rw [h s hs hd]; simp)
def kw (wi : Nat → Nat) (s : Nat) : Nat := wi s * 8192 + 512 + 2 ^ s
theorem kw_sum (n : Nat) (D : Nat → Bool) (wi : Nat → Nat) : sset n D (kw wi) = 8192 * sset n D wi + 512 * cnt n D + bsum n D := by
  unfold sset
  induction n with
  | zero => rfl
  | succ n ih =>
    simp only [sumN, cnt, bsum]
    rw [ih]
    cases D n
    · simp
    · simp only [if_true, kw]
      omega
def FR : Nat := 1073741824
def mnN : Nat → (Nat → Nat) → Nat
  | 0, _ => FR
  | k + 1, f => min (mnN k f) (f k)
theorem mnN_le0 (k : Nat) (f : Nat → Nat) : mnN k f ≤ FR := by
  induction k with
  | zero => exact Nat.le_refl _
  | succ k ih => simp only [mnN]; omega
theorem mnN_le {k i : Nat} {f : Nat → Nat} (h : i < k) : mnN k f ≤ f i := by
  induction k with
  | zero => omega
  | succ k ih =>
    simp only [mnN]
    by_cases hk : i = k
    · subst hk; omega
    · have := ih (by omega); omega
theorem mnN_ge {k b : Nat} {f : Nat → Nat} (hb : b ≤ FR) (h : ∀ i, i < k → b ≤ f i) : b ≤ mnN k f := by
  induction k with
  | zero => exact hb
  | succ k ih =>
    simp only [mnN]
    have := ih (fun i hi => h i (by omega))
    have := h k (by omega)
    omega
theorem mnN_at (k : Nat) (f : Nat → Nat) : mnN k f = FR ∨ ∃ i, i < k ∧ mnN k f = f i := by
  induction k with
  | zero => exact Or.inl rfl
  | succ k ih =>
    simp only [mnN]
    by_cases h : mnN k f ≤ f k
    · rw [Nat.min_eq_left h]
      rcases ih with ih | ⟨i, hi, ih⟩
      · exact Or.inl ih
      · exact Or.inr ⟨i, by omega, ih⟩
    · rw [Nat.min_eq_right (by omega)]
      exact Or.inr ⟨k, by omega, rfl⟩
def cutS (on ot : Nat → Nat) (X : Nat → Bool) (s : Nat) : Bool := !(X (on s) == X (ot s))
theorem cut_two {n Y : Nat} {on ot wi : Nat → Nat} {a b : Nat} (hn : n ≤ 9) (h8 : Y ≤ 8) (ha : a < Y) (hb : b < Y) (hY : ∀ s, s < n → on s < Y ∧ ot s < Y) : mnN (2 ^ Y) (fun m => if m.testBit a && !m.testBit b then sset n (cutS on ot (fun y => m.testBit y)) (kw wi) else FR) = mnN (2 ^ n) (fun m => if con n on ot (fun s => !m.testBit s) a b then FR else sset n (fun s => m.testBit s) (kw wi)) := by
  have hy : ∀ s, s < n → on s < 8 ∧ ot s < 8 := fun s hs => by have := hY s hs; omega
  apply Nat.le_antisymm
  · apply mnN_ge (mnN_le0 _ _)
    intro d hd
    cases hc : con n on ot (fun s => !d.testBit s) a b with
    | true => rw [if_pos rfl]; exact mnN_le0 _ _
    | false =>
      rw [if_neg (by simp)]
      have hm := bsum_lt Y (rch n on ot (fun s => !d.testBit s) a 7)
      refine Nat.le_trans (mnN_le hm) ?_
      have e1 : (bsum Y (rch n on ot (fun s => !d.testBit s) a 7)).testBit a = true := by
        rw [bsum_bit, rch_a]; simp [ha]
      have e2 : (bsum Y (rch n on ot (fun s => !d.testBit s) a 7)).testBit b = false := by
        rw [bsum_bit]
        unfold con at hc
        rw [hc]; simp
      rw [e1, e2, if_pos (by rfl)]
      apply sset_mono
      intro s hs hcut
      have hcl := rch7_clo (n := n) (on := on) (ot := ot) (op := fun s => !d.testBit s) (a := a) (by omega) hy s hs
      have y1 := hY s hs
      unfold cutS at hcut
      dsimp only at hcut
      rw [bsum_bit, bsum_bit] at hcut
      simp only [y1.1, y1.2, decide_true, Bool.true_and] at hcut
      cases hb' : d.testBit s
      · have := hcl (by simp [hb'])
        rw [this] at hcut
        simp at hcut
      · rfl
  · apply mnN_ge (mnN_le0 _ _)
    intro m hm
    cases hc : (m.testBit a && !m.testBit b) with
    | false => rw [if_neg (by simp)]; exact mnN_le0 _ _
    | true =>
      rw [if_pos rfl]
      rw [Bool.and_eq_true] at hc
      have hd := bsum_lt n (cutS on ot (fun y => m.testBit y))
      refine Nat.le_trans (mnN_le hd) ?_
      have e : con n on ot (fun s => !(bsum n (cutS on ot (fun y => m.testBit y))).testBit s) a b = false := by
        cases hcc : con n on ot (fun s => !(bsum n (cutS on ot (fun y => m.testBit y))).testBit s) a b
        · rfl
        · have := (con_iff (by omega) hy).mp hcc (fun y => m.testBit y) hc.1 (fun s hs ho => by
            dsimp only at ho
            rw [bsum_bit] at ho
            simp only [hs, decide_true, Bool.true_and, cutS, Bool.not_not] at ho
            simpa using ho)
          rw [this] at hc
          simp at hc
      rw [e, if_neg (by simp)]
      apply Nat.le_of_eq
      apply sset_congr
      intro s hs
      rw [bsum_bit]
      simp [hs]
theorem allb : ∀ n, n ≤ 9 → bsum 9 (fun s => decide (s < n)) = 2 ^ n - 1 := by decide
theorem bit_hi {m n s : Nat} (h : m < 2 ^ n) (hs : n ≤ s) : m.testBit s = false := Nat.testBit_lt_two_pow (Nat.lt_of_lt_of_le h (Nat.pow_le_pow_right (by omega) hs))
theorem cnt_bits {m n : Nat} (h : m < 2 ^ n) (h9 : n ≤ 9) : cnt 9 (fun s => m.testBit s) = cnt n (fun s => m.testBit s) := by
  rw [cnt_up (fun s => m.testBit s) h9]
  apply cnt_congr
  intro i _
  by_cases hi : i < n
  · simp [hi]
  · rw [bit_hi h (by omega)]; simp
theorem key_parts {n m : Nat} {wi : Nat → Nat} (h9 : n ≤ 9) (hm : m < 2 ^ n) (hw : ∀ s, s < n → wi s ≤ 10) : sset n (fun s => m.testBit s) (kw wi) = 8192 * sset n (fun s => m.testBit s) wi + 512 * cnt n (fun s => m.testBit s) + m ∧ cnt n (fun s => m.testBit s) ≤ 9 ∧ sset n (fun s => m.testBit s) wi ≤ 90 ∧ m < 512 := by
  refine ⟨?_, ?_, ?_, ?_⟩
  · rw [kw_sum, bsum_of n m hm]
  · have := cnt_le n (fun s => m.testBit s); omega
  · have := sumN_le n (fun s => if m.testBit s then wi s else 0) 10 (fun i hi => by
      have := hw i hi
      split <;> omega)
    show sumN n (fun s => if m.testBit s then wi s else 0) ≤ 90
    omega
  · have : 2 ^ n ≤ 2 ^ 9 := Nat.pow_le_pow_right (by omega) h9
    omega
theorem sh1 {k : Nat} (h : k < 31) : (1 : Int32) <<< (nI k &&& 31) = nI (2 ^ k) := by
  have hk : 2 ^ k < 2 ^ 31 := Nat.pow_lt_pow_right (by omega) h
  rw [show (1 : Int32) = nI 1 from rfl, pk_shlN (nI k &&& 31) k (s_l k (by omega)) (by omega), Nat.one_mul]
theorem allOf_eq (F : Nat) (L : HL) {k : Nat} (h : k < 31) : fX5_allOf F L (nI k) = some (nI (2 ^ k - 1), L) := by
  unfold fX5_allOf
  rw [sh1 h, show (1 : Int32) = nI 1 from rfl, pk_sub (Nat.one_le_two_pow)]

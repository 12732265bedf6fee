/-! the shape of the heap, and what stands in it: arrays I q j, int fields J q k, longs T q, rows of references R q j -/
abbrev ST : Type := (Nat → Nat → Int32) × (Nat → Nat → Int32) × (Nat → Int64) × (Nat → Nat → Option Nat)
def kdt : List (Nat × Nat) := [(18, 0), (15, 0), (0, 120), (16, 0), (0, 9), (0, 9), (0, 9), (0, 6), (0, 6), (16, 0), (0, 9), (0, 9), (0, 9), (0, 6), (0, 6), (13, 0), (12, 0), (0, 9), (0, 9), (0, 9), (0, 6), (3, 10), (12, 0), (0, 9), (0, 9), (0, 9), (0, 6), (12, 0), (0, 9), (0, 9), (0, 9), (0, 6), (12, 0), (0, 9), (0, 9), (0, 9), (0, 6), (12, 0), (0, 9), (0, 9), (0, 9), (0, 6), (12, 0), (0, 9), (0, 9), (0, 9), (0, 6), (12, 0), (0, 9), (0, 9), (0, 9), (0, 6), (12, 0), (0, 9), (0, 9), (0, 9), (0, 6), (12, 0), (0, 9), (0, 9), (0, 9), (0, 6), (12, 0), (0, 9), (0, 9), (0, 9), (0, 6), (12, 0), (0, 9), (0, 9), (0, 9), (0, 6), (4, 2), (13, 0), (12, 0), (0, 9), (0, 9), (0, 9), (0, 6), (3, 10), (12, 0), (0, 9), (0, 9), (0, 9), (0, 6), (12, 0), (0, 9), (0, 9), (0, 9), (0, 6), (12, 0), (0, 9), (0, 9), (0, 9), (0, 6), (12, 0), (0, 9), (0, 9), (0, 9), (0, 6), (12, 0), (0, 9), (0, 9), (0, 9), (0, 6), (12, 0), (0, 9), (0, 9), (0, 9), (0, 6), (12, 0), (0, 9), (0, 9), (0, 9), (0, 6), (12, 0), (0, 9), (0, 9), (0, 9), (0, 6), (12, 0), (0, 9), (0, 9), (0, 9), (0, 6), (12, 0), (0, 9), (0, 9), (0, 9), (0, 6), (13, 0), (12, 0), (0, 9), (0, 9), (0, 9), (0, 6), (3, 10), (12, 0), (0, 9), (0, 9), (0, 9), (0, 6), (12, 0), (0, 9), (0, 9), (0, 9), (0, 6), (12, 0), (0, 9), (0, 9), (0, 9), (0, 6), (12, 0), (0, 9), (0, 9), (0, 9), (0, 6), (12, 0), (0, 9), (0, 9), (0, 9), (0, 6), (12, 0), (0, 9), (0, 9), (0, 9), (0, 6), (12, 0), (0, 9), (0, 9), (0, 9), (0, 6), (12, 0), (0, 9), (0, 9), (0, 9), (0, 6), (12, 0), (0, 9), (0, 9), (0, 9), (0, 6), (12, 0), (0, 9), (0, 9), (0, 9), (0, 6), (17, 0), (14, 0), (0, 9), (0, 9), (0, 9), (0, 6), (0, 6), (0, 9), (0, 8), (10, 0), (0, 6), (14, 0), (0, 9), (0, 9), (0, 9), (0, 6), (0, 6), (0, 9), (11, 0), (0, 4), (0, 4), (0, 11), (19, 0), (1, 120), (0, 2), (0, 2), (0, 18), (0, 18), (0, 18), (0, 2), (0, 12), (0, 12), (0, 34), (0, 3), (0, 1020), (0, 68), (2, 2), (0, 3584), (0, 4), (0, 4)]
def kd (q : Nat) : Nat × Nat := kdt.getD q (99, 0)
def flds (S : ST) (q ci : Nat) : List Value := match ci with
  | 0 => [.ref (q + 1), .ref (q + 2)]
  | 1 => [.ref (q + 1), .ref (q + 2), .int (S.2.1 q 2), .ref (q + 3)]
  | 2 => [.ref (q + 1), .ref (q + 2), .ref (q + 3), .ref (q + 4), .int (S.2.1 q 4)]
  | 3 => [.ref (q + 1), .ref (q + 6), .int (S.2.1 q 2)]
  | 4 => [.int (S.2.1 q 0), .int (S.2.1 q 1), .int (S.2.1 q 2), .ref (q + 1), .ref (q + 2), .ref (q + 3), .ref (q + 4), .ref (q + 5), .ref (q + 6)]
  | 5 => [.ref (q + 1), .int (S.2.1 q 1), .int (S.2.1 q 2)]
  | 6 => [.int (S.2.1 q 0), .int (S.2.1 q 1), .int (S.2.1 q 2), .ref (q + 1), .ref (q + 2), .ref (q + 3), .ref (q + 4), .ref (q + 5)]
  | 7 => [.ref (q + 1), .ref (q + 8)]
  | 8 => [.ref 1, .ref 3, .ref 9, .ref 15, .ref 72, .int (S.2.1 q 5), .ref 187, .ref 196, .ref 205, .long (S.2.2.1 q)]
  | 9 => [.ref 210, .int (S.2.1 q 1), .ref 211, .ref 212, .ref 213, .ref 214, .ref 215, .ref 216, .ref 217, .ref 218, .int (S.2.1 q 10), .int (S.2.1 q 11), .int (S.2.1 q 12), .int (S.2.1 q 13), .int (S.2.1 q 14), .int (S.2.1 q 15), .ref 219, .ref 220, .ref 221, .ref 222, .ref 223, .ref 224, .ref 225, .ref 226, .int (S.2.1 q 24), .long (S.2.2.1 q)]
  | _ => []
def cellOf (S : ST) (q : Nat) : SC := if (kd q).1 < 3 then .inl ((kd q).1, (kd q).2, S.1 q) else if (kd q).1 < 5 then .inr (.inl ((kd q).1, (kd q).2, S.2.2.2 q)) else .inr (.inr ((kd q).1 - 10, flds S q ((kd q).1 - 10)))
def hp (S : ST) : HL := (List.range 227).map (cellOf S)
def stI (S : ST) (q : Nat) (f : Nat → Int32) : ST := (va_up S.1 q f, S.2)
def stJ (S : ST) (q k : Nat) (v : Int32) : ST := (S.1, va_up S.2.1 q (upd (S.2.1 q) k v), S.2.2)
def stT (S : ST) (q : Nat) (v : Int64) : ST := (S.1, S.2.1, va_up S.2.2.1 q v, S.2.2.2)
def stR (S : ST) (q : Nat) (f : Nat → Option Nat) : ST := (S.1, S.2.1, S.2.2.1, va_up S.2.2.2 q f)
theorem kd_lt {q c n : Nat} (h : kd q = (c, n)) (hc : c ≠ 99) : q < 227 := by
  rcases Nat.lt_or_ge q 227 with hq | hq
  · exact hq
  · have : kd q = (99, 0) := by
      unfold kd
      rw [List.getD_eq_getElem?_getD, List.getElem?_eq_none (show kdt.length ≤ q from hq)]
      rfl
    rw [this] at h
    cases h
    exact absurd rfl hc
theorem hp_get (S : ST) {q : Nat} (h : q < 227) : (hp S)[q]? = some (cellOf S q) := by
  unfold hp
  rw [List.getElem?_map, List.getElem?_range h]
  rfl
theorem hp_set (S S' : ST) {q : Nat} {x : SC} (h : q < 227) (hx : cellOf S' q = x) (ho : ∀ j, j ≠ q → cellOf S' j = cellOf S j) : (hp S).set q x = hp S' := by
  apply List.ext_getElem?
  intro j
  by_cases hj : j = q
  · subst hj
    rw [hp_get S' h, List.getElem?_set_self (by simp [hp, h]), hx]
  · rw [List.getElem?_set_ne (Ne.symm hj)]
    by_cases hl : j < 227
    · rw [hp_get S hl, hp_get S' hl, ho j hj]
    · rw [List.getElem?_eq_none (by simp [hp]; omega), List.getElem?_eq_none (by simp [hp]; omega)]
theorem cell_A {S : ST} {q t n : Nat} (h : kd q = (t, n)) (ht : t < 3) : cellOf S q = .inl (t, n, S.1 q) := by
  unfold cellOf
  rw [h, if_pos ht]
theorem cell_R {S : ST} {q t n : Nat} (h : kd q = (t, n)) (ht : t = 3 ∨ t = 4) : cellOf S q = .inr (.inl (t, n, S.2.2.2 q)) := by
  unfold cellOf
  rw [h, if_neg (by show ¬ t < 3; omega), if_pos (by show t < 5; omega)]
theorem cell_O {S : ST} {q ci n : Nat} (h : kd q = (10 + ci, n)) : cellOf S q = .inr (.inr (ci, flds S q ci)) := by
  unfold cellOf
  rw [h, if_neg (by show ¬ 10 + ci < 3; omega), if_neg (by show ¬ 10 + ci < 5; omega), Nat.add_sub_cancel_left]
theorem rd_g {S : ST} {q ci n k : Nat} (h : kd q = (10 + ci, n)) (h9 : ci ≤ 9) : o_g (hp S) q ci k = (flds S q ci)[k]? := by
  unfold o_g
  rw [hp_get S (kd_lt h (by omega)), cell_O h]
  simp
theorem rd_ob {S : ST} {q ci n : Nat} (h : kd q = (10 + ci, n)) (h9 : ci ≤ 9) : o_ob (hp S) q ci = some () := by
  unfold o_ob
  rw [hp_get S (kd_lt h (by omega)), cell_O h]
  simp
theorem rd_I {S : ST} {q ci n k : Nat} {v : Int32} (h : kd q = (10 + ci, n)) (h9 : ci ≤ 9) (hv : (flds S q ci)[k]? = some (.int v)) : o_gI (hp S) q ci k = some v := by
  unfold o_gI
  rw [rd_g h h9, hv]
theorem rd_J {S : ST} {q ci n k : Nat} {v : Int64} (h : kd q = (10 + ci, n)) (h9 : ci ≤ 9) (hv : (flds S q ci)[k]? = some (.long v)) : o_gJ (hp S) q ci k = some v := by
  unfold o_gJ
  rw [rd_g h h9, hv]
theorem rd_R {S : ST} {q ci n k v : Nat} (h : kd q = (10 + ci, n)) (h9 : ci ≤ 9) (hv : (flds S q ci)[k]? = some (.ref v)) : o_gR (hp S) q ci k = some v := by
  unfold o_gR
  rw [rd_g h h9, hv]
theorem rd_a {S : ST} {q t n j : Nat} (h : kd q = (t, n)) (ht : t < 3) (hj : j < n) (hn : n < 2 ^ 31) : o_aI (hp S) q t (nI j) = some (S.1 q j) := by
  unfold o_aI
  rw [hp_get S (kd_lt h (by omega)), cell_A h ht]
  dsimp only
  rw [if_pos ⟨rfl, vp_in_nI hj hn⟩, nI_clamp (by omega)]
theorem rd_len {S : ST} {q t n : Nat} (h : kd q = (t, n)) (ht : t < 3) : o_len (hp S) q t = some (nI n) := by
  unfold o_len
  rw [hp_get S (kd_lt h (by omega)), cell_A h ht]
  dsimp only
  rw [if_pos rfl]
  rfl
theorem rd_aR {S : ST} {q t n j v : Nat} (h : kd q = (t, n)) (ht : t = 3 ∨ t = 4) (hj : j < n) (hn : n < 2 ^ 31) (hv : S.2.2.2 q j = some v) : o_aR (hp S) q t (nI j) = some v := by
  unfold o_aR
  rw [hp_get S (kd_lt h (by omega)), cell_R h ht]
  dsimp only
  rw [if_pos ⟨rfl, vp_in_nI hj hn⟩, nI_clamp (by omega), hv]
theorem cell_ne {S S' : ST} {j : Nat} (h1 : S'.1 j = S.1 j) (h2 : S'.2.1 j = S.2.1 j) (h3 : S'.2.2.1 j = S.2.2.1 j) (h4 : S'.2.2.2 j = S.2.2.2 j) : cellOf S' j = cellOf S j := by
  have hf : ∀ ci, flds S' j ci = flds S j ci := by
    intro ci
    unfold flds
    rw [h2, h3]
  unfold cellOf
  rw [h1, h4, hf]
theorem wr_a {S : ST} {q t n j : Nat} {x : Int32} (h : kd q = (t, n)) (ht : t < 3) (hj : j < n) (hn : n < 2 ^ 31) : o_sI (hp S) q t (nI j) x = some (hp (stI S q (upd (S.1 q) j x))) := by
  have hq := kd_lt h (by omega)
  unfold o_sI
  rw [hp_get S hq, cell_A h ht]
  dsimp only
  rw [if_pos ⟨rfl, vp_in_nI hj hn⟩, nI_clamp (by omega)]
  congr 1
  refine hp_set _ _ hq ?_ (fun i hi => cell_ne (va_up_ne _ _ hi) rfl rfl rfl)
  rw [cell_A h ht]
  show Sum.inl (t, n, va_up S.1 q _ q) = _
  rw [va_up_self]
theorem wr_R {S : ST} {q t n j v ci m : Nat} (h : kd q = (t, n)) (ht : t = 3 ∨ t = 4) (hj : j < n) (hn : n < 2 ^ 31) (hv : kd v = (10 + ci, m)) (h9 : ci ≤ 9) : o_sR (hp S) q t ci (nI j) v = some (hp (stR S q (va_up (S.2.2.2 q) j (some v)))) := by
  have hq := kd_lt h (by omega)
  unfold o_sR
  rw [hp_get S hq, cell_R h ht, hp_get S (kd_lt hv (by omega)), cell_O hv]
  dsimp only
  rw [if_pos ⟨⟨rfl, rfl⟩, vp_in_nI hj hn⟩, nI_clamp (by omega)]
  congr 1
  refine hp_set _ _ hq ?_ (fun i hi => cell_ne rfl rfl rfl (va_up_ne _ _ hi))
  rw [cell_R h ht]
  show Sum.inr (Sum.inl (t, n, va_up S.2.2.2 q _ q)) = _
  rw [va_up_self]
/-- which fields are ints, by class -/
def isI (ci k : Nat) : Bool := match ci with
  | 1 => k == 2
  | 2 => k == 4
  | 3 => k == 2
  | 4 => decide (k < 3)
  | 5 => k == 1 || k == 2
  | 6 => decide (k < 3)
  | 8 => k == 5
  | 9 => k == 1 || (decide (10 ≤ k) && decide (k < 16)) || k == 24
  | _ => false
theorem flds_st (S : ST) (q ci k : Nat) (v : Int32) (h : isI ci k = true) : k < (flds S q ci).length ∧ (flds S q ci).set k (.int v) = flds (stJ S q k v) q ci := by
  have hs : ∀ i, (stJ S q k v).2.1 q i = if i = k then v else S.2.1 q i := by
    intro i
    show va_up S.2.1 q (upd (S.2.1 q) k v) q i = _
    rw [va_up_self]
    rfl
  have ht : (stJ S q k v).2.2 = S.2.2 := rfl
  have hk : k < 26 := by
    unfold isI at h
    split at h <;> simp at h <;> omega
  have hc : ci < 10 := by
    unfold isI at h
    split at h <;> first | omega | simp at h
  unfold flds
  simp only [hs, ht]
  match ci, hc with
  | 0, _ => simp [isI] at h
  | 1, _ => have : k = 2 := by simpa [isI] using h
            subst this; exact ⟨by simp, by simp⟩
  | 2, _ => have : k = 4 := by simpa [isI] using h
            subst this; exact ⟨by simp, by simp⟩
  | 3, _ => have : k = 2 := by simpa [isI] using h
            subst this; exact ⟨by simp, by simp⟩
  | 4, _ => have : k < 3 := by simpa [isI] using h
            rcases (show k = 0 ∨ k = 1 ∨ k = 2 by omega) with rfl | rfl | rfl <;> exact ⟨by simp, by simp⟩
  | 5, _ => have : k = 1 ∨ k = 2 := by simpa [isI] using h
            rcases this with rfl | rfl <;> exact ⟨by simp, by simp⟩
  | 6, _ => have : k < 3 := by simpa [isI] using h
            rcases (show k = 0 ∨ k = 1 ∨ k = 2 by omega) with rfl | rfl | rfl <;> exact ⟨by simp, by simp⟩
  | 7, _ => simp [isI] at h
  | 8, _ => have : k = 5 := by simpa [isI] using h
            subst this; exact ⟨by simp, by simp⟩
  | 9, _ => have : (k = 1 ∨ (10 ≤ k ∧ k < 16)) ∨ k = 24 := by simpa [isI] using h
            rcases (show k = 1 ∨ k = 10 ∨ k = 11 ∨ k = 12 ∨ k = 13 ∨ k = 14 ∨ k = 15 ∨ k = 24 by omega) with rfl | rfl | rfl | rfl | rfl | rfl | rfl | rfl <;> exact ⟨by simp, by simp⟩
theorem wr_p {S : ST} {q ci n k : Nat} {v : Int32} (h : kd q = (10 + ci, n)) (h9 : ci ≤ 9) (hk : isI ci k = true) : o_p (hp S) q ci k (.int v) = some (hp (stJ S q k v)) := by
  have hq := kd_lt h (by omega)
  obtain ⟨h1, h2⟩ := flds_st S q ci k v hk
  unfold o_p
  rw [hp_get S hq, cell_O h]
  dsimp only
  rw [if_pos ⟨rfl, h1⟩]
  congr 1
  refine hp_set _ _ hq ?_ (fun i hi => cell_ne rfl (va_up_ne _ _ hi) rfl rfl)
  rw [cell_O h, h2]
theorem wr_t {S : ST} {q n : Nat} {v : Int64} {ci k : Nat} (h : kd q = (10 + ci, n)) (hk : (ci = 8 ∧ k = 9) ∨ (ci = 9 ∧ k = 25)) : o_p (hp S) q ci k (.long v) = some (hp (stT S q v)) := by
  have hq := kd_lt h (by omega)
  have hs : (stT S q v).2.2.1 q = v := va_up_self _ _ _
  unfold o_p
  rw [hp_get S hq, cell_O h]
  dsimp only
  rcases hk with ⟨rfl, rfl⟩ | ⟨rfl, rfl⟩
  · rw [if_pos ⟨rfl, (by simp [flds])⟩]
    congr 1
    refine hp_set _ _ hq ?_ (fun i hi => cell_ne rfl rfl (va_up_ne _ _ hi) rfl)
    rw [cell_O h]
    simp only [flds, hs]
    rfl
  · rw [if_pos ⟨rfl, (by simp [flds])⟩]
    congr 1
    refine hp_set _ _ hq ?_ (fun i hi => cell_ne rfl rfl (va_up_ne _ _ hi) rfl)
    rw [cell_O h]
    simp only [flds, hs]
    rfl
theorem wr_cp {S : ST} {q0 q1 n0 n1 n : Nat} (h0 : kd q0 = (0, n0)) (h1 : kd q1 = (0, n1)) (hn0 : n ≤ n0) (hn1 : n ≤ n1) (hn : n < 2 ^ 31) : o_cp (hp S) q0 0 q1 0 (nI n) = some (hp (stI S q1 (va_cpy (S.1 q0) (S.1 q1) 0 0 n))) := by
  have hq0 := kd_lt h0 (by omega)
  have hq1 := kd_lt h1 (by omega)
  have hz : ((0 : Int32)).toNatClampNeg = 0 := rfl
  unfold o_cp
  rw [hp_get S hq0, cell_A h0 (by omega), hp_get S hq1, cell_A h1 (by omega)]
  dsimp only
  rw [nI_clamp hn, hz, if_pos ⟨⟨rfl, rfl⟩, ⟨by decide, by decide, nI_pos hn⟩, by omega, by omega⟩]
  congr 1
  refine hp_set _ _ hq1 ?_ (fun i hi => cell_ne (va_up_ne _ _ hi) rfl rfl rfl)
  rw [cell_A h1 (by omega)]
  show Sum.inl (0, n1, va_up S.1 q1 _ q1) = _
  rw [va_up_self]
theorem kd_0 : kd 0 = (18, 0) := rfl
theorem kd_1 : kd 1 = (15, 0) := rfl
theorem kd_2 : kd 2 = (0, 120) := rfl
theorem kd_3 : kd 3 = (16, 0) := rfl
theorem kd_4 : kd 4 = (0, 9) := rfl
theorem kd_5 : kd 5 = (0, 9) := rfl
theorem kd_6 : kd 6 = (0, 9) := rfl
theorem kd_7 : kd 7 = (0, 6) := rfl
theorem kd_8 : kd 8 = (0, 6) := rfl
theorem kd_9 : kd 9 = (16, 0) := rfl
theorem kd_10 : kd 10 = (0, 9) := rfl
theorem kd_11 : kd 11 = (0, 9) := rfl
theorem kd_12 : kd 12 = (0, 9) := rfl
theorem kd_13 : kd 13 = (0, 6) := rfl
theorem kd_14 : kd 14 = (0, 6) := rfl
theorem kd_15 : kd 15 = (13, 0) := rfl
theorem kd_16 : kd 16 = (12, 0) := rfl
theorem kd_17 : kd 17 = (0, 9) := rfl
theorem kd_18 : kd 18 = (0, 9) := rfl
theorem kd_19 : kd 19 = (0, 9) := rfl
theorem kd_20 : kd 20 = (0, 6) := rfl
theorem kd_21 : kd 21 = (3, 10) := rfl
theorem kd_22 : kd 22 = (12, 0) := rfl
theorem kd_23 : kd 23 = (0, 9) := rfl
theorem kd_24 : kd 24 = (0, 9) := rfl
theorem kd_25 : kd 25 = (0, 9) := rfl
theorem kd_26 : kd 26 = (0, 6) := rfl
theorem kd_27 : kd 27 = (12, 0) := rfl
theorem kd_28 : kd 28 = (0, 9) := rfl
theorem kd_29 : kd 29 = (0, 9) := rfl
theorem kd_30 : kd 30 = (0, 9) := rfl
theorem kd_31 : kd 31 = (0, 6) := rfl
theorem kd_32 : kd 32 = (12, 0) := rfl
theorem kd_33 : kd 33 = (0, 9) := rfl
theorem kd_34 : kd 34 = (0, 9) := rfl
theorem kd_35 : kd 35 = (0, 9) := rfl
theorem kd_36 : kd 36 = (0, 6) := rfl
theorem kd_37 : kd 37 = (12, 0) := rfl
theorem kd_38 : kd 38 = (0, 9) := rfl
theorem kd_39 : kd 39 = (0, 9) := rfl
theorem kd_40 : kd 40 = (0, 9) := rfl
theorem kd_41 : kd 41 = (0, 6) := rfl
theorem kd_42 : kd 42 = (12, 0) := rfl
theorem kd_43 : kd 43 = (0, 9) := rfl
theorem kd_44 : kd 44 = (0, 9) := rfl
theorem kd_45 : kd 45 = (0, 9) := rfl
theorem kd_46 : kd 46 = (0, 6) := rfl
theorem kd_47 : kd 47 = (12, 0) := rfl
theorem kd_48 : kd 48 = (0, 9) := rfl
theorem kd_49 : kd 49 = (0, 9) := rfl
theorem kd_50 : kd 50 = (0, 9) := rfl
theorem kd_51 : kd 51 = (0, 6) := rfl
theorem kd_52 : kd 52 = (12, 0) := rfl
theorem kd_53 : kd 53 = (0, 9) := rfl
theorem kd_54 : kd 54 = (0, 9) := rfl
theorem kd_55 : kd 55 = (0, 9) := rfl
theorem kd_56 : kd 56 = (0, 6) := rfl
theorem kd_57 : kd 57 = (12, 0) := rfl
theorem kd_58 : kd 58 = (0, 9) := rfl
theorem kd_59 : kd 59 = (0, 9) := rfl
theorem kd_60 : kd 60 = (0, 9) := rfl
theorem kd_61 : kd 61 = (0, 6) := rfl
theorem kd_62 : kd 62 = (12, 0) := rfl
theorem kd_63 : kd 63 = (0, 9) := rfl
theorem kd_64 : kd 64 = (0, 9) := rfl
theorem kd_65 : kd 65 = (0, 9) := rfl
theorem kd_66 : kd 66 = (0, 6) := rfl
theorem kd_67 : kd 67 = (12, 0) := rfl
theorem kd_68 : kd 68 = (0, 9) := rfl
theorem kd_69 : kd 69 = (0, 9) := rfl
theorem kd_70 : kd 70 = (0, 9) := rfl
theorem kd_71 : kd 71 = (0, 6) := rfl
theorem kd_72 : kd 72 = (4, 2) := rfl
theorem kd_73 : kd 73 = (13, 0) := rfl
theorem kd_74 : kd 74 = (12, 0) := rfl
theorem kd_75 : kd 75 = (0, 9) := rfl
theorem kd_76 : kd 76 = (0, 9) := rfl
theorem kd_77 : kd 77 = (0, 9) := rfl
theorem kd_78 : kd 78 = (0, 6) := rfl
theorem kd_79 : kd 79 = (3, 10) := rfl
theorem kd_80 : kd 80 = (12, 0) := rfl
theorem kd_81 : kd 81 = (0, 9) := rfl
theorem kd_82 : kd 82 = (0, 9) := rfl
theorem kd_83 : kd 83 = (0, 9) := rfl
theorem kd_84 : kd 84 = (0, 6) := rfl
theorem kd_85 : kd 85 = (12, 0) := rfl
theorem kd_86 : kd 86 = (0, 9) := rfl
theorem kd_87 : kd 87 = (0, 9) := rfl
theorem kd_88 : kd 88 = (0, 9) := rfl
theorem kd_89 : kd 89 = (0, 6) := rfl
theorem kd_90 : kd 90 = (12, 0) := rfl
theorem kd_91 : kd 91 = (0, 9) := rfl
theorem kd_92 : kd 92 = (0, 9) := rfl
theorem kd_93 : kd 93 = (0, 9) := rfl
theorem kd_94 : kd 94 = (0, 6) := rfl
theorem kd_95 : kd 95 = (12, 0) := rfl
theorem kd_96 : kd 96 = (0, 9) := rfl
theorem kd_97 : kd 97 = (0, 9) := rfl
theorem kd_98 : kd 98 = (0, 9) := rfl
theorem kd_99 : kd 99 = (0, 6) := rfl
theorem kd_100 : kd 100 = (12, 0) := rfl
theorem kd_101 : kd 101 = (0, 9) := rfl
theorem kd_102 : kd 102 = (0, 9) := rfl
theorem kd_103 : kd 103 = (0, 9) := rfl
theorem kd_104 : kd 104 = (0, 6) := rfl
theorem kd_105 : kd 105 = (12, 0) := rfl
theorem kd_106 : kd 106 = (0, 9) := rfl
theorem kd_107 : kd 107 = (0, 9) := rfl
theorem kd_108 : kd 108 = (0, 9) := rfl
theorem kd_109 : kd 109 = (0, 6) := rfl
theorem kd_110 : kd 110 = (12, 0) := rfl
theorem kd_111 : kd 111 = (0, 9) := rfl
theorem kd_112 : kd 112 = (0, 9) := rfl
theorem kd_113 : kd 113 = (0, 9) := rfl
theorem kd_114 : kd 114 = (0, 6) := rfl
theorem kd_115 : kd 115 = (12, 0) := rfl
theorem kd_116 : kd 116 = (0, 9) := rfl
theorem kd_117 : kd 117 = (0, 9) := rfl
theorem kd_118 : kd 118 = (0, 9) := rfl
theorem kd_119 : kd 119 = (0, 6) := rfl
theorem kd_120 : kd 120 = (12, 0) := rfl
theorem kd_121 : kd 121 = (0, 9) := rfl
theorem kd_122 : kd 122 = (0, 9) := rfl
theorem kd_123 : kd 123 = (0, 9) := rfl
theorem kd_124 : kd 124 = (0, 6) := rfl
theorem kd_125 : kd 125 = (12, 0) := rfl
theorem kd_126 : kd 126 = (0, 9) := rfl
theorem kd_127 : kd 127 = (0, 9) := rfl
theorem kd_128 : kd 128 = (0, 9) := rfl
theorem kd_129 : kd 129 = (0, 6) := rfl
theorem kd_130 : kd 130 = (13, 0) := rfl
theorem kd_131 : kd 131 = (12, 0) := rfl
theorem kd_132 : kd 132 = (0, 9) := rfl
theorem kd_133 : kd 133 = (0, 9) := rfl
theorem kd_134 : kd 134 = (0, 9) := rfl
theorem kd_135 : kd 135 = (0, 6) := rfl
theorem kd_136 : kd 136 = (3, 10) := rfl
theorem kd_137 : kd 137 = (12, 0) := rfl
theorem kd_138 : kd 138 = (0, 9) := rfl
theorem kd_139 : kd 139 = (0, 9) := rfl
theorem kd_140 : kd 140 = (0, 9) := rfl
theorem kd_141 : kd 141 = (0, 6) := rfl
theorem kd_142 : kd 142 = (12, 0) := rfl
theorem kd_143 : kd 143 = (0, 9) := rfl
theorem kd_144 : kd 144 = (0, 9) := rfl
theorem kd_145 : kd 145 = (0, 9) := rfl
theorem kd_146 : kd 146 = (0, 6) := rfl
theorem kd_147 : kd 147 = (12, 0) := rfl
theorem kd_148 : kd 148 = (0, 9) := rfl
theorem kd_149 : kd 149 = (0, 9) := rfl
theorem kd_150 : kd 150 = (0, 9) := rfl
theorem kd_151 : kd 151 = (0, 6) := rfl
theorem kd_152 : kd 152 = (12, 0) := rfl
theorem kd_153 : kd 153 = (0, 9) := rfl
theorem kd_154 : kd 154 = (0, 9) := rfl
theorem kd_155 : kd 155 = (0, 9) := rfl
theorem kd_156 : kd 156 = (0, 6) := rfl
theorem kd_157 : kd 157 = (12, 0) := rfl
theorem kd_158 : kd 158 = (0, 9) := rfl
theorem kd_159 : kd 159 = (0, 9) := rfl
theorem kd_160 : kd 160 = (0, 9) := rfl
theorem kd_161 : kd 161 = (0, 6) := rfl
theorem kd_162 : kd 162 = (12, 0) := rfl
theorem kd_163 : kd 163 = (0, 9) := rfl
theorem kd_164 : kd 164 = (0, 9) := rfl
theorem kd_165 : kd 165 = (0, 9) := rfl
theorem kd_166 : kd 166 = (0, 6) := rfl
theorem kd_167 : kd 167 = (12, 0) := rfl
theorem kd_168 : kd 168 = (0, 9) := rfl
theorem kd_169 : kd 169 = (0, 9) := rfl
theorem kd_170 : kd 170 = (0, 9) := rfl
theorem kd_171 : kd 171 = (0, 6) := rfl
theorem kd_172 : kd 172 = (12, 0) := rfl
theorem kd_173 : kd 173 = (0, 9) := rfl
theorem kd_174 : kd 174 = (0, 9) := rfl
theorem kd_175 : kd 175 = (0, 9) := rfl
theorem kd_176 : kd 176 = (0, 6) := rfl
theorem kd_177 : kd 177 = (12, 0) := rfl
theorem kd_178 : kd 178 = (0, 9) := rfl
theorem kd_179 : kd 179 = (0, 9) := rfl
theorem kd_180 : kd 180 = (0, 9) := rfl
theorem kd_181 : kd 181 = (0, 6) := rfl
theorem kd_182 : kd 182 = (12, 0) := rfl
theorem kd_183 : kd 183 = (0, 9) := rfl
theorem kd_184 : kd 184 = (0, 9) := rfl
theorem kd_185 : kd 185 = (0, 9) := rfl
theorem kd_186 : kd 186 = (0, 6) := rfl
theorem kd_187 : kd 187 = (17, 0) := rfl
theorem kd_188 : kd 188 = (14, 0) := rfl
theorem kd_189 : kd 189 = (0, 9) := rfl
theorem kd_190 : kd 190 = (0, 9) := rfl
theorem kd_191 : kd 191 = (0, 9) := rfl
theorem kd_192 : kd 192 = (0, 6) := rfl
theorem kd_193 : kd 193 = (0, 6) := rfl
theorem kd_194 : kd 194 = (0, 9) := rfl
theorem kd_195 : kd 195 = (0, 8) := rfl
theorem kd_196 : kd 196 = (10, 0) := rfl
theorem kd_197 : kd 197 = (0, 6) := rfl
theorem kd_198 : kd 198 = (14, 0) := rfl
theorem kd_199 : kd 199 = (0, 9) := rfl
theorem kd_200 : kd 200 = (0, 9) := rfl
theorem kd_201 : kd 201 = (0, 9) := rfl
theorem kd_202 : kd 202 = (0, 6) := rfl
theorem kd_203 : kd 203 = (0, 6) := rfl
theorem kd_204 : kd 204 = (0, 9) := rfl
theorem kd_205 : kd 205 = (11, 0) := rfl
theorem kd_206 : kd 206 = (0, 4) := rfl
theorem kd_207 : kd 207 = (0, 4) := rfl
theorem kd_208 : kd 208 = (0, 11) := rfl
theorem kd_209 : kd 209 = (19, 0) := rfl
theorem kd_210 : kd 210 = (1, 120) := rfl
theorem kd_211 : kd 211 = (0, 2) := rfl
theorem kd_212 : kd 212 = (0, 2) := rfl
theorem kd_213 : kd 213 = (0, 18) := rfl
theorem kd_214 : kd 214 = (0, 18) := rfl
theorem kd_215 : kd 215 = (0, 18) := rfl
theorem kd_216 : kd 216 = (0, 2) := rfl
theorem kd_217 : kd 217 = (0, 12) := rfl
theorem kd_218 : kd 218 = (0, 12) := rfl
theorem kd_219 : kd 219 = (0, 34) := rfl
theorem kd_220 : kd 220 = (0, 3) := rfl
theorem kd_221 : kd 221 = (0, 1020) := rfl
theorem kd_222 : kd 222 = (0, 68) := rfl
theorem kd_223 : kd 223 = (2, 2) := rfl
theorem kd_224 : kd 224 = (0, 3584) := rfl
theorem kd_225 : kd 225 = (0, 4) := rfl
theorem kd_226 : kd 226 = (0, 4) := rfl

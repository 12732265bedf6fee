/-! the small methods -/
theorem stI_s (S : ST) (q : Nat) (f : Nat → Int32) : (stI S q f).1 q = f := va_up_self _ _ _
theorem stI_n (S : ST) {q a : Nat} (f : Nat → Int32) (h : a ≠ q) : (stI S q f).1 a = S.1 a := va_up_ne _ _ h
theorem stI_2 (S : ST) (q : Nat) (f : Nat → Int32) : (stI S q f).2 = S.2 := rfl
theorem stJ_1 (S : ST) (q k : Nat) (v : Int32) : (stJ S q k v).1 = S.1 := rfl
theorem stJ_22 (S : ST) (q k : Nat) (v : Int32) : (stJ S q k v).2.2 = S.2.2 := rfl
theorem stJ_s (S : ST) (q k : Nat) (v : Int32) : (stJ S q k v).2.1 q k = v := by
  show va_up S.2.1 q (upd (S.2.1 q) k v) q k = v
  rw [va_up_self]
  exact pk_us
theorem stJ_k (S : ST) {q k i : Nat} (v : Int32) (h : i ≠ k) : (stJ S q k v).2.1 q i = S.2.1 q i := by
  show va_up S.2.1 q (upd (S.2.1 q) k v) q i = _
  rw [va_up_self]
  exact pk_un h
theorem stJ_n (S : ST) {q k a : Nat} (v : Int32) (h : a ≠ q) : (stJ S q k v).2.1 a = S.2.1 a := va_up_ne _ _ h
theorem stT_1 (S : ST) (q : Nat) (v : Int64) : (stT S q v).1 = S.1 := rfl
theorem stT_J (S : ST) (q : Nat) (v : Int64) : (stT S q v).2.1 = S.2.1 := rfl
theorem stT_R (S : ST) (q : Nat) (v : Int64) : (stT S q v).2.2.2 = S.2.2.2 := rfl
theorem stT_s (S : ST) (q : Nat) (v : Int64) : (stT S q v).2.2.1 q = v := va_up_self _ _ _
theorem stT_n (S : ST) {q a : Nat} (v : Int64) (h : a ≠ q) : (stT S q v).2.2.1 a = S.2.2.1 a := va_up_ne _ _ h
theorem stR_1 (S : ST) (q : Nat) (f : Nat → Option Nat) : (stR S q f).1 = S.1 := rfl
theorem stR_J (S : ST) (q : Nat) (f : Nat → Option Nat) : (stR S q f).2.1 = S.2.1 := rfl
theorem stR_T (S : ST) (q : Nat) (f : Nat → Option Nat) : (stR S q f).2.2.1 = S.2.2.1 := rfl
theorem stR_s (S : ST) (q : Nat) (f : Nat → Option Nat) : (stR S q f).2.2.2 q = f := va_up_self _ _ _
theorem stR_n (S : ST) {q a : Nat} (f : Nat → Option Nat) (h : a ≠ q) : (stR S q f).2.2.2 a = S.2.2.2 a := va_up_ne _ _ h
def IsM (q : Nat) : Prop := kd q = (12, 0) ∧ kd (q + 1) = (0, 9) ∧ kd (q + 2) = (0, 9) ∧ kd (q + 3) = (0, 9) ∧ kd (q + 4) = (0, 6)
def wI (a b c : Int32) : Int32 := if c = 1 then 1 + a else 1 + (if a < b then b else a)
theorem widthBy_eq (F : Nat) (L : HL) (a b c : Int32) : fX2_widthBy F L a b c = some (wI a b c, L) := by
  unfold fX2_widthBy wI
  split <;> rfl
theorem widthOf_eq (F : Nat) {S : ST} {q s : Nat} (hq : IsM q) (hs : s < 9) : fX2_widthOf F (hp S) q (nI s) = some (wI (S.1 (q + 1) s) (S.1 (q + 3) s) (S.2.1 q 4), hp S) := by
  obtain ⟨h0, h1, h2, h3, h4⟩ := hq
  unfold fX2_widthOf
  simp only [Option.bind_some, Nat.reduceAdd, ob2, g2_0, g2_1, g2_2, g2_3, g2_4, h0]
  rw [ra (by rw [h1]) (by decide) (by rw [h1]; exact hs), ra (by rw [h3]) (by decide) (by rw [h3]; exact hs)]
  simp only [Option.bind_some, Nat.reduceAdd, widthBy_eq]
theorem fill_loop (F : Nat) (q n : Nat) (hq : kd q = (0, n)) (v : Int32) : ∀ (m k i : Nat) (S : ST), n - i < k → i ≤ n → m = n - i → fJ7_fill_53178_b5 F k q v (nI i) (nI n) (hp S) = some (hp (stI S q (fun j => if i ≤ j ∧ j < n then v else S.1 q j))) := by
  have hn : n ≤ 3584 := by have := kd_small q; rw [hq] at this; exact this
  intro m
  induction m with
  | zero =>
    intro k i S hk hi hm
    cases k with
    | zero => omega
    | succ k =>
      have : i = n := by omega
      subst this
      show fJ7_fill_53178_b5c F _ q v (nI i) (nI i) (hp S) = _
      unfold fJ7_fill_53178_b5c
      rw [if_pos (nI_le (Nat.le_refl _) (by omega))]
      congr 2
      show S = (va_up S.1 q _, S.2)
      have : va_up S.1 q (fun j => if i ≤ j ∧ j < i then v else S.1 q j) = S.1 := by
        funext a
        by_cases ha : a = q
        · subst ha
          rw [va_up_self]
          funext j
          rw [if_neg (by omega)]
        · rw [va_up_ne _ _ ha]
      rw [this]
  | succ m ih =>
    intro k i S hk hi hm
    cases k with
    | zero => omega
    | succ k =>
      show fJ7_fill_53178_b5c F _ q v (nI i) (nI n) (hp S) = _
      unfold fJ7_fill_53178_b5c
      rw [if_neg (nI_ge (by omega) (by omega)), wa (S := S) (q := q) (t := 0) (j := i) (by rw [hq]) (by decide) (by rw [hq]; show i < n; omega), Option.bind_some, nI_1, ih k (i + 1) _ (by omega) (by omega) (by omega)]
      congr 2
      show (va_up (va_up S.1 q _) q _, S.2) = (va_up S.1 q _, S.2)
      congr 1
      funext a
      by_cases ha : a = q
      · subst ha
        rw [va_up_self, va_up_self]
        funext j
        by_cases hj : i + 1 ≤ j ∧ j < n
        · rw [if_pos hj, if_pos (by omega)]
        · rw [if_neg hj]
          show va_up S.1 a (upd (S.1 a) i v) a j = _
          rw [va_up_self]
          by_cases hji : j = i
          · subst hji
            rw [if_pos (by omega)]
            exact pk_us
          · rw [if_neg (by omega)]
            exact pk_un hji
      · rw [va_up_ne _ _ ha, va_up_ne _ _ ha, va_up_ne _ _ ha]
theorem fill_eq (F : Nat) (hF : 4000 ≤ F) {q n : Nat} (hq : kd q = (0, n)) (v : Int32) (S : ST) : fJ7_fill_53178 F (hp S) q v = some (hp (stI S q (fun j => if j < n then v else S.1 q j))) := by
  have hn : n ≤ 3584 := by have := kd_small q; rw [hq] at this; exact this
  unfold fJ7_fill_53178
  rw [rd_len hq (by decide), Option.bind_some, show (0 : Int32) = nI 0 from rfl, fill_loop F q n hq v _ F 0 S (by omega) (by omega) rfl]
  simp

/-! the reference's tokens -/
def jS (S : ST) (f : Nat → Int32) : ST := (S.1, va_up S.2.1 209 f, S.2.2)
theorem jS_self (S : ST) : jS S (S.2.1 209) = S := by
  have : va_up S.2.1 209 (S.2.1 209) = S.2.1 := by
    funext b
    rw [va_up_at]
    by_cases hb : b = 209
    · rw [if_pos hb, hb]
    · rw [if_neg hb]
  unfold jS
  rw [this]
theorem jS_f (S : ST) (f : Nat → Int32) : (jS S f).2.1 209 = f := by
  show va_up S.2.1 209 f 209 = f
  exact va_up_self _ _ _
theorem jS_1 (S : ST) (f : Nat → Int32) : (jS S f).1 = S.1 := rfl
theorem jS_st (S : ST) (f : Nat → Int32) (k : Nat) (v : Int32) : stJ (jS S f) 209 k v = jS S (upd f k v) := by
  unfold stJ jS
  simp only [bx_uu, va_up_self]
theorem jS_stI (S : ST) (f : Nat → Int32) (q : Nat) (g : Nat → Int32) : stI (jS S f) q g = jS (stI S q g) f := rfl
theorem upd_s (f : Nat → Int32) (k : Nat) (v : Int32) : upd f k v k = v := pk_us
theorem upd_n (f : Nat → Int32) {k j : Nat} (v : Int32) (h : j ≠ k) : upd f k v j = f j := pk_un h
def hb (T : Nat) (tx : Nat → Nat) (t : Nat) : Int32 := if t < T then nI (tx t) else -9
theorem byte_and : ∀ b, b < 256 → ((nI b).toInt8.toInt32 &&& 255) = nI b := by decide +kernel
theorem here_eq (F : Nat) {S : ST} {f : Nat → Int32} {T : Nat} {tx : Nat → Nat} (hT : T ≤ 120) (hx : ∀ j, j < T → tx j < 256) (h1 : f 1 = nI T) (hb' : ∀ j, j < T → S.1 210 j = (nI (tx j)).toInt8.toInt32) {t : Nat} (ht : t < 2 ^ 20) (h10 : f 10 = nI t) : fX10_here F (hp (jS S f)) 209 = some (hb T tx t, hp (jS S f)) := by
  unfold fX10_here hb
  simp only [Option.bind_some, Nat.reduceAdd, ob9 kd_209, g9_0 kd_209, g9_1 kd_209, g9_2 kd_209, g9_3 kd_209, g9_4 kd_209, g9_5 kd_209, g9_6 kd_209, g9_7 kd_209, g9_8 kd_209, g9_9 kd_209, g9_10 kd_209, g9_11 kd_209, g9_12 kd_209, g9_13 kd_209, g9_14 kd_209, g9_15 kd_209, g9_16 kd_209, g9_17 kd_209, g9_18 kd_209, g9_19 kd_209, g9_20 kd_209, g9_21 kd_209, g9_22 kd_209, g9_23 kd_209, g9_24 kd_209, g9_25 kd_209, p9_1 kd_209, p9_10 kd_209, p9_11 kd_209, p9_12 kd_209, p9_13 kd_209, p9_14 kd_209, p9_15 kd_209, p9_24 kd_209, p9_25 kd_209, jS_f, h1, h10]
  by_cases h : t < T
  · rw [if_neg (nI_ge h (by omega)), if_pos h, ra (by rfl) (by decide) (by rw [kd_210]; show t < 120; omega), jS_1, hb' t h]
    simp only [Option.bind_some, Nat.reduceAdd, byte_and _ (hx t h)]
  · rw [if_pos (nI_le (by omega) (by omega)), if_neg h]
theorem hbe {T : Nat} {tx : Nat → Nat} (hx : ∀ j, j < T → tx j < 256) {t : Nat} (x : Int32) (m : Nat) (e : x = nI m) (hm : m < 256) : (hb T tx t = x) ↔ (t < T ∧ tx t = m) := by
  unfold hb
  by_cases h : t < T
  · rw [if_pos h, e]
    have := hx t h
    rw [nI_eq (by omega) (by omega)]
    exact ⟨fun e => ⟨h, e⟩, fun e => e.2⟩
  · rw [if_neg h, e]
    exact ⟨fun e => absurd e.symm (nI_m9 (by omega)), fun e => absurd e.1 h⟩
theorem inDig (F : Nat) (L : HL) {T : Nat} {tx : Nat → Nat} (hx : ∀ j, j < T → tx j < 256) (t : Nat) : fX10_in F L (hb T tx t) 48 57 = some (if (decide (t < T) && dgb (tx t)) then 1 else 0, L) := by
  rw [in_eq]
  unfold hb dgb
  by_cases h : t < T
  · have := hx t h
    rw [if_pos h]
    by_cases h3 : 48 ≤ tx t ∧ tx t ≤ 57
    · rw [if_pos ⟨nI_le (a := 48) h3.1 (by omega), nI_le (b := 57) h3.2 (by decide)⟩, if_pos (by simp [h, h3])]
    · rw [if_neg (fun e => h3 ⟨(nI_leI (a := 48) (by omega) (by omega)).mp e.1, (nI_leI (b := 57) (by omega) (by omega)).mp e.2⟩), if_neg (by simp [h3])]
  · rw [if_neg h, if_neg (by decide), if_neg (by simp [h])]
theorem inLet (F : Nat) (L : HL) {T : Nat} {tx : Nat → Nat} (hx : ∀ j, j < T → tx j < 256) (t : Nat) : fX10_in F L (hb T tx t) 97 122 = some (if (decide (t < T) && ltb (tx t)) then 1 else 0, L) := by
  rw [in_eq]
  unfold hb ltb
  by_cases h : t < T
  · have := hx t h
    rw [if_pos h]
    by_cases h3 : 97 ≤ tx t ∧ tx t ≤ 122
    · rw [if_pos ⟨nI_le (a := 97) h3.1 (by omega), nI_le (b := 122) h3.2 (by decide)⟩, if_pos (by simp [h, h3])]
    · rw [if_neg (fun e => h3 ⟨(nI_leI (a := 97) (by omega) (by omega)).mp e.1, (nI_leI (b := 122) (by omega) (by omega)).mp e.2⟩), if_neg (by simp [h3])]
  · rw [if_neg h, if_neg (by decide), if_neg (by simp [h])]
def vl (tx : Nat → Nat) (u : Nat) : Nat → Nat
  | 0 => 0
  | i + 1 => if vl tx u i ≤ 99 then 10 * vl tx u i + (tx (u + i) - 48) else vl tx u i
theorem vl_le {tx : Nat → Nat} {u : Nat} (i : Nat) (h : ∀ j, j < i → tx (u + j) < 256) : vl tx u i ≤ 1300 := by
  induction i with
  | zero => exact Nat.zero_le _
  | succ i ih =>
    have h1 := ih (fun j hj => h j (by omega))
    have h2 := h i (by omega)
    simp only [vl]
    split <;> omega
def so (T : Nat) (tx : Nat → Nat) (u : Nat) : Nat := if u < T then (if dgb (tx u) then (if 99 < vl tx u (dg T tx u) then 5 else if tx u = 48 then (if dg T tx u ≤ 1 then 2 else 5) else 2) else if ltb (tx u) then 1 else if tx u = 59 then 3 else 5) else 4
def vv (T : Nat) (tx : Nat → Nat) (u : Nat) : Nat := if u < T then (if dgb (tx u) then vl tx u (dg T tx u) else if ltb (tx u) then (if lt T tx u = 1 then tx u else 0) else 0) else 0
def nx (T : Nat) (tx : Nat → Nat) (u : Nat) : Nat := if u < T then (if dgb (tx u) then u + dg T tx u else if ltb (tx u) then u + lt T tx u else u + 1) else u
def tk (T : Nat) (tx : Nat → Nat) (f : Nat → Int32) (u : Nat) : Nat → Int32 := fun k => if k = 10 then nI (nx T tx u) else if k = 11 then nI u else if k = 12 then nI (so T tx u) else if k = 13 then nI (vv T tx u) else f k
theorem tk_eq {T : Nat} {tx : Nat → Nat} {f g : Nat → Int32} {u : Nat} (h0 : g 10 = nI (nx T tx u)) (h1 : g 11 = nI u) (h2 : g 12 = nI (so T tx u)) (h3 : g 13 = nI (vv T tx u)) (h : ∀ k, k ≠ 10 → k ≠ 11 → k ≠ 12 → k ≠ 13 → g k = f k) : g = tk T tx f u := by
  funext k
  unfold tk
  by_cases a : k = 10
  · rw [if_pos a, a, h0]
  · rw [if_neg a]
    by_cases b : k = 11
    · rw [if_pos b, b, h1]
    · rw [if_neg b]
      by_cases c : k = 12
      · rw [if_pos c, c, h2]
      · rw [if_neg c]
        by_cases d : k = 13
        · rw [if_pos d, d, h3]
        · rw [if_neg d, h k a b c d]
theorem m_letters (F : Nat) (hF : 4000 ≤ F) {S : ST} {f : Nat → Int32} {T : Nat} {tx : Nat → Nat} (hT : T ≤ 120) (hx : ∀ j, j < T → tx j < 256) (h1 : f 1 = nI T) (hb' : ∀ j, j < T → S.1 210 j = (nI (tx j)).toInt8.toInt32) {u : Nat} (hu : u ≤ T) (h10 : f 10 = nI u) (h11 : f 11 = nI u) (c : Int32) : fX10_step_b178 F F 209 c (hp (jS S f)) = some (hp (jS S (upd (upd (upd f 10 (nI (u + lt T tx u))) 13 (if lt T tx u = 1 then c else 0)) 12 1))) := by
  have := loopF (fun k i => fX10_step_b178 F k 209 c (hp (jS S (upd f 10 (nI (u + i)))))) (T - u) (fun i => !ltb (tx (u + i))) (fun m => some (hp (jS S (upd (upd (upd f 10 (nI (u + m))) 13 (if m = 1 then c else 0)) 12 1)))) ?_ ?_ F (by omega)
  · refine Eq.trans ?_ this
    have e : upd f 10 (nI (u + 0)) = f := by
      funext k
      rw [upd_at]
      by_cases hk : k = 10
      · rw [if_pos hk, hk, h10]; rfl
      · rw [if_neg hk]
    rw [e]
  · intro k
    show fX10_step_b178c F _ 209 c (hp (jS S (upd f 10 (nI (u + (T - u)))))) = _
    have e1 : (upd f 10 (nI (u + (T - u)))) 1 = nI T := by rw [upd_n _ _ (by decide)]; exact h1
    have e10' : (upd f 10 (nI (u + (T - u)))) 10 = nI (u + (T - u)) := upd_s _ _ _
    have e11 : (upd f 10 (nI (u + (T - u)))) 11 = nI u := by rw [upd_n _ _ (by decide)]; exact h11
    have nl : ¬ u + (T - u) < T := by omega
    unfold fX10_step_b178c fX10_step_b224
    rw [here_eq F hT hx e1 hb' (show u + (T - u) < 2 ^ 20 by omega) e10', Option.bind_some, inLet F _ hx, Option.bind_some]
    simp only [nl, decide_false, Bool.false_and, Bool.false_eq_true, if_false, if_true, ob9 kd_209, g9_0 kd_209, g9_1 kd_209, g9_2 kd_209, g9_3 kd_209, g9_4 kd_209, g9_5 kd_209, g9_6 kd_209, g9_7 kd_209, g9_8 kd_209, g9_9 kd_209, g9_10 kd_209, g9_11 kd_209, g9_12 kd_209, g9_13 kd_209, g9_14 kd_209, g9_15 kd_209, g9_16 kd_209, g9_17 kd_209, g9_18 kd_209, g9_19 kd_209, g9_20 kd_209, g9_21 kd_209, g9_22 kd_209, g9_23 kd_209, g9_24 kd_209, g9_25 kd_209, p9_1 kd_209, p9_10 kd_209, p9_11 kd_209, p9_12 kd_209, p9_13 kd_209, p9_14 kd_209, p9_15 kd_209, p9_24 kd_209, p9_25 kd_209, jS_f, e10', e11, Option.bind_some, Nat.reduceAdd, jS_st]
    rw [pk_sub (by omega), show u + (T - u) - u = T - u by omega]
    by_cases hm : T - u = 1
    · rw [if_pos (by rw [hm]; rfl), if_pos hm]
    · rw [if_neg (show ¬ nI (T - u) = (1 : Int32) from fun e => hm ((nI_eq (b := 1) (by omega) (by decide)).mp e)), if_neg hm]
  · intro k i hi
    show fX10_step_b178c F _ 209 c (hp (jS S (upd f 10 (nI (u + i))))) = _
    have e1 : (upd f 10 (nI (u + i))) 1 = nI T := by rw [upd_n _ _ (by decide)]; exact h1
    have e10' : (upd f 10 (nI (u + i))) 10 = nI (u + i) := upd_s _ _ _
    have e11 : (upd f 10 (nI (u + i))) 11 = nI u := by rw [upd_n _ _ (by decide)]; exact h11
    have nl : u + i < T := by omega
    have uu : upd (upd f 10 (nI (u + i))) 10 (nI (u + i + 1)) = upd f 10 (nI (u + (i + 1))) := by
      funext k
      rw [upd_at, upd_at, upd_at]
      split <;> rfl
    unfold fX10_step_b178c fX10_step_b224
    rw [here_eq F hT hx e1 hb' (show u + i < 2 ^ 20 by omega) e10', Option.bind_some, inLet F _ hx, Option.bind_some]
    simp only [nl, decide_true, Bool.true_and]
    cases ltb (tx (u + i))
    · simp only [Bool.false_eq_true, if_false, if_true, Bool.not_false, ob9 kd_209, g9_0 kd_209, g9_1 kd_209, g9_2 kd_209, g9_3 kd_209, g9_4 kd_209, g9_5 kd_209, g9_6 kd_209, g9_7 kd_209, g9_8 kd_209, g9_9 kd_209, g9_10 kd_209, g9_11 kd_209, g9_12 kd_209, g9_13 kd_209, g9_14 kd_209, g9_15 kd_209, g9_16 kd_209, g9_17 kd_209, g9_18 kd_209, g9_19 kd_209, g9_20 kd_209, g9_21 kd_209, g9_22 kd_209, g9_23 kd_209, g9_24 kd_209, g9_25 kd_209, p9_1 kd_209, p9_10 kd_209, p9_11 kd_209, p9_12 kd_209, p9_13 kd_209, p9_14 kd_209, p9_15 kd_209, p9_24 kd_209, p9_25 kd_209, jS_f, e10', e11, Option.bind_some, Nat.reduceAdd, jS_st]
      rw [pk_sub (by omega), show u + i - u = i by omega]
      by_cases hm : i = 1
      · rw [if_pos (by rw [hm]; rfl), if_pos hm]
      · rw [if_neg (show ¬ nI i = (1 : Int32) from fun e => hm ((nI_eq (b := 1) (by omega) (by decide)).mp e)), if_neg hm]
    · simp only [if_true, e10, if_false, Bool.not_true, Bool.false_eq_true, ob9 kd_209, g9_0 kd_209, g9_1 kd_209, g9_2 kd_209, g9_3 kd_209, g9_4 kd_209, g9_5 kd_209, g9_6 kd_209, g9_7 kd_209, g9_8 kd_209, g9_9 kd_209, g9_10 kd_209, g9_11 kd_209, g9_12 kd_209, g9_13 kd_209, g9_14 kd_209, g9_15 kd_209, g9_16 kd_209, g9_17 kd_209, g9_18 kd_209, g9_19 kd_209, g9_20 kd_209, g9_21 kd_209, g9_22 kd_209, g9_23 kd_209, g9_24 kd_209, g9_25 kd_209, p9_1 kd_209, p9_10 kd_209, p9_11 kd_209, p9_12 kd_209, p9_13 kd_209, p9_14 kd_209, p9_15 kd_209, p9_24 kd_209, p9_25 kd_209, jS_f, e10', Option.bind_some, Nat.reduceAdd, jS_st, nI_1, uu]
theorem m_digits (F : Nat) (hF : 4000 ≤ F) {S : ST} {f : Nat → Int32} {T : Nat} {tx : Nat → Nat} (hT : T ≤ 120) (hx : ∀ j, j < T → tx j < 256) (h1 : f 1 = nI T) (hb' : ∀ j, j < T → S.1 210 j = (nI (tx j)).toInt8.toInt32) {u : Nat} (hu : u < T) (h10 : f 10 = nI u) (h11 : f 11 = nI u) (h13 : f 13 = 0) : fX10_step_b65 F F 209 (nI (tx u)) (hp (jS S f)) = some (hp (jS S (upd (upd (upd f 10 (nI (u + dg T tx u))) 13 (nI (vl tx u (dg T tx u)))) 12 (if 99 < vl tx u (dg T tx u) then 5 else if tx u = 48 then (if dg T tx u ≤ 1 then 2 else 5) else 2)))) := by
  have hxu := hx u hu
  have fin : ∀ k m, m ≤ T - u → (decide (u + m < T) && dgb (tx (u + m))) = false → fX10_step_b65 F (k + 1) 209 (nI (tx u)) (hp (jS S (upd (upd f 10 (nI (u + m))) 13 (nI (vl tx u m))))) = some (hp (jS S (upd (upd (upd f 10 (nI (u + m))) 13 (nI (vl tx u m))) 12 (if 99 < vl tx u m then 5 else if tx u = 48 then (if m ≤ 1 then 2 else 5) else 2)))) := by
    intro k m hm hd
    have hvl := vl_le (tx := tx) (u := u) m (fun j hj => hx _ (by omega))
    show fX10_step_b65c F _ 209 (nI (tx u)) (hp (jS S (upd (upd f 10 (nI (u + m))) 13 (nI (vl tx u m))))) = _
    have e1 : (upd (upd f 10 (nI (u + m))) 13 (nI (vl tx u m))) 1 = nI T := by rw [upd_n _ _ (by decide), upd_n _ _ (by decide)]; exact h1
    have e10' : (upd (upd f 10 (nI (u + m))) 13 (nI (vl tx u m))) 10 = nI (u + m) := by rw [upd_n _ _ (by decide)]; exact upd_s _ _ _
    have e11 : (upd (upd f 10 (nI (u + m))) 13 (nI (vl tx u m))) 11 = nI u := by rw [upd_n _ _ (by decide), upd_n _ _ (by decide)]; exact h11
    have e13 : (upd (upd f 10 (nI (u + m))) 13 (nI (vl tx u m))) 13 = nI (vl tx u m) := upd_s _ _ _
    unfold fX10_step_b65c fX10_step_b156 fX10_step_b160 fX10_step_b161
    rw [here_eq F hT hx e1 hb' (show u + m < 2 ^ 20 by omega) e10', Option.bind_some, inDig F _ hx, Option.bind_some, hd]
    generalize upd (upd f 10 (nI (u + m))) 13 (nI (vl tx u m)) = g at *
    simp only [Bool.false_eq_true, if_false, if_true, ob9 kd_209, g9_0 kd_209, g9_1 kd_209, g9_2 kd_209, g9_3 kd_209, g9_4 kd_209, g9_5 kd_209, g9_6 kd_209, g9_7 kd_209, g9_8 kd_209, g9_9 kd_209, g9_10 kd_209, g9_11 kd_209, g9_12 kd_209, g9_13 kd_209, g9_14 kd_209, g9_15 kd_209, g9_16 kd_209, g9_17 kd_209, g9_18 kd_209, g9_19 kd_209, g9_20 kd_209, g9_21 kd_209, g9_22 kd_209, g9_23 kd_209, g9_24 kd_209, g9_25 kd_209, p9_1 kd_209, p9_10 kd_209, p9_11 kd_209, p9_12 kd_209, p9_13 kd_209, p9_14 kd_209, p9_15 kd_209, p9_24 kd_209, p9_25 kd_209, jS_f, e10', e11, e13, Option.bind_some, Nat.reduceAdd, jS_st]
    rw [pk_sub (by omega), show u + m - u = m by omega]
    by_cases c1 : 99 < vl tx u m
    · rw [if_pos (show (99 : Int32) < nI (vl tx u m) from nI_lt (a := 99) c1 (by omega)), if_pos c1]
    · rw [if_neg (show ¬ (99 : Int32) < nI (vl tx u m) from nI_nlt (a := 99) (by omega) (by decide)), if_neg c1]
      by_cases c2 : tx u = 48
      · rw [if_pos (show nI (tx u) = (48 : Int32) by rw [c2]; rfl), if_pos c2]
        by_cases c3 : m ≤ 1
        · rw [if_pos (show nI m ≤ (1 : Int32) from nI_le (b := 1) c3 (by decide)), if_pos c3]
        · rw [if_neg (show ¬ nI m ≤ (1 : Int32) from nI_ge (a := 1) (by omega) (by omega)), if_neg c3]
      · rw [if_neg (show ¬ nI (tx u) = (48 : Int32) from fun e => c2 ((nI_eq (b := 48) (by omega) (by decide)).mp e)), if_neg c2]
  have := loopF (fun k i => fX10_step_b65 F k 209 (nI (tx u)) (hp (jS S (upd (upd f 10 (nI (u + i))) 13 (nI (vl tx u i)))))) (T - u) (fun i => !dgb (tx (u + i))) (fun m => some (hp (jS S (upd (upd (upd f 10 (nI (u + m))) 13 (nI (vl tx u m))) 12 (if 99 < vl tx u m then 5 else if tx u = 48 then (if m ≤ 1 then 2 else 5) else 2))))) ?_ ?_ F (by omega)
  · refine Eq.trans ?_ this
    have e : upd (upd f 10 (nI (u + 0))) 13 (nI (vl tx u 0)) = f := by
      funext k
      rw [upd_at, upd_at]
      by_cases hk : k = 13
      · rw [if_pos hk, hk, h13]; rfl
      · rw [if_neg hk]
        by_cases hk : k = 10
        · rw [if_pos hk, hk, h10]; rfl
        · rw [if_neg hk]
    rw [e]
  · intro k
    have nl : ¬ u + (T - u) < T := by omega
    exact fin k (T - u) (Nat.le_refl _) (by simp [nl])
  · intro k i hi
    have nl : u + i < T := by omega
    cases hd : dgb (tx (u + i)) with
    | false =>
      rw [if_pos (by rfl)]
      exact fin k i (by omega) (by rw [hd]; simp)
    | true =>
      rw [if_neg (by simp)]
      have hdi := of_decide_eq_true hd
      have hvl := vl_le (tx := tx) (u := u) i (fun j hj => hx _ (by omega))
      show fX10_step_b65c F _ 209 (nI (tx u)) (hp (jS S (upd (upd f 10 (nI (u + i))) 13 (nI (vl tx u i))))) = _
      have e1 : (upd (upd f 10 (nI (u + i))) 13 (nI (vl tx u i))) 1 = nI T := by rw [upd_n _ _ (by decide), upd_n _ _ (by decide)]; exact h1
      have e10' : (upd (upd f 10 (nI (u + i))) 13 (nI (vl tx u i))) 10 = nI (u + i) := by rw [upd_n _ _ (by decide)]; exact upd_s _ _ _
      have e13 : (upd (upd f 10 (nI (u + i))) 13 (nI (vl tx u i))) 13 = nI (vl tx u i) := upd_s _ _ _
      have he := here_eq F (S := S) hT hx e1 hb' (show u + i < 2 ^ 20 by omega) e10'
      have uu : ∀ v, upd (upd (upd (upd f 10 (nI (u + i))) 13 (nI (vl tx u i))) 13 v) 10 (nI (u + i + 1)) = upd (upd f 10 (nI (u + (i + 1)))) 13 v := by
        intro v
        funext k
        simp only [upd_at]
        by_cases hk : k = 10
        · subst hk; simp; rfl
        · by_cases hk2 : k = 13
          · simp [hk2]
          · simp [hk, hk2]
      have hbv : hb T tx (u + i) = nI (tx (u + i)) := by unfold hb; rw [if_pos nl]
      unfold fX10_step_b65c fX10_step_b111
      rw [he, Option.bind_some, inDig F _ hx, Option.bind_some, hd]
      have e10b : ∀ v, (upd (upd (upd f 10 (nI (u + i))) 13 (nI (vl tx u i))) 13 v) 10 = nI (u + i) := fun v => by rw [upd_n _ _ (by decide)]; exact e10'
      generalize upd (upd f 10 (nI (u + i))) 13 (nI (vl tx u i)) = g at *
      simp only [nl, decide_true, Bool.true_and, if_true, e10, if_false, ob9 kd_209, g9_0 kd_209, g9_1 kd_209, g9_2 kd_209, g9_3 kd_209, g9_4 kd_209, g9_5 kd_209, g9_6 kd_209, g9_7 kd_209, g9_8 kd_209, g9_9 kd_209, g9_10 kd_209, g9_11 kd_209, g9_12 kd_209, g9_13 kd_209, g9_14 kd_209, g9_15 kd_209, g9_16 kd_209, g9_17 kd_209, g9_18 kd_209, g9_19 kd_209, g9_20 kd_209, g9_21 kd_209, g9_22 kd_209, g9_23 kd_209, g9_24 kd_209, g9_25 kd_209, p9_1 kd_209, p9_10 kd_209, p9_11 kd_209, p9_12 kd_209, p9_13 kd_209, p9_14 kd_209, p9_15 kd_209, p9_24 kd_209, p9_25 kd_209, jS_f, e13, Option.bind_some, Nat.reduceAdd, jS_st, he, e10b, nI_1, uu, hbv]
      simp only [vl]
      by_cases c : vl tx u i ≤ 99
      · rw [if_pos (show nI (vl tx u i) ≤ (99 : Int32) from nI_le (b := 99) c (by decide)), if_pos c, show (10 : Int32) = nI 10 from rfl, pk_mul, nI_add, show (48 : Int32) = nI 48 from rfl, pk_sub (by omega), show 10 * vl tx u i + tx (u + i) - 48 = 10 * vl tx u i + (tx (u + i) - 48) by omega]
      · rw [if_neg (show ¬ nI (vl tx u i) ≤ (99 : Int32) from nI_ge (a := 99) (by omega) (by omega)), if_neg c]
theorem step_eq (F : Nat) (hF : 4000 ≤ F) {S : ST} {f : Nat → Int32} {T : Nat} {tx : Nat → Nat} (hT : T ≤ 120) (hx : ∀ j, j < T → tx j < 256) (h1 : f 1 = nI T) (hb' : ∀ j, j < T → S.1 210 j = (nI (tx j)).toInt8.toInt32) {t : Nat} (ht : t ≤ T) (h10 : f 10 = nI t) : fX10_step F (hp (jS S f)) 209 = some (hp (jS S (tk T tx f (sk T tx t)))) := by
  have rest : ∀ k u, u ≤ T → ¬ (u < T ∧ tx u = 32) → fX10_step_b0 F (k + 1) 209 (hp (jS S (upd f 10 (nI u)))) = some (hp (jS S (tk T tx f u))) := by
    intro k u hu hne
    show fX10_step_b0c F _ 209 (hp (jS S (upd f 10 (nI u)))) = _
    have e1 : (upd f 10 (nI u)) 1 = nI T := by rw [upd_n _ _ (by decide)]; exact h1
    have e10' : (upd f 10 (nI u)) 10 = nI u := upd_s _ _ _
    have g1 : (upd (upd (upd f 10 (nI u)) 11 (nI u)) 13 0) 1 = nI T := by rw [upd_n _ _ (by decide), upd_n _ _ (by decide)]; exact e1
    have g10 : (upd (upd (upd f 10 (nI u)) 11 (nI u)) 13 0) 10 = nI u := by rw [upd_n _ _ (by decide), upd_n _ _ (by decide)]; exact e10'
    have g11 : (upd (upd (upd f 10 (nI u)) 11 (nI u)) 13 0) 11 = nI u := by rw [upd_n _ _ (by decide)]; exact upd_s _ _ _
    have g13 : (upd (upd (upd f 10 (nI u)) 11 (nI u)) 13 0) 13 = 0 := upd_s _ _ _
    have gk : ∀ k, k ≠ 10 → k ≠ 11 → k ≠ 12 → k ≠ 13 → (upd (upd (upd f 10 (nI u)) 11 (nI u)) 13 0) k = f k := fun k a b c d => by rw [upd_n _ _ d, upd_n _ _ b, upd_n _ _ a]
    unfold fX10_step_b0c
    rw [here_eq F hT hx e1 hb' (show u < 2 ^ 20 by omega) e10', Option.bind_some]
    rw [if_neg (fun e => hne ((hbe hx 32 32 rfl (by omega)).mp e))]
    simp only [ob9 kd_209, g9_0 kd_209, g9_1 kd_209, g9_2 kd_209, g9_3 kd_209, g9_4 kd_209, g9_5 kd_209, g9_6 kd_209, g9_7 kd_209, g9_8 kd_209, g9_9 kd_209, g9_10 kd_209, g9_11 kd_209, g9_12 kd_209, g9_13 kd_209, g9_14 kd_209, g9_15 kd_209, g9_16 kd_209, g9_17 kd_209, g9_18 kd_209, g9_19 kd_209, g9_20 kd_209, g9_21 kd_209, g9_22 kd_209, g9_23 kd_209, g9_24 kd_209, g9_25 kd_209, p9_1 kd_209, p9_10 kd_209, p9_11 kd_209, p9_12 kd_209, p9_13 kd_209, p9_14 kd_209, p9_15 kd_209, p9_24 kd_209, p9_25 kd_209, jS_f, e10', Option.bind_some, Nat.reduceAdd, jS_st]
    generalize upd (upd (upd f 10 (nI u)) 11 (nI u)) 13 0 = g at *
    rw [here_eq F hT hx g1 hb' (show u < 2 ^ 20 by omega) g10, Option.bind_some]
    by_cases hlt : u < T
    · have hxu := hx u hlt
      have hbv : hb T tx u = nI (tx u) := by unfold hb; rw [if_pos hlt]
      rw [if_neg (show ¬ hb T tx u = -9 from by rw [hbv]; exact nI_m9 (by omega)), inDig F _ hx, Option.bind_some]
      cases hd : dgb (tx u) with
      | true =>
        simp only [hlt, decide_true, Bool.true_and, if_true, e10, if_false]
        rw [hbv, m_digits F hF hT hx g1 hb' hlt g10 g11 g13]
        congr 3
        apply tk_eq
        · rw [upd_n _ _ (by decide), upd_n _ _ (by decide), upd_s]; unfold nx; rw [if_pos hlt, hd, if_pos rfl]
        · rw [upd_n _ _ (by decide), upd_n _ _ (by decide), upd_n _ _ (by decide)]; exact g11
        · rw [upd_s]; unfold so; rw [if_pos hlt, hd, if_pos rfl]
          by_cases c1 : 99 < vl tx u (dg T tx u)
          · rw [if_pos c1, if_pos c1]; rfl
          · rw [if_neg c1, if_neg c1]
            by_cases c2 : tx u = 48
            · rw [if_pos c2, if_pos c2]
              by_cases c3 : dg T tx u ≤ 1
              · rw [if_pos c3, if_pos c3]; rfl
              · rw [if_neg c3, if_neg c3]; rfl
            · rw [if_neg c2, if_neg c2]; rfl
        · rw [upd_n _ _ (by decide), upd_s]; unfold vv; rw [if_pos hlt, hd, if_pos rfl]
        · intro k a b c d
          rw [upd_n _ _ c, upd_n _ _ d, upd_n _ _ a]; exact gk k a b c d
      | false =>
        simp only [hlt, decide_true, Bool.true_and, Bool.false_eq_true, if_false, if_true]
        rw [inLet F _ hx, Option.bind_some]
        cases hl : ltb (tx u) with
        | true =>
          simp only [hlt, decide_true, Bool.true_and, if_true, e10, if_false]
          rw [m_letters F hF hT hx g1 hb' hu g10 g11, hbv]
          congr 3
          apply tk_eq
          · rw [upd_n _ _ (by decide), upd_n _ _ (by decide), upd_s]; unfold nx; rw [if_pos hlt, hd, if_neg (by simp), hl, if_pos rfl]
          · rw [upd_n _ _ (by decide), upd_n _ _ (by decide), upd_n _ _ (by decide)]; exact g11
          · rw [upd_s]; unfold so; rw [if_pos hlt, hd, if_neg (by simp), hl, if_pos rfl]; rfl
          · have hvv : vv T tx u = if lt T tx u = 1 then tx u else 0 := by
              unfold vv
              rw [if_pos hlt, if_neg (by rw [hd]; exact Bool.false_ne_true), if_pos hl]
            rw [upd_n _ _ (by decide), upd_s, hvv]
            by_cases c1 : lt T tx u = 1
            · rw [if_pos c1, if_pos c1]
            · rw [if_neg c1, if_neg c1]; rfl
          · intro k a b c d
            rw [upd_n _ _ c, upd_n _ _ d, upd_n _ _ a]; exact gk k a b c d
        | false =>
          simp only [hlt, decide_true, Bool.true_and, Bool.false_eq_true, if_false, if_true, ob9 kd_209, g9_0 kd_209, g9_1 kd_209, g9_2 kd_209, g9_3 kd_209, g9_4 kd_209, g9_5 kd_209, g9_6 kd_209, g9_7 kd_209, g9_8 kd_209, g9_9 kd_209, g9_10 kd_209, g9_11 kd_209, g9_12 kd_209, g9_13 kd_209, g9_14 kd_209, g9_15 kd_209, g9_16 kd_209, g9_17 kd_209, g9_18 kd_209, g9_19 kd_209, g9_20 kd_209, g9_21 kd_209, g9_22 kd_209, g9_23 kd_209, g9_24 kd_209, g9_25 kd_209, p9_1 kd_209, p9_10 kd_209, p9_11 kd_209, p9_12 kd_209, p9_13 kd_209, p9_14 kd_209, p9_15 kd_209, p9_24 kd_209, p9_25 kd_209, jS_f, g10, Option.bind_some, Nat.reduceAdd, jS_st, nI_1]
          unfold fX10_step_b257
          simp only [ob9 kd_209, g9_0 kd_209, g9_1 kd_209, g9_2 kd_209, g9_3 kd_209, g9_4 kd_209, g9_5 kd_209, g9_6 kd_209, g9_7 kd_209, g9_8 kd_209, g9_9 kd_209, g9_10 kd_209, g9_11 kd_209, g9_12 kd_209, g9_13 kd_209, g9_14 kd_209, g9_15 kd_209, g9_16 kd_209, g9_17 kd_209, g9_18 kd_209, g9_19 kd_209, g9_20 kd_209, g9_21 kd_209, g9_22 kd_209, g9_23 kd_209, g9_24 kd_209, g9_25 kd_209, p9_1 kd_209, p9_10 kd_209, p9_11 kd_209, p9_12 kd_209, p9_13 kd_209, p9_14 kd_209, p9_15 kd_209, p9_24 kd_209, p9_25 kd_209, Option.bind_some, Nat.reduceAdd, jS_st]
          have fin : ∀ s : Nat, so T tx u = s → upd (upd g 10 (nI (u + 1))) 12 (nI s) = tk T tx f u := by
            intro s hs
            apply tk_eq
            · rw [upd_n _ _ (by decide), upd_s]; unfold nx; rw [if_pos hlt, hd, if_neg (by simp), hl, if_neg (by simp)]
            · rw [upd_n _ _ (by decide), upd_n _ _ (by decide)]; exact g11
            · rw [upd_s, hs]
            · rw [upd_n _ _ (by decide), upd_n _ _ (by decide), g13]; unfold vv; rw [if_pos hlt, hd, if_neg (by simp), hl, if_neg (by simp)]; rfl
            · intro k a b c d
              rw [upd_n _ _ c, upd_n _ _ a]; exact gk k a b c d
          have hso : so T tx u = if tx u = 59 then 3 else 5 := by unfold so; rw [if_pos hlt, hd, if_neg (by simp), hl, if_neg (by simp)]
          by_cases c : tx u = 59
          · rw [if_pos ((hbe hx 59 59 rfl (by omega)).mpr ⟨hlt, c⟩), ← fin 3 (by rw [hso, if_pos c])]
            rfl
          · rw [if_neg (fun e => c ((hbe hx 59 59 rfl (by omega)).mp e).2), ← fin 5 (by rw [hso, if_neg c])]
            rfl
    · have hbv : hb T tx u = -9 := by unfold hb; rw [if_neg hlt]
      rw [if_pos hbv]
      simp only [ob9 kd_209, g9_0 kd_209, g9_1 kd_209, g9_2 kd_209, g9_3 kd_209, g9_4 kd_209, g9_5 kd_209, g9_6 kd_209, g9_7 kd_209, g9_8 kd_209, g9_9 kd_209, g9_10 kd_209, g9_11 kd_209, g9_12 kd_209, g9_13 kd_209, g9_14 kd_209, g9_15 kd_209, g9_16 kd_209, g9_17 kd_209, g9_18 kd_209, g9_19 kd_209, g9_20 kd_209, g9_21 kd_209, g9_22 kd_209, g9_23 kd_209, g9_24 kd_209, g9_25 kd_209, p9_1 kd_209, p9_10 kd_209, p9_11 kd_209, p9_12 kd_209, p9_13 kd_209, p9_14 kd_209, p9_15 kd_209, p9_24 kd_209, p9_25 kd_209, Option.bind_some, Nat.reduceAdd, jS_st]
      congr 3
      apply tk_eq
      · rw [upd_n _ _ (by decide), g10]; unfold nx; rw [if_neg hlt]
      · rw [upd_n _ _ (by decide)]; exact g11
      · rw [upd_s]; unfold so; rw [if_neg hlt]; rfl
      · rw [upd_n _ _ (by decide), g13]; unfold vv; rw [if_neg hlt]; rfl
      · intro k a b c d
        rw [upd_n _ _ c]; exact gk k a b c d
  unfold fX10_step
  simp only [ob9 kd_209, g9_0 kd_209, g9_1 kd_209, g9_2 kd_209, g9_3 kd_209, g9_4 kd_209, g9_5 kd_209, g9_6 kd_209, g9_7 kd_209, g9_8 kd_209, g9_9 kd_209, g9_10 kd_209, g9_11 kd_209, g9_12 kd_209, g9_13 kd_209, g9_14 kd_209, g9_15 kd_209, g9_16 kd_209, g9_17 kd_209, g9_18 kd_209, g9_19 kd_209, g9_20 kd_209, g9_21 kd_209, g9_22 kd_209, g9_23 kd_209, g9_24 kd_209, g9_25 kd_209, p9_1 kd_209, p9_10 kd_209, p9_11 kd_209, p9_12 kd_209, p9_13 kd_209, p9_14 kd_209, p9_15 kd_209, p9_24 kd_209, p9_25 kd_209, Option.bind_some, Nat.reduceAdd]
  have := loopF (fun k i => fX10_step_b0 F k 209 (hp (jS S (upd f 10 (nI (t + i)))))) (T - t) (fun i => !(tx (t + i) == 32)) (fun m => some (hp (jS S (tk T tx f (t + m))))) ?_ ?_ F (by omega)
  · refine Eq.trans ?_ this
    have e : upd f 10 (nI (t + 0)) = f := by
      funext k
      rw [upd_at]
      by_cases hk : k = 10
      · rw [if_pos hk, hk, h10]; rfl
      · rw [if_neg hk]
    rw [e]
  · intro k
    exact rest k (t + (T - t)) (by omega) (by omega)
  · intro k i hi
    by_cases c : tx (t + i) = 32
    · rw [c, if_neg (by simp)]
      show fX10_step_b0c F _ 209 (hp (jS S (upd f 10 (nI (t + i))))) = _
      have e1 : (upd f 10 (nI (t + i))) 1 = nI T := by rw [upd_n _ _ (by decide)]; exact h1
      have e10' : (upd f 10 (nI (t + i))) 10 = nI (t + i) := upd_s _ _ _
      have uu : upd (upd f 10 (nI (t + i))) 10 (nI (t + i + 1)) = upd f 10 (nI (t + (i + 1))) := by
        funext k
        rw [upd_at, upd_at, upd_at]
        split <;> rfl
      unfold fX10_step_b0c
      rw [here_eq F hT hx e1 hb' (show t + i < 2 ^ 20 by omega) e10', Option.bind_some, if_pos ((hbe hx 32 32 rfl (by omega)).mpr ⟨by omega, c⟩)]
      simp only [ob9 kd_209, g9_0 kd_209, g9_1 kd_209, g9_2 kd_209, g9_3 kd_209, g9_4 kd_209, g9_5 kd_209, g9_6 kd_209, g9_7 kd_209, g9_8 kd_209, g9_9 kd_209, g9_10 kd_209, g9_11 kd_209, g9_12 kd_209, g9_13 kd_209, g9_14 kd_209, g9_15 kd_209, g9_16 kd_209, g9_17 kd_209, g9_18 kd_209, g9_19 kd_209, g9_20 kd_209, g9_21 kd_209, g9_22 kd_209, g9_23 kd_209, g9_24 kd_209, g9_25 kd_209, p9_1 kd_209, p9_10 kd_209, p9_11 kd_209, p9_12 kd_209, p9_13 kd_209, p9_14 kd_209, p9_15 kd_209, p9_24 kd_209, p9_25 kd_209, jS_f, e10', Option.bind_some, Nat.reduceAdd, jS_st, nI_1, uu]
    · rw [beq_false_of_ne c, if_pos (by rfl)]
      exact rest k (t + i) (by omega) (fun e => c e.2)

/-! the class reads a text -/
theorem stJ_stJ (S : ST) (q k : Nat) (a b : Int32) : stJ (stJ S q k a) q k b = stJ S q k b := by
  unfold stJ
  simp only [bx_uu, va_up_self]
  congr 3
  funext j
  rw [upd_at, upd_at, upd_at]
  split <;> rfl
theorem stJ_id {S : ST} {q k : Nat} {v : Int32} (h : S.2.1 q k = v) : stJ S q k v = S := by
  have : va_up S.2.1 q (upd (S.2.1 q) k v) = S.2.1 := by
    funext b
    rw [va_up_at]
    by_cases hb : b = q
    · rw [if_pos hb, hb]
      funext j
      rw [upd_at]
      by_cases hj : j = k
      · rw [if_pos hj, hj, h]
      · rw [if_neg hj]
    · rw [if_neg hb]
  unfold stJ
  rw [this]
def cb (T : Nat) (tx : Nat → Nat) (t : Nat) : Int32 := if t < T then nI (tx t) else -1
theorem byteAt_eq (F : Nat) {S : ST} {T : Nat} {tx : Nat → Nat} (kx : KX S T tx) (hT : T ≤ 120) {t : Nat} (ht : t < 2 ^ 20) : fX6_byteAt F (hp S) 1 (nI t) = some (cb T tx t, hp S) := by
  unfold fX6_byteAt fX6_byteAt_b27 cb
  simp only [Option.bind_some, Nat.reduceAdd, ob5 kd_1, g5_0 kd_1, g5_1 kd_1, g5_2 kd_1, p5_1 kd_1, p5_2 kd_1, kx.1]
  rw [if_neg (nI_pos (by omega))]
  by_cases h : t < T
  · rw [if_neg (nI_ge h (by omega)), if_neg (show ¬ (120 : Int32) ≤ nI t from nI_ge (b := 120) (by omega) (by decide)), ra (by rfl) (by decide) (by rw [kd_2]; show t < 120; omega), kx.2 t h, if_pos h]
    simp only [Option.bind_some, Nat.reduceAdd]
  · rw [if_pos (nI_le (by omega) (by omega)), if_neg h]
theorem nI_m1 {m : Nat} (h : m < 2 ^ 31) : ¬ nI m = -1 := by
  intro e
  have := nI_toInt h
  rw [e, show (-1 : Int32).toInt = -1 from by decide] at this
  omega
theorem cb_eq {T : Nat} {tx : Nat → Nat} (hx : ∀ j, j < T → tx j < 256) {t m : Nat} (hm : m < 256) : (cb T tx t = nI m) ↔ (t < T ∧ tx t = m) := by
  unfold cb
  by_cases h : t < T
  · rw [if_pos h]
    have := hx t h
    rw [nI_eq (by omega) (by omega)]
    exact ⟨fun e => ⟨h, e⟩, fun e => e.2⟩
  · rw [if_neg h]
    exact ⟨fun e => absurd e.symm (nI_m1 (by omega)), fun e => absurd e.1 h⟩
theorem cbe {T : Nat} {tx : Nat → Nat} (hx : ∀ j, j < T → tx j < 256) {t : Nat} (x : Int32) (m : Nat) (e : x = nI m) (hm : m < 256) : (cb T tx t = x) ↔ (t < T ∧ tx t = m) := by
  rw [e]; exact cb_eq hx hm
theorem isDigit_eq (F : Nat) (L : HL) {T : Nat} {tx : Nat → Nat} (hx : ∀ j, j < T → tx j < 256) (t : Nat) : fX6_isDigit F L (cb T tx t) = some (if (decide (t < T) && dgb (tx t)) then 1 else 0, L) := by
  unfold fX6_isDigit fX6_isDigit_b16 cb dgb
  by_cases h : t < T
  · have := hx t h
    rw [if_pos h]
    by_cases h1 : tx t < 48
    · have h3 : ¬ (48 ≤ tx t ∧ tx t ≤ 57) := by omega
      rw [if_pos (show nI (tx t) < (48 : Int32) from nI_lt (b := 48) h1 (by decide)), if_neg (by simp [h3])]
    · rw [if_neg (show ¬ nI (tx t) < (48 : Int32) from nI_nlt (b := 48) (by omega) (by omega))]
      by_cases h2 : 57 < tx t
      · have h3 : ¬ (48 ≤ tx t ∧ tx t ≤ 57) := by omega
        rw [if_pos (show (57 : Int32) < nI (tx t) from nI_lt (a := 57) h2 (by omega)), if_neg (by simp [h3])]
      · have h3 : 48 ≤ tx t ∧ tx t ≤ 57 := by omega
        rw [if_neg (show ¬ (57 : Int32) < nI (tx t) from nI_nlt (a := 57) (by omega) (by decide)), if_pos (by simp [h, h3])]
  · rw [if_neg h, if_pos (by decide), if_neg (by simp [h])]
theorem isLetter_eq (F : Nat) (L : HL) {T : Nat} {tx : Nat → Nat} (hx : ∀ j, j < T → tx j < 256) (t : Nat) : fX6_isLetter F L (cb T tx t) = some (if (decide (t < T) && ltb (tx t)) then 1 else 0, L) := by
  unfold fX6_isLetter fX6_isLetter_b16 cb ltb
  by_cases h : t < T
  · have := hx t h
    rw [if_pos h]
    by_cases h1 : tx t < 97
    · have h3 : ¬ (97 ≤ tx t ∧ tx t ≤ 122) := by omega
      rw [if_pos (show nI (tx t) < (97 : Int32) from nI_lt (b := 97) h1 (by decide)), if_neg (by simp [h3])]
    · rw [if_neg (show ¬ nI (tx t) < (97 : Int32) from nI_nlt (b := 97) (by omega) (by omega))]
      by_cases h2 : 122 < tx t
      · have h3 : ¬ (97 ≤ tx t ∧ tx t ≤ 122) := by omega
        rw [if_pos (show (122 : Int32) < nI (tx t) from nI_lt (a := 122) h2 (by omega)), if_neg (by simp [h3])]
      · have h3 : 97 ≤ tx t ∧ tx t ≤ 122 := by omega
        rw [if_neg (show ¬ (122 : Int32) < nI (tx t) from nI_nlt (a := 122) (by omega) (by decide)), if_pos (by simp [h, h3])]
  · rw [if_neg h, if_pos (by decide), if_neg (by simp [h])]
theorem KX.pl {S : ST} {T : Nat} {tx : Nat → Nat} (h : KX S T tx) (v : Int32) : KX (stJ S 1 1 v) T tx := ⟨by rw [stJ_k _ _ (by decide)]; exact h.1, fun j hj => by rw [stJ_1]; exact h.2 j hj⟩
theorem k_skip (F : Nat) (hF : 4000 ≤ F) {S : ST} {T : Nat} {tx : Nat → Nat} (kx : KX S T tx) (hT : T ≤ 120) (hx : ∀ j, j < T → tx j < 256) {t : Nat} (ht : t ≤ T) (hp' : S.2.1 1 1 = nI t) : fX6_skipBlanks F (hp S) 1 = some (hp (stJ S 1 1 (nI (sk T tx t)))) := by
  unfold fX6_skipBlanks
  simp only [Option.bind_some, Nat.reduceAdd, ob5 kd_1, g5_0 kd_1, g5_1 kd_1, g5_2 kd_1, p5_1 kd_1, p5_2 kd_1]
  have := loopF (fun k i => fX6_skipBlanks_b0 F k 1 (hp (stJ S 1 1 (nI (t + i))))) (T - t) (fun i => !(tx (t + i) == 32)) (fun m => some (hp (stJ S 1 1 (nI (t + m))))) ?_ ?_ F (by omega)
  · refine Eq.trans ?_ this
    rw [stJ_id (S := S) (q := 1) (k := 1) (v := nI (t + 0)) hp']
  · intro k
    show fX6_skipBlanks_b0c F _ 1 (hp (stJ S 1 1 (nI (t + (T - t))))) = _
    have e1 : (stJ S 1 1 (nI (t + (T - t)))).2.1 1 1 = nI (t + (T - t)) := stJ_s _ _ _ _
    have e2 := (kx.pl (nI (t + (T - t)))).1
    unfold fX6_skipBlanks_b0c
    simp only [Option.bind_some, Nat.reduceAdd, ob5 kd_1, g5_0 kd_1, g5_1 kd_1, g5_2 kd_1, p5_1 kd_1, p5_2 kd_1, e1, e2]
    rw [if_pos (nI_le (by omega) (by omega))]
  · intro k i hi
    show fX6_skipBlanks_b0c F _ 1 (hp (stJ S 1 1 (nI (t + i)))) = _
    have e1 : (stJ S 1 1 (nI (t + i))).2.1 1 1 = nI (t + i) := stJ_s _ _ _ _
    have kx1 := kx.pl (nI (t + i))
    unfold fX6_skipBlanks_b0c
    simp only [Option.bind_some, Nat.reduceAdd, ob5 kd_1, g5_0 kd_1, g5_1 kd_1, g5_2 kd_1, p5_1 kd_1, p5_2 kd_1, e1, kx1.1, byteAt_eq F kx1 hT (show t + i < 2 ^ 20 by omega), stJ_stJ, nI_1]
    rw [if_neg (nI_ge (by omega) (by omega))]
    by_cases h : tx (t + i) = 32
    · rw [if_pos ((cbe hx 32 32 rfl (by omega)).mpr ⟨by omega, h⟩), h]
      rfl
    · rw [if_neg (fun e => h ((cbe hx 32 32 rfl (by omega)).mp e).2), beq_false_of_ne h]
      rfl
theorem k_digits (F : Nat) (hF : 4000 ≤ F) {S : ST} {T : Nat} {tx : Nat → Nat} (kx : KX S T tx) (hT : T ≤ 120) (hx : ∀ j, j < T → tx j < 256) {t : Nat} (ht : t ≤ T) (hp' : S.2.1 1 1 = nI t) : fX6_digitsHere F (hp S) 1 = some (nI (dg T tx t), hp S) := by
  unfold fX6_digitsHere
  simp only [Option.bind_some, Nat.reduceAdd, ob5 kd_1, g5_0 kd_1, g5_1 kd_1, g5_2 kd_1, p5_1 kd_1, p5_2 kd_1]
  have body : ∀ k i, fX6_digitsHere_b2 F (k + 1) 1 (nI i) (hp S) = if 120 ≤ nI i then some (nI i, hp S) else if i < 2000 then (if (decide (t + i < T) && dgb (tx (t + i))) then fX6_digitsHere_b2 F k 1 (nI (i + 1)) (hp S) else some (nI i, hp S)) else fX6_digitsHere_b2 F (k + 1) 1 (nI i) (hp S) := by
    intro k i
    by_cases hi : i < 2000
    · show fX6_digitsHere_b2c F _ 1 (nI i) (hp S) = _
      unfold fX6_digitsHere_b2c fX6_digitsHere_b30
      simp only [Option.bind_some, Nat.reduceAdd, ob5 kd_1, g5_0 kd_1, g5_1 kd_1, g5_2 kd_1, p5_1 kd_1, p5_2 kd_1, hp', nI_add, byteAt_eq F kx hT (show t + i < 2 ^ 20 by omega), isDigit_eq F _ hx, nI_1, if_pos hi]
      congr 1
      cases (decide (t + i < T) && dgb (tx (t + i)))
      · simp
      · simp
    · rw [if_neg hi]
      show fX6_digitsHere_b2c F _ 1 (nI i) (hp S) = if 120 ≤ nI i then _ else fX6_digitsHere_b2c F _ 1 (nI i) (hp S)
      by_cases h120 : (120 : Int32) ≤ nI i
      · rw [if_pos h120]
        unfold fX6_digitsHere_b2c fX6_digitsHere_b30
        rw [if_pos h120]
      · rw [if_neg h120]
  have := loopF (fun k i => fX6_digitsHere_b2 F k 1 (nI i) (hp S)) (T - t) (fun i => !dgb (tx (t + i))) (fun m => some (nI m, hp S)) ?_ ?_ F (by omega)
  · exact this
  · intro k
    rw [body, if_pos (show T - t < 2000 by omega)]
    have : ¬ t + (T - t) < T := by omega
    simp only [this, decide_false, Bool.false_and, Bool.false_eq_true, if_false]
    split <;> rfl
  · intro k i hi
    have : t + i < T := by omega
    rw [body, if_neg (show ¬ (120 : Int32) ≤ nI i from nI_ge (b := 120) (by omega) (by decide)), if_pos (show i < 2000 by omega)]
    simp only [this, decide_true, Bool.true_and]
    cases dgb (tx (t + i))
    · simp
    · simp
theorem subI {h v : Nat} (hh : h < 2 ^ 30) (hv : v < 2 ^ 30) : (nI h - 1 < nI v) ↔ h ≤ v := by
  rw [Int32.lt_iff_toInt_lt, nI_toInt (by omega), show (nI h - 1).toInt = (h : Int) - 1 from pk_sub_toInt (a := h) (b := 1) hh (by decide)]
  omega
theorem k_numberOf (F : Nat) {S : ST} {T : Nat} {tx : Nat → Nat} (kx : KX S T tx) (hT : T ≤ 120) (hx : ∀ j, j < T → tx j < 256) {u : Nat} (hu : u ≤ T) (hp' : S.2.1 1 1 = nI u) : fX6_numberOf F (hp S) 1 (nI (dg T tx u)) = some (if nv T tx u = 999 then -1 else nI (nv T tx u), hp S) := by
  have hd := dg_le (tx := tx) hu
  unfold fX6_numberOf fX6_numberOf_b64
  simp only [Option.bind_some, Nat.reduceAdd, ob5 kd_1, g5_0 kd_1, g5_1 kd_1, g5_2 kd_1, p5_1 kd_1, p5_2 kd_1, hp', nI_1, byteAt_eq F kx hT (show u < 2 ^ 20 by omega), byteAt_eq F kx hT (show u + 1 < 2 ^ 20 by omega)]
  have hnv : nv T tx u = if dg T tx u = 1 then tx u - 48 else if dg T tx u = 2 ∧ tx u ≠ 48 then 10 * (tx u - 48) + (tx (u + 1) - 48) else 999 := rfl
  by_cases h1 : dg T tx u = 1
  · have a := dg_digit (T := T) (tx := tx) (u := u) (i := 0) (by omega)
    rw [Nat.add_zero] at a
    rw [if_pos h1] at hnv
    rw [if_pos (show nI (dg T tx u) = (1 : Int32) by rw [h1]; rfl), hnv, if_neg (by omega)]
    unfold cb
    rw [if_pos (by omega), show (48 : Int32) = nI 48 from rfl, pk_sub (by omega)]
  · rw [if_neg h1] at hnv
    rw [if_neg (show ¬ nI (dg T tx u) = (1 : Int32) from fun e => h1 ((nI_eq (b := 1) (by omega) (by decide)).mp e))]
    by_cases h2 : dg T tx u = 2
    · have a := dg_digit (T := T) (tx := tx) (u := u) (i := 0) (by omega)
      have b := dg_digit (T := T) (tx := tx) (u := u) (i := 1) (by omega)
      rw [Nat.add_zero] at a
      rw [if_pos (show nI (dg T tx u) = (2 : Int32) by rw [h2]; rfl)]
      by_cases h3 : tx u = 48
      · rw [if_neg (fun e => e.2 h3)] at hnv
        rw [if_pos ((cbe hx 48 48 rfl (by omega)).mpr ⟨by omega, h3⟩), hnv, if_pos rfl]
      · rw [if_pos ⟨h2, h3⟩] at hnv
        rw [if_neg (fun e => h3 ((cbe hx 48 48 rfl (by omega)).mp e).2), hnv, if_neg (by omega)]
        unfold cb
        rw [if_pos (by omega), if_pos (by omega), show (48 : Int32) = nI 48 from rfl, pk_sub (by omega), show (10 : Int32) = nI 10 from rfl, pk_mul, nI_add, pk_sub (by omega)]
        congr 3
        omega
    · rw [if_neg (show ¬ nI (dg T tx u) = (2 : Int32) from fun e => h2 ((nI_eq (b := 2) (by omega) (by decide)).mp e))]
      rw [if_neg (fun e => h2 e.1)] at hnv
      rw [hnv, if_pos rfl]
theorem k_number (F : Nat) (hF : 4000 ≤ F) {S : ST} {T : Nat} {tx : Nat → Nat} (kx : KX S T tx) (hT : T ≤ 120) (hx : ∀ j, j < T → tx j < 256) {t : Nat} (ht : t ≤ T) (hp' : S.2.1 1 1 = nI t) {lo h b : Nat} (hlo : lo ≤ 10) (hh : h ≤ 11) {H bI : Int32} (hH : H = nI h - 1) (hb : ∀ v, v ≤ 99 → (nI v = bI ↔ v = b)) : fX6_readNumber F (hp S) 1 (nI lo) H bI = if okN T tx lo h b (sk T tx t) then some (nI (nv T tx (sk T tx t)), hp (stJ S 1 1 (nI (sk T tx t + dg T tx (sk T tx t))))) else some (-1, hp (stJ S 1 1 (nI (sk T tx t)))) := by
  have hs := sk_le (tx := tx) ht
  have kx1 := kx.pl (nI (sk T tx t))
  have e1 : (stJ S 1 1 (nI (sk T tx t))).2.1 1 1 = nI (sk T tx t) := stJ_s _ _ _ _
  unfold fX6_readNumber fX6_readNumber_b36
  simp only [Option.bind_some, Nat.reduceAdd, ob5 kd_1, g5_0 kd_1, g5_1 kd_1, g5_2 kd_1, p5_1 kd_1, p5_2 kd_1, k_skip F hF kx hT hx ht hp', k_digits F hF kx1 hT hx hs e1, k_numberOf F kx1 hT hx hs e1, stJ_stJ, e1, nI_add]
  generalize sk T tx t = u at *
  unfold okN
  rcases nv_le (T := T) (tx := tx) (u := u) with hn | hn
  · rw [if_neg (show ¬ nv T tx u = 999 by omega), hH]
    generalize nv T tx u = v at *
    by_cases c1 : v < lo
    · have : ¬ (lo ≤ v ∧ v < h ∧ v ≠ b) := by omega
      rw [if_pos (nI_lt c1 (by omega)), if_neg (by simp only [this, decide_false]; exact Bool.false_ne_true)]
    · rw [if_neg (nI_nlt (by omega) (by omega))]
      by_cases c2 : h ≤ v
      · have : ¬ (lo ≤ v ∧ v < h ∧ v ≠ b) := by omega
        rw [if_pos ((subI (by omega) (by omega)).mpr c2), if_neg (by simp only [this, decide_false]; exact Bool.false_ne_true)]
      · rw [if_neg (fun e => c2 ((subI (by omega) (by omega)).mp e))]
        by_cases c3 : v = b
        · have : ¬ (lo ≤ v ∧ v < h ∧ v ≠ b) := by omega
          rw [if_pos ((hb v hn).mpr c3), if_neg (by simp only [this, decide_false]; exact Bool.false_ne_true)]
        · rw [if_neg (fun e => c3 ((hb v hn).mp e)), if_pos (decide_eq_true ⟨by omega, by omega, c3⟩)]
  · have : ¬ (lo ≤ nv T tx u ∧ nv T tx u < h ∧ nv T tx u ≠ b) := by omega
    rw [if_pos hn, if_pos (show (-1 : Int32) < nI lo from by rw [Int32.lt_iff_toInt_lt, nI_toInt (by omega), show (-1 : Int32).toInt = -1 from by decide]; omega), if_neg (by simp only [this, decide_false]; exact Bool.false_ne_true)]
theorem bar0 : ∀ v, v ≤ 99 → (nI v = (-1 : Int32) ↔ v = 1000) := fun v hv => ⟨fun e => absurd e (nI_m1 (by omega)), fun e => by omega⟩
theorem bar1 {b : Nat} (hb : b ≤ 99) : ∀ v, v ≤ 99 → (nI v = nI b ↔ v = b) := fun v hv => nI_eq (by omega) (by omega)
def DK (S : ST) (d : Mo) : Prop := S.2.1 3 0 = nI (d 0 0) ∧ S.2.1 3 1 = nI (d 1 0) ∧ S.2.1 3 2 = nI (d 2 0) ∧ (∀ s, s < d 1 0 → S.1 4 s = nI (d 3 s) ∧ S.1 5 s = nI (d 4 s) ∧ S.1 6 s = nI (d 5 s)) ∧ ∀ p, p < d 2 0 → S.1 7 p = nI (d 6 p) ∧ S.1 8 p = nI (d 7 p)
theorem DK.pl {S : ST} {d : Mo} (h : DK S d) (v : Int32) : DK (stJ S 1 1 v) d := by
  obtain ⟨h1, h2, h3, h4, h5⟩ := h
  exact ⟨by rw [stJ_n _ _ (by decide)]; exact h1, by rw [stJ_n _ _ (by decide)]; exact h2, by rw [stJ_n _ _ (by decide)]; exact h3, fun s hs => by rw [stJ_1]; exact h4 s hs, fun p hp => by rw [stJ_1]; exact h5 p hp⟩
def KP (S : ST) (T : Nat) (tx : Nat → Nat) (t : Nat) (d : Mo) : Prop := S.2.1 1 1 = nI t ∧ KX S T tx ∧ DK S d
theorem KP.to {S : ST} {T : Nat} {tx : Nat → Nat} {t : Nat} {d : Mo} (h : KP S T tx t d) (t' : Nat) : KP (stJ S 1 1 (nI t')) T tx t' d := ⟨stJ_s _ _ _ _, h.2.1.pl _, h.2.2.pl _⟩
def KR (S : ST) (T : Nat) (tx : Nat → Nat) (r : Option (Int32 × HL)) (q : Nat ⊕ (Nat × Mo)) : Prop :=
  match q with
  | .inl v => ∃ S', r = some (0, hp S') ∧ Fr 1 9 S S' ∧ KX S' T tx ∧ S'.2.1 1 1 = nI v
  | .inr x => ∃ S', r = some (1, hp S') ∧ Fr 1 9 S S' ∧ KP S' T tx x.1 x.2
theorem Fr_pl {S : ST} {v : Int32} : Fr 1 9 S (stJ S 1 1 v) := Fr.stJ (by omega) (by omega)
theorem k_Y (F : Nat) (hF : 4000 ≤ F) {S : ST} {T : Nat} {tx : Nat → Nat} (hT : T ≤ 120) (hx : ∀ j, j < T → tx j < 256) {t : Nat} (ht : t ≤ T) {d : Mo} (h : KP S T tx t d) : KR S T tx (fX6_readYards F (hp S) 1 3) (pY T tx t d) := by
  have kn := k_number F hF h.2.1 hT hx ht h.1 (lo := 2) (h := 9) (b := 1000) (by omega) (by omega) (H := 8) (bI := -1) (by decide) bar0
  unfold fX6_readYards pY
  rw [show (2 : Int32) = nI 2 from rfl]
  simp only [Option.bind_some, Nat.reduceAdd, ob5 kd_1, g5_0 kd_1, g5_1 kd_1, g5_2 kd_1, p5_1 kd_1, p5_2 kd_1, kn]
  have h1 := h.to (sk T tx t + dg T tx (sk T tx t))
  have h0 := h.to (sk T tx t)
  have hnv := nv_le (T := T) (tx := tx) (u := sk T tx t)
  cases okN T tx 2 9 1000 (sk T tx t) with
  | true =>
    simp only [if_true, Option.bind_some, Nat.reduceAdd, if_neg (nI_m1 (show nv T tx (sk T tx t) < 2 ^ 31 by omega)), ob6 kd_3, g6_0 kd_3, g6_1 kd_3, g6_2 kd_3, g6_3 kd_3, g6_4 kd_3, g6_5 kd_3, g6_6 kd_3, g6_7 kd_3, p6_0 kd_3, p6_1 kd_3, p6_2 kd_3]
    refine ⟨_, rfl, Fr.tr Fr_pl (Fr.stJ (by omega) (by omega)), ?_, ⟨?_, ?_⟩, ?_⟩
    · rw [stJ_n _ _ (by decide)]; exact h1.1
    · rw [stJ_n _ _ (by decide)]; exact h1.2.1.1
    · exact fun j hj => by rw [stJ_1]; exact h1.2.1.2 j hj
    · show DK _ (muS d 0 0 (nv T tx (sk T tx t)))
      obtain ⟨d1, d2, d3, d4, d5⟩ := h1.2.2
      have en : ∀ f s, f ≠ 0 → muS d 0 0 (nv T tx (sk T tx t)) f s = d f s := fun f s hf => muS_n _ (fun e => hf e.1)
      refine ⟨?_, ?_, ?_, ?_, ?_⟩
      · rw [stJ_s, muS_s]
      · rw [stJ_k _ _ (by decide), en 1 0 (by omega)]; exact d2
      · rw [stJ_k _ _ (by decide), en 2 0 (by omega)]; exact d3
      · intro s hs
        rw [en 1 0 (by omega)] at hs
        rw [stJ_1, en 3 s (by omega), en 4 s (by omega), en 5 s (by omega)]
        exact d4 s hs
      · intro p hp'
        rw [en 2 0 (by omega)] at hp'
        rw [stJ_1, en 6 p (by omega), en 7 p (by omega)]
        exact d5 p hp'
  | false =>
    simp only [Bool.false_eq_true, if_false, Option.bind_some, Nat.reduceAdd, if_true]
    exact ⟨_, rfl, Fr_pl, h0.2.1, h0.1⟩
theorem k_S (F : Nat) (hF : 4000 ≤ F) {S : ST} {T : Nat} {tx : Nat → Nat} (hT : T ≤ 120) (hx : ∀ j, j < T → tx j < 256) {t : Nat} (ht : t ≤ T) {d : Mo} (h : KP S T tx t d) (hd : DW d) (hn9 : d 1 0 < 9) : KR S T tx (fX6_readStreet F (hp S) 1 3) (pS T tx t d) := by
  have hY := hd.1
  have kn := k_number F hF h.2.1 hT hx ht h.1 (lo := 0) (h := d 0 0) (b := 1000) (by omega) (by omega) (H := nI (d 0 0) - 1) (bI := -1) rfl bar0
  unfold fX6_readStreet pS
  rw [show (0 : Int32) = nI 0 from rfl]
  simp only [Option.bind_some, Nat.reduceAdd, ob5 kd_1, g5_0 kd_1, g5_1 kd_1, g5_2 kd_1, p5_1 kd_1, p5_2 kd_1, ob6 kd_3, g6_0 kd_3, g6_1 kd_3, g6_2 kd_3, g6_3 kd_3, g6_4 kd_3, g6_5 kd_3, g6_6 kd_3, g6_7 kd_3, p6_0 kd_3, p6_1 kd_3, p6_2 kd_3, h.2.2.1, kn]
  have h1 := h.to (sk T tx t + dg T tx (sk T tx t))
  have h0 := h.to (sk T tx t)
  have hnv := nv_le (T := T) (tx := tx) (u := sk T tx t)
  have hs1 := sk_le (tx := tx) ht
  have hdg1 := dg_le (tx := tx) hs1
  cases hok : okN T tx 0 (d 0 0) 1000 (sk T tx t) with
  | false =>
    simp only [Bool.false_eq_true, if_false, Option.bind_some, Nat.reduceAdd, if_true]
    exact ⟨_, rfl, Fr_pl, h0.2.1, h0.1⟩
  | true =>
    have hok := of_decide_eq_true hok
    simp only [if_true, Option.bind_some, Nat.reduceAdd, if_neg (nI_m1 (show nv T tx (sk T tx t) < 2 ^ 31 by omega)), ob6 kd_3, g6_0 kd_3, g6_1 kd_3, g6_2 kd_3, g6_3 kd_3, g6_4 kd_3, g6_5 kd_3, g6_6 kd_3, g6_7 kd_3, p6_0 kd_3, p6_1 kd_3, p6_2 kd_3, h1.2.2.1]
    have kn2 := k_number F hF h1.2.1 hT hx hdg1 h1.1 (lo := 0) (h := d 0 0) (b := nv T tx (sk T tx t)) (by omega) (by omega) (H := nI (d 0 0) - 1) (bI := nI (nv T tx (sk T tx t))) rfl (bar1 (by omega))
    unfold pS2
    simp only [kn2, stJ_stJ]
    generalize sk T tx t + dg T tx (sk T tx t) = t1 at *
    generalize hA : nv T tx (sk T tx t) = A at *
    have hs2 := sk_le (tx := tx) hdg1
    have hdg2 := dg_le (tx := tx) hs2
    have h1' := h.to (sk T tx t1)
    have h2 := h.to (sk T tx t1 + dg T tx (sk T tx t1))
    have hnv2 := nv_le (T := T) (tx := tx) (u := sk T tx t1)
    cases hok2 : okN T tx 0 (d 0 0) A (sk T tx t1) with
    | false =>
      simp only [Bool.false_eq_true, if_false, Option.bind_some, Nat.reduceAdd, if_true]
      exact ⟨_, rfl, Fr_pl, h1'.2.1, h1'.1⟩
    | true =>
      have hok2 := of_decide_eq_true hok2
      simp only [if_true, Option.bind_some, Nat.reduceAdd, if_neg (nI_m1 (show nv T tx (sk T tx t1) < 2 ^ 31 by omega))]
      have kn3 := k_number F hF h2.2.1 hT hx hdg2 h2.1 (lo := 0) (h := 10) (b := 1000) (by omega) (by omega) (H := 9) (bI := -1) (by decide) bar0
      unfold pS3
      simp only [kn3, stJ_stJ]
      generalize sk T tx t1 + dg T tx (sk T tx t1) = t2 at *
      generalize hB : nv T tx (sk T tx t1) = B at *
      have h2' := h.to (sk T tx t2)
      have h3 := h.to (sk T tx t2 + dg T tx (sk T tx t2))
      have hnv3 := nv_le (T := T) (tx := tx) (u := sk T tx t2)
      cases hok3 : okN T tx 0 10 1000 (sk T tx t2) with
      | false =>
        simp only [Bool.false_eq_true, if_false, Option.bind_some, Nat.reduceAdd, if_true]
        exact ⟨_, rfl, Fr_pl, h2'.2.1, h2'.1⟩
      | true =>
        simp only [if_true, Option.bind_some, Nat.reduceAdd, if_neg (nI_m1 (show nv T tx (sk T tx t2) < 2 ^ 31 by omega)), ob6 kd_3, g6_0 kd_3, g6_1 kd_3, g6_2 kd_3, g6_3 kd_3, g6_4 kd_3, g6_5 kd_3, g6_6 kd_3, g6_7 kd_3, p6_0 kd_3, p6_1 kd_3, p6_2 kd_3, h3.2.2.2.1]
        generalize hO : nv T tx (sk T tx t2) = O at *
        generalize sk T tx t2 + dg T tx (sk T tx t2) = t3 at *
        have f3 : Fr 1 9 S (stJ S 1 1 (nI t3)) := Fr_pl
        generalize stJ S 1 1 (nI t3) = S3 at *
        rw [wa (by rfl) (by decide) (by rw [kd_4]; exact hn9)]
        simp only [Option.bind_some, Nat.reduceAdd, ob6 kd_3, g6_0 kd_3, g6_1 kd_3, g6_2 kd_3, g6_3 kd_3, g6_4 kd_3, g6_5 kd_3, g6_6 kd_3, g6_7 kd_3, p6_0 kd_3, p6_1 kd_3, p6_2 kd_3, stI_2, h3.2.2.2.1]
        rw [wa (by rfl) (by decide) (by rw [kd_5]; exact hn9)]
        simp only [Option.bind_some, Nat.reduceAdd, ob6 kd_3, g6_0 kd_3, g6_1 kd_3, g6_2 kd_3, g6_3 kd_3, g6_4 kd_3, g6_5 kd_3, g6_6 kd_3, g6_7 kd_3, p6_0 kd_3, p6_1 kd_3, p6_2 kd_3, stI_2, h3.2.2.2.1]
        rw [wa (by rfl) (by decide) (by rw [kd_6]; exact hn9)]
        simp only [Option.bind_some, Nat.reduceAdd, ob6 kd_3, g6_0 kd_3, g6_1 kd_3, g6_2 kd_3, g6_3 kd_3, g6_4 kd_3, g6_5 kd_3, g6_6 kd_3, g6_7 kd_3, p6_0 kd_3, p6_1 kd_3, p6_2 kd_3, stI_2, h3.2.2.2.1, nI_1]
        refine ⟨_, rfl, Fr.tr (Fr.tr (Fr.tr (Fr.tr f3 (Fr.stI (by omega) (by omega))) (Fr.stI (by omega) (by omega))) (Fr.stI (by omega) (by omega))) (Fr.stJ (by omega) (by omega)), ?_, ⟨?_, ?_⟩, ?_⟩
        · rw [stJ_n _ _ (by decide)]; exact h3.1
        · rw [stJ_n _ _ (by decide)]; exact h3.2.1.1
        · intro j hj
          rw [stJ_1, stI_n _ _ (by decide), stI_n _ _ (by decide), stI_n _ _ (by decide)]; exact h3.2.1.2 j hj
        · show DK _ (addS d A B O)
          obtain ⟨d1, d2, d3, d4, d5⟩ := h3.2.2
          refine ⟨?_, ?_, ?_, ?_, ?_⟩
          · rw [stJ_k _ _ (by decide)]; exact d1
          · exact stJ_s _ _ _ _
          · rw [stJ_k _ _ (by decide)]; exact d3
          · intro s hs
            have hs' : s < d 1 0 + 1 := hs
            have e3 : addS d A B O 3 s = if s = d 1 0 then A else d 3 s := by rw [addS_at]; simp
            have e4 : addS d A B O 4 s = if s = d 1 0 then B else d 4 s := by rw [addS_at]; simp
            have e5 : addS d A B O 5 s = if s = d 1 0 then O else d 5 s := by rw [addS_at]; simp
            rw [e3, e4, e5, stJ_1]
            refine ⟨?_, ?_, ?_⟩
            · rw [stI_n _ _ (by decide), stI_n _ _ (by decide), stI_s, upd_at]
              by_cases hsn : s = d 1 0
              · rw [if_pos hsn, if_pos hsn]
              · rw [if_neg hsn, if_neg hsn]; exact (d4 s (by omega)).1
            · rw [stI_n _ _ (by decide), stI_s, upd_at, stI_n _ _ (by decide)]
              by_cases hsn : s = d 1 0
              · rw [if_pos hsn, if_pos hsn]
              · rw [if_neg hsn, if_neg hsn]; exact (d4 s (by omega)).2.1
            · rw [stI_s, upd_at, stI_n _ _ (by decide), stI_n _ _ (by decide)]
              by_cases hsn : s = d 1 0
              · rw [if_pos hsn, if_pos hsn]
              · rw [if_neg hsn, if_neg hsn]; exact (d4 s (by omega)).2.2
          · intro p hp'
            rw [stJ_1, stI_n _ _ (by decide), stI_n _ _ (by decide), stI_n _ _ (by decide), stI_n _ _ (by decide), stI_n _ _ (by decide), stI_n _ _ (by decide)]
            exact d5 p hp'
theorem k_C (F : Nat) (hF : 4000 ≤ F) {S : ST} {T : Nat} {tx : Nat → Nat} (hT : T ≤ 120) (hx : ∀ j, j < T → tx j < 256) {t : Nat} (ht : t ≤ T) {d : Mo} (h : KP S T tx t d) (hd : DW d) (hn6 : d 2 0 < 6) : KR S T tx (fX6_readCitizen F (hp S) 1 3) (pC T tx t d) := by
  have hN := hd.2.1
  have kn := k_number F hF h.2.1 hT hx ht h.1 (lo := 0) (h := d 1 0) (b := 1000) (by omega) (by omega) (H := nI (d 1 0) - 1) (bI := -1) rfl bar0
  unfold fX6_readCitizen pC
  rw [show (0 : Int32) = nI 0 from rfl]
  simp only [Option.bind_some, Nat.reduceAdd, ob5 kd_1, g5_0 kd_1, g5_1 kd_1, g5_2 kd_1, p5_1 kd_1, p5_2 kd_1, ob6 kd_3, g6_0 kd_3, g6_1 kd_3, g6_2 kd_3, g6_3 kd_3, g6_4 kd_3, g6_5 kd_3, g6_6 kd_3, g6_7 kd_3, p6_0 kd_3, p6_1 kd_3, p6_2 kd_3, h.2.2.2.1, kn]
  have h1 := h.to (sk T tx t + dg T tx (sk T tx t))
  have h0 := h.to (sk T tx t)
  have hnv := nv_le (T := T) (tx := tx) (u := sk T tx t)
  have hs1 := sk_le (tx := tx) ht
  have hdg1 := dg_le (tx := tx) hs1
  cases hok : okN T tx 0 (d 1 0) 1000 (sk T tx t) with
  | false =>
    simp only [Bool.false_eq_true, if_false, Option.bind_some, Nat.reduceAdd, if_true]
    exact ⟨_, rfl, Fr_pl, h0.2.1, h0.1⟩
  | true =>
    have hok := of_decide_eq_true hok
    simp only [if_true, Option.bind_some, Nat.reduceAdd, if_neg (nI_m1 (show nv T tx (sk T tx t) < 2 ^ 31 by omega))]
    have kn2 := k_number F hF h1.2.1 hT hx hdg1 h1.1 (lo := 1) (h := 11) (b := 1000) (by omega) (by omega) (H := 10) (bI := -1) (by decide) bar0
    unfold pC2
    rw [show fX6_readNumber F (hp (stJ S 1 1 (nI (sk T tx t + dg T tx (sk T tx t))))) 1 1 10 (-1) = _ from kn2]
    simp only [stJ_stJ]
    generalize sk T tx t + dg T tx (sk T tx t) = t1 at *
    generalize hA : nv T tx (sk T tx t) = A at *
    have h1' := h.to (sk T tx t1)
    have h3 := h.to (sk T tx t1 + dg T tx (sk T tx t1))
    have hnv2 := nv_le (T := T) (tx := tx) (u := sk T tx t1)
    cases hok2 : okN T tx 1 11 1000 (sk T tx t1) with
    | false =>
      simp only [Bool.false_eq_true, if_false, Option.bind_some, Nat.reduceAdd, if_true]
      exact ⟨_, rfl, Fr_pl, h1'.2.1, h1'.1⟩
    | true =>
      simp only [if_true, Option.bind_some, Nat.reduceAdd, if_neg (nI_m1 (show nv T tx (sk T tx t1) < 2 ^ 31 by omega)), ob6 kd_3, g6_0 kd_3, g6_1 kd_3, g6_2 kd_3, g6_3 kd_3, g6_4 kd_3, g6_5 kd_3, g6_6 kd_3, g6_7 kd_3, p6_0 kd_3, p6_1 kd_3, p6_2 kd_3, h3.2.2.2.2.1]
      generalize hO : nv T tx (sk T tx t1) = O at *
      generalize sk T tx t1 + dg T tx (sk T tx t1) = t3 at *
      have f3 : Fr 1 9 S (stJ S 1 1 (nI t3)) := Fr_pl
      generalize stJ S 1 1 (nI t3) = S3 at *
      rw [wa (by rfl) (by decide) (by rw [kd_7]; exact hn6)]
      simp only [Option.bind_some, Nat.reduceAdd, ob6 kd_3, g6_0 kd_3, g6_1 kd_3, g6_2 kd_3, g6_3 kd_3, g6_4 kd_3, g6_5 kd_3, g6_6 kd_3, g6_7 kd_3, p6_0 kd_3, p6_1 kd_3, p6_2 kd_3, stI_2, h3.2.2.2.2.1]
      rw [wa (by rfl) (by decide) (by rw [kd_8]; exact hn6)]
      simp only [Option.bind_some, Nat.reduceAdd, ob6 kd_3, g6_0 kd_3, g6_1 kd_3, g6_2 kd_3, g6_3 kd_3, g6_4 kd_3, g6_5 kd_3, g6_6 kd_3, g6_7 kd_3, p6_0 kd_3, p6_1 kd_3, p6_2 kd_3, stI_2, h3.2.2.2.2.1, nI_1]
      refine ⟨_, rfl, Fr.tr (Fr.tr (Fr.tr f3 (Fr.stI (by omega) (by omega))) (Fr.stI (by omega) (by omega))) (Fr.stJ (by omega) (by omega)), ?_, ⟨?_, ?_⟩, ?_⟩
      · rw [stJ_n _ _ (by decide)]; exact h3.1
      · rw [stJ_n _ _ (by decide)]; exact h3.2.1.1
      · intro j hj
        rw [stJ_1, stI_n _ _ (by decide), stI_n _ _ (by decide)]; exact h3.2.1.2 j hj
      · show DK _ (addC d A O)
        obtain ⟨d1, d2, d3, d4, d5⟩ := h3.2.2
        refine ⟨?_, ?_, ?_, ?_, ?_⟩
        · rw [stJ_k _ _ (by decide)]; exact d1
        · rw [stJ_k _ _ (by decide)]; exact d2
        · exact stJ_s _ _ _ _
        · intro s hs
          rw [stJ_1, stI_n _ _ (by decide), stI_n _ _ (by decide), stI_n _ _ (by decide), stI_n _ _ (by decide), stI_n _ _ (by decide), stI_n _ _ (by decide)]
          exact d4 s hs
        · intro p hp'
          have hp2 : p < d 2 0 + 1 := hp'
          have e6 : addC d A O 6 p = if p = d 2 0 then A else d 6 p := by rw [addC_at]; simp
          have e7 : addC d A O 7 p = if p = d 2 0 then O else d 7 p := by rw [addC_at]; simp
          rw [e6, e7, stJ_1]
          refine ⟨?_, ?_⟩
          · rw [stI_n _ _ (by decide), stI_s, upd_at]
            by_cases hsn : p = d 2 0
            · rw [if_pos hsn, if_pos hsn]
            · rw [if_neg hsn, if_neg hsn]; exact (d5 p (by omega)).1
          · rw [stI_s, upd_at, stI_n _ _ (by decide)]
            by_cases hsn : p = d 2 0
            · rw [if_pos hsn, if_pos hsn]
            · rw [if_neg hsn, if_neg hsn]; exact (d5 p (by omega)).2

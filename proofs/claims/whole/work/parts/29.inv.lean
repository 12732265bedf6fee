/-! what holds between two calls -/
def KX (S : ST) (T : Nat) (tx : Nat → Nat) : Prop := S.2.1 1 2 = nI T ∧ ∀ j, j < T → S.1 2 j = nI (tx j)
def KF (S : ST) (f : Nat) (mw mn : Nat → Nat) : Prop := S.2.1 205 2 = nI f ∧ (∀ j, j < f → S.1 206 j = nI (mw j)) ∧ (∀ j, j < f → S.1 207 j = nI (mn j))
def KI (S : ST) (n c : Nat) (kp : Nat → Bool) (im : Nat → Mo) (ik : Nat → Nat) (ims : Nat → Nat → Mo) : Prop := S.2.1 0 5 = bs 2 kp ∧ S.2.2.2 72 0 = some 73 ∧ S.2.2.2 72 1 = some 130 ∧ (∃ pt, NowR S 73 pt) ∧ (∃ pt, NowR S 130 pt) ∧ (kp 0 = true → NowAt S n c 73 (im 0) (ik 0) (ims 0)) ∧ (kp 1 = true → NowAt S n c 130 (im 1) (ik 1) (ims 1))
def MX (S : ST) (T : Nat) (tx : Nat → Nat) : Prop := S.2.1 209 1 = nI T ∧ ∀ j, j < T → S.1 210 j = (nI (tx j)).toInt8.toInt32
def MF (S : ST) (f : Nat) (mw mn : Nat → Nat) : Prop := S.2.1 209 24 = nI f ∧ (∀ j, j < f → S.1 225 j = nI (mw j)) ∧ (∀ j, j < f → S.1 226 j = nI (mn j))
def MI (S : ST) (n c : Nat) (kp : Nat → Bool) (im : Nat → Mo) (ik : Nat → Nat) (ims : Nat → Nat → Mo) : Prop := (∀ i, i < 2 → S.1 223 i = if kp i then nI 1 else nI 0) ∧ ∀ i, i < 2 → kp i = true → MImg S n c i (im i) (ik i) (ims i)
/-- all numbers are as they may be -/
def WA (n c : Nat) (μ : Mo) (k : Nat) (ms : Nat → Mo) (T : Nat) (tx : Nat → Nat) (f : Nat) (mw mn : Nat → Nat) (kp : Nat → Bool) (im : Nat → Mo) (ik : Nat → Nat) (ims : Nat → Nat → Mo) : Prop :=
  WM n c μ ∧ (∀ i, i < k → WM n c (ms i)) ∧ (T ≤ 120 ∧ ∀ j, j < T → tx j < 256) ∧ (f ≤ 4 ∧ ∀ j, j < f → 1 ≤ mw j ∧ mw j ≤ 10 ∧ mn j ≤ 1) ∧ (∀ i, i < 2 → kp i = true → WM n c (im i) ∧ ∀ t, t < ik i → WM n c (ims i t))
def Inv (S : ST) : Prop := ∃ (Y n c : Nat) (on ot wa : Nat → Nat) (μ : Mo) (k : Nat) (ms : Nat → Mo) (T : Nat) (tx : Nat → Nat) (f : Nat) (mw mn : Nat → Nat) (kp : Nat → Bool) (im : Nat → Mo) (ik : Nat → Nat) (ims : Nat → Nat → Mo),
  TW Y n c on ot wa ∧ WA n c μ k ms T tx f mw mn kp im ik ims ∧ (KT S Y n c on ot wa ∧ NowAt S n c 15 μ k ms ∧ KX S T tx ∧ KF S f mw mn ∧ KI S n c kp im ik ims) ∧ (MT S Y n c on ot wa ∧ MNow S n c μ k ms ∧ MX S T tx ∧ MF S f mw mn ∧ MI S n c kp im ik ims) ∧ S.2.2.1 0 = S.2.2.1 209
def ag (S S' : ST) (a : Nat) : Prop := S'.1 a = S.1 a ∧ S'.2.1 a = S.2.1 a ∧ S'.2.2.1 a = S.2.2.1 a ∧ S'.2.2.2 a = S.2.2.2 a
theorem KT.fr {S S' : ST} {Y n c lo hi : Nat} {on ot wa : Nat → Nat} (h : KT S Y n c on ot wa) (hf : Fr lo hi S S') (hq : 15 ≤ lo ∨ hi ≤ 9) : KT S' Y n c on ot wa := by
  obtain ⟨h1, h2, h3, h4, h5, h6⟩ := h
  have a9 := hf 9 (by omega)
  have a10 := hf 10 (by omega)
  have a11 := hf 11 (by omega)
  have a14 := hf 14 (by omega)
  exact ⟨by rw [a9.2.1]; exact h1, by rw [a9.2.1]; exact h2, by rw [a9.2.1]; exact h3, fun s hs => by rw [a10.1]; exact h4 s hs, fun s hs => by rw [a11.1]; exact h5 s hs, fun s hs => by rw [a14.1]; exact h6 s hs⟩
theorem KX.fr {S S' : ST} {T lo hi : Nat} {tx : Nat → Nat} (h : KX S T tx) (hf : Fr lo hi S S') (hq : 3 ≤ lo ∨ hi ≤ 1) : KX S' T tx :=
  ⟨by rw [(hf 1 (by omega)).2.1]; exact h.1, fun j hj => by rw [(hf 2 (by omega)).1]; exact h.2 j hj⟩
theorem KF.fr {S S' : ST} {f lo hi : Nat} {mw mn : Nat → Nat} (h : KF S f mw mn) (hf : Fr lo hi S S') (hq : 208 ≤ lo ∨ hi ≤ 205) : KF S' f mw mn :=
  ⟨by rw [(hf 205 (by omega)).2.1]; exact h.1, fun j hj => by rw [(hf 206 (by omega)).1]; exact h.2.1 j hj, fun j hj => by rw [(hf 207 (by omega)).1]; exact h.2.2 j hj⟩
theorem NowR.fr {S S' : ST} {a lo hi : Nat} {pt : Nat → Nat} (h : NowR S a pt) (hf : Fr lo hi S S') (hq : a + 7 ≤ lo ∨ hi ≤ a + 6) : NowR S' a pt := ⟨h.1, fun i hi => by rw [(hf (a + 6) (by omega)).2.2.2]; exact h.2 i hi⟩
theorem KI.fr {S S' : ST} {n c lo hi : Nat} {kp : Nat → Bool} {im : Nat → Mo} {ik : Nat → Nat} {ims : Nat → Nat → Mo} (h : KI S n c kp im ik ims) (hf : Fr lo hi S S') (h0 : 1 ≤ lo) (hq : 187 ≤ lo ∨ hi ≤ 72) : KI S' n c kp im ik ims := by
  obtain ⟨h1, h2, h3, ⟨p1, h4⟩, ⟨p2, h5⟩, h6, h7⟩ := h
  exact ⟨by rw [(hf 0 (by omega)).2.1]; exact h1, by rw [(hf 72 (by omega)).2.2.2]; exact h2, by rw [(hf 72 (by omega)).2.2.2]; exact h3, ⟨p1, h4.fr hf (by omega)⟩, ⟨p2, h5.fr hf (by omega)⟩, fun h => (h6 h).fr hf (by omega), fun h => (h7 h).fr hf (by omega)⟩
theorem MT.fr {S S' : ST} {Y n c lo hi : Nat} {on ot wa : Nat → Nat} (h : MT S Y n c on ot wa) (hf : Fr lo hi S S') (hq : 219 ≤ lo ∨ hi ≤ 211) : MT S' Y n c on ot wa := by
  obtain ⟨h1, h2, h3, h4, h5, h6⟩ := h
  have a1 := hf 211 (by omega)
  have a2 := hf 212 (by omega)
  have a3 := hf 213 (by omega)
  have a4 := hf 214 (by omega)
  have a6 := hf 216 (by omega)
  have a8 := hf 218 (by omega)
  exact ⟨by rw [a1.1]; exact h1, by rw [a2.1]; exact h2, by rw [a6.1]; exact h3, fun s hs => by rw [a3.1]; exact h4 s hs, fun s hs => by rw [a4.1]; exact h5 s hs, fun s hs => by rw [a8.1]; exact h6 s hs⟩
theorem MMo.fr {S S' : ST} {n c a off lo hi : Nat} {μ : Mo} (h : MMo S n c a off μ) (hf : Fr lo hi S S') (hq : a < lo ∨ hi ≤ a) : MMo S' n c a off μ := by
  obtain ⟨h1, h2, h3, h4, h5⟩ := h
  have e := (hf a hq).1
  exact ⟨by rw [e]; exact h1, fun s hs => by rw [e]; exact h2 s hs, fun s hs => by rw [e]; exact h3 s hs, fun s hs => by rw [e]; exact h4 s hs, fun s hs => by rw [e]; exact h5 s hs⟩
theorem MNow.fr {S S' : ST} {n c k lo hi : Nat} {μ : Mo} {ms : Nat → Mo} (h : MNow S n c μ k ms) (hf : Fr lo hi S S') (hq : 222 ≤ lo ∨ hi ≤ 219) : MNow S' n c μ k ms := by
  obtain ⟨h1, h2, h3, h4⟩ := h
  exact ⟨MM_o.mpr ((MM_o.mp h1).fr hf (by omega)), by rw [(hf 220 (by omega)).1]; exact h2, h3, fun i hi => (h4 i hi).fr hf (by omega)⟩
theorem MX.fr {S S' : ST} {T lo hi : Nat} {tx : Nat → Nat} (h : MX S T tx) (hf : Fr lo hi S S') (hq : 211 ≤ lo ∨ hi ≤ 209) : MX S' T tx :=
  ⟨by rw [(hf 209 (by omega)).2.1]; exact h.1, fun j hj => by rw [(hf 210 (by omega)).1]; exact h.2 j hj⟩
theorem MF.fr {S S' : ST} {f lo hi : Nat} {mw mn : Nat → Nat} (h : MF S f mw mn) (hf : Fr lo hi S S') (hq : (210 ≤ lo ∧ hi ≤ 225) ∨ hi ≤ 209) : MF S' f mw mn :=
  ⟨by rw [(hf 209 (by omega)).2.1]; exact h.1, fun j hj => by rw [(hf 225 (by omega)).1]; exact h.2.1 j hj, fun j hj => by rw [(hf 226 (by omega)).1]; exact h.2.2 j hj⟩
theorem MI.fr {S S' : ST} {n c lo hi : Nat} {kp : Nat → Bool} {im : Nat → Mo} {ik : Nat → Nat} {ims : Nat → Nat → Mo} (h : MI S n c kp im ik ims) (hf : Fr lo hi S S') (hq : 224 ≤ lo ∨ hi ≤ 220) : MI S' n c kp im ik ims := by
  refine ⟨fun i hi => by rw [(hf 223 (by omega)).1]; exact h.1 i hi, fun i hi hk => ?_⟩
  obtain ⟨h1, h2, h3, h4⟩ := h.2 i hi hk
  exact ⟨h1.fr hf (by omega), by rw [(hf 220 (by omega)).1]; exact h2, h3, fun t ht => (h4 t ht).fr hf (by omega)⟩
/-- a class's call touches none of the reference's cells -/
theorem M_fr {S S' : ST} {Y n c k T f lo hi : Nat} {on ot wa : Nat → Nat} {μ : Mo} {ms : Nat → Mo} {tx mw mn : Nat → Nat} {kp : Nat → Bool} {im : Nat → Mo} {ik : Nat → Nat} {ims : Nat → Nat → Mo} (h : MT S Y n c on ot wa ∧ MNow S n c μ k ms ∧ MX S T tx ∧ MF S f mw mn ∧ MI S n c kp im ik ims) (hf : Fr lo hi S S') (hq : hi ≤ 209) : MT S' Y n c on ot wa ∧ MNow S' n c μ k ms ∧ MX S' T tx ∧ MF S' f mw mn ∧ MI S' n c kp im ik ims :=
  ⟨h.1.fr hf (by omega), h.2.1.fr hf (by omega), h.2.2.1.fr hf (by omega), h.2.2.2.1.fr hf (by omega), h.2.2.2.2.fr hf (by omega)⟩
/-- and the other way about -/
theorem K_fr {S S' : ST} {Y n c k T f lo hi : Nat} {on ot wa : Nat → Nat} {μ : Mo} {ms : Nat → Mo} {tx mw mn : Nat → Nat} {kp : Nat → Bool} {im : Nat → Mo} {ik : Nat → Nat} {ims : Nat → Nat → Mo} (h : KT S Y n c on ot wa ∧ NowAt S n c 15 μ k ms ∧ KX S T tx ∧ KF S f mw mn ∧ KI S n c kp im ik ims) (hf : Fr lo hi S S') (hq : 209 ≤ lo) : KT S' Y n c on ot wa ∧ NowAt S' n c 15 μ k ms ∧ KX S' T tx ∧ KF S' f mw mn ∧ KI S' n c kp im ik ims :=
  ⟨h.1.fr hf (by omega), h.2.1.fr hf (by omega), h.2.2.1.fr hf (by omega), h.2.2.2.1.fr hf (by omega), h.2.2.2.2.fr hf (by omega) (by omega)⟩
/-- what is to be shown of a call: both answer alike, and all holds behind it -/
def Ok {R : Type} (S : ST) (fk fm : HL → Option (R × HL)) : Prop := ∃ (r : R) (S1 S2 : ST), fk (hp S) = some (r, hp S1) ∧ fm (hp S1) = some (r, hp S2) ∧ Inv S2
/-- a number is in a row of n, or not -/
theorem rowc (x : Int32) {n : Nat} (hn : n < 2 ^ 30) : (∃ j, j < n ∧ x = nI j ∧ ((0 : Int32) ≤ x ∧ x ≤ nI n - 1)) ∨ ¬ ((0 : Int32) ≤ x ∧ x ≤ nI n - 1) := by
  by_cases h : (0 : Int32) ≤ x ∧ x ≤ nI n - 1
  · obtain ⟨j, h1, h2⟩ := (isIn x n hn).mp h
    exact Or.inl ⟨j, h1, h2, h⟩
  · exact Or.inr h
/-- a number is between two, or not -/
theorem rngc (x : Int32) (lo hi : Nat) (hl : lo < 2 ^ 31) (hh : hi < 2 ^ 31) : (∃ j, lo ≤ j ∧ j ≤ hi ∧ x = nI j ∧ (nI lo ≤ x ∧ x ≤ nI hi)) ∨ ¬ (nI lo ≤ x ∧ x ≤ nI hi) := by
  by_cases h : nI lo ≤ x ∧ x ≤ nI hi
  · obtain ⟨j, hj, rfl⟩ := nI_of (x := x) (by
      intro h0
      have h1 := h.1
      rw [Int32.le_iff_toInt_le, nI_toInt hl] at h1
      rw [Int32.lt_iff_toInt_lt] at h0
      have : (0 : Int32).toInt = 0 := rfl
      omega)
    exact Or.inl ⟨j, (nI_leI hl hj).mp h.1, (nI_leI hj hh).mp h.2, rfl, h⟩
  · exact Or.inr h
theorem e10 : ((1 : Int32) = 0) = False := by decide
theorem rng1_10 (x : Int32) : (∃ j, 1 ≤ j ∧ j ≤ 10 ∧ x = nI j ∧ ((1 : Int32) ≤ x ∧ x ≤ 10)) ∨ ¬ ((1 : Int32) ≤ x ∧ x ≤ 10) := rngc x 1 10 (by decide) (by decide)
theorem rng0_1 (x : Int32) : (∃ j, 0 ≤ j ∧ j ≤ 1 ∧ x = nI j ∧ ((0 : Int32) ≤ x ∧ x ≤ 1)) ∨ ¬ ((0 : Int32) ≤ x ∧ x ≤ 1) := rngc x 0 1 (by decide) (by decide)
theorem rng1_9 (x : Int32) : (∃ j, 1 ≤ j ∧ j ≤ 9 ∧ x = nI j ∧ ((1 : Int32) ≤ x ∧ x ≤ 9)) ∨ ¬ ((1 : Int32) ≤ x ∧ x ≤ 9) := rngc x 1 9 (by decide) (by decide)
theorem rng0_10 (x : Int32) : (∃ j, 0 ≤ j ∧ j ≤ 10 ∧ x = nI j ∧ ((0 : Int32) ≤ x ∧ x ≤ 10)) ∨ ¬ ((0 : Int32) ≤ x ∧ x ≤ 10) := rngc x 0 10 (by decide) (by decide)

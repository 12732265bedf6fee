/-! who is reached: the pure part -/
def anyN : Nat → (Nat → Bool) → Bool
  | 0, _ => false
  | k + 1, P => anyN k P || P k
theorem anyN_iff {k : Nat} {P : Nat → Bool} : anyN k P = true ↔ ∃ i, i < k ∧ P i = true := by
  induction k with
  | zero => simp [anyN]
  | succ k ih =>
    simp only [anyN, Bool.or_eq_true, ih]
    constructor
    · rintro (⟨i, h1, h2⟩ | h)
      · exact ⟨i, by omega, h2⟩
      · exact ⟨k, by omega, h⟩
    · rintro ⟨i, h1, h2⟩
      by_cases h : i = k
      · exact Or.inr (h ▸ h2)
      · exact Or.inl ⟨i, by omega, h2⟩
theorem anyN_congr {k : Nat} {P Q : Nat → Bool} (h : ∀ i, i < k → P i = Q i) : anyN k P = anyN k Q := by
  induction k with
  | zero => rfl
  | succ k ih => simp only [anyN]; rw [ih (fun i hi => h i (by omega)), h k (by omega)]
def stp (n : Nat) (on ot : Nat → Nat) (op R : Nat → Bool) : Nat → Bool := fun y => R y || anyN n (fun s => op s && ((R (on s) || R (ot s)) && en on ot s y))
def rch (n : Nat) (on ot : Nat → Nat) (op : Nat → Bool) (a : Nat) : Nat → Nat → Bool
  | 0 => fun y => y == a
  | t + 1 => stp n on ot op (rch n on ot op a t)
theorem stp_congr {n : Nat} {on ot : Nat → Nat} {op op' R R' : Nat → Bool} (hy : ∀ s, s < n → on s < 8 ∧ ot s < 8) (ho : ∀ s, s < n → op s = op' s) (hr : ∀ y, y < 8 → R y = R' y) : ∀ y, y < 8 → stp n on ot op R y = stp n on ot op' R' y := by
  intro y hy'
  unfold stp
  rw [hr y hy']
  congr 1
  apply anyN_congr
  intro s hs
  rw [ho s hs, hr _ (hy s hs).1, hr _ (hy s hs).2]
theorem rch_congr {n : Nat} {on ot : Nat → Nat} {op op' : Nat → Bool} (a : Nat) (ho : ∀ s, s < n → op s = op' s) (t : Nat) : rch n on ot op a t = rch n on ot op' a t := by
  induction t with
  | zero => rfl
  | succ t ih =>
    simp only [rch]
    rw [ih]
    funext y
    unfold stp
    congr 1
    apply anyN_congr
    intro s hs
    rw [ho s hs]
theorem stp_sub {n : Nat} {on ot : Nat → Nat} {op R : Nat → Bool} {y : Nat} (h : R y = true) : stp n on ot op R y = true := by
  unfold stp
  rw [h]
  rfl
theorem rch_mono {n : Nat} {on ot : Nat → Nat} {op : Nat → Bool} {a y t u : Nat} (h : rch n on ot op a t y = true) (hu : t ≤ u) : rch n on ot op a u y = true := by
  induction u with
  | zero =>
    have : t = 0 := by omega
    rw [this] at h
    exact h
  | succ u ih =>
    by_cases hk : t = u + 1
    · rw [← hk]; exact h
    · exact stp_sub (ih (by omega))
/-- once nothing new is reached, nothing is later -/
theorem rch_stable {n : Nat} {on ot : Nat → Nat} {op : Nat → Bool} {a t : Nat} (hy : ∀ s, s < n → on s < 8 ∧ ot s < 8) (h : ∀ y, y < 8 → rch n on ot op a (t + 1) y = rch n on ot op a t y) : ∀ u, t ≤ u → ∀ y, y < 8 → rch n on ot op a u y = rch n on ot op a t y := by
  intro u
  induction u with
  | zero =>
    intro hu y _
    have : t = 0 := by omega
    rw [this]
  | succ u ih =>
    intro hu y hy'
    by_cases hk : t = u + 1
    · rw [hk]
    · rw [← h y hy']
      exact stp_congr hy (fun _ _ => rfl) (ih (by omega)) y hy'
theorem cnt_mono {k : Nat} {P Q : Nat → Bool} (h : ∀ i, i < k → P i = true → Q i = true) : cnt k P ≤ cnt k Q := by
  induction k with
  | zero => exact Nat.le_refl _
  | succ k ih =>
    simp only [cnt]
    have := ih (fun i hi => h i (by omega))
    have h2 := h k (by omega)
    cases hp : P k
    · simp; omega
    · rw [h2 hp]; simp; omega
theorem cnt_grow {k : Nat} {P Q : Nat → Bool} (h : ∀ i, i < k → P i = true → Q i = true) (hne : ∃ i, i < k ∧ ¬ (Q i = P i)) : cnt k P + 1 ≤ cnt k Q := by
  induction k with
  | zero => obtain ⟨i, hi, _⟩ := hne; omega
  | succ k ih =>
    simp only [cnt]
    have h2 := h k (by omega)
    by_cases hk : Q k = P k
    · have := ih (fun i hi => h i (by omega)) (by
        obtain ⟨i, hi, hd⟩ := hne
        refine ⟨i, ?_, hd⟩
        by_cases hik : i = k
        · rw [hik] at hd; exact absurd hk hd
        · omega)
      rw [hk]
      omega
    · have := cnt_mono (k := k) (P := P) (Q := Q) (fun i hi => h i (by omega))
      cases hp : P k
      · cases hq : Q k
        · rw [hp, hq] at hk; exact absurd rfl hk
        · simp; omega
      · rw [hp, h2 hp] at hk; exact absurd rfl hk
/-- as long as something new is reached each time, the reached ones grow -/
theorem rch_count {n Y : Nat} {on ot : Nat → Nat} {op : Nat → Bool} {a : Nat} (ha : a < Y) (t : Nat) (h : ∀ u, u < t → ∃ y, y < Y ∧ ¬ rch n on ot op a (u + 1) y = rch n on ot op a u y) : t + 1 ≤ cnt Y (rch n on ot op a t) := by
  induction t with
  | zero =>
    have : cnt Y (fun y => y == a) = cnt Y (fun _ => false) + 1 := cnt_more ha rfl (by simp) (fun i _ hne => by simp [hne])
    show 1 ≤ cnt Y (fun y => y == a)
    omega
  | succ t ih =>
    have h1 := ih (fun u hu => h u (by omega))
    have h2 := cnt_grow (k := Y) (P := rch n on ot op a t) (Q := rch n on ot op a (t + 1)) (fun i _ hp => stp_sub hp) (h t (by omega))
    omega
theorem rch_in {n Y : Nat} {on ot : Nat → Nat} {op : Nat → Bool} {a : Nat} (ha : a < Y) (hY : ∀ s, s < n → on s < Y ∧ ot s < Y) (t : Nat) : ∀ y, rch n on ot op a t y = true → y < Y := by
  induction t with
  | zero =>
    intro y h
    have : y = a := by simpa [rch] using h
    omega
  | succ t ih =>
    intro y h
    have h' : (rch n on ot op a t y || anyN n (fun s => op s && ((rch n on ot op a t (on s) || rch n on ot op a t (ot s)) && en on ot s y))) = true := h
    rw [Bool.or_eq_true] at h'
    rcases h' with h' | h'
    · exact ih y h'
    · obtain ⟨s, hs, h2⟩ := anyN_iff.mp h'
      rw [Bool.and_eq_true, Bool.and_eq_true] at h2
      have h3 := h2.2.2
      unfold en at h3
      rw [Bool.or_eq_true] at h3
      have h4 := hY s hs
      rcases h3 with h3 | h3
      · have : y = on s := by simpa using h3
        omega
      · have : y = ot s := by simpa using h3
        omega
/-- who is first reached at time t is reached within as many streets as there are other yards -/
theorem rch_short {n Y : Nat} {on ot : Nat → Nat} {op : Nat → Bool} {a b t : Nat} (h8 : Y ≤ 8) (ha : a < Y) (hb : b < Y) (hY : ∀ s, s < n → on s < Y ∧ ot s < Y) (h1 : rch n on ot op a t b = true) (h2 : ∀ u, u < t → rch n on ot op a u b = false) : t + 1 ≤ Y := by
  have hy : ∀ s, s < n → on s < 8 ∧ ot s < 8 := fun s hs => by have := hY s hs; omega
  have := rch_count (n := n) (on := on) (ot := ot) (op := op) ha t (fun u hu => by
    rcases Classical.em (∃ y, y < Y ∧ ¬ rch n on ot op a (u + 1) y = rch n on ot op a u y) with h | h
    · exact h
    · exfalso
      have hs : ∀ y, y < 8 → rch n on ot op a (u + 1) y = rch n on ot op a u y := by
        intro y hy'
        by_cases hyY : y < Y
        · rcases Classical.em (rch n on ot op a (u + 1) y = rch n on ot op a u y) with h' | h'
          · exact h'
          · exact absurd ⟨y, hyY, h'⟩ h
        · have e1 : ∀ t, rch n on ot op a t y = false := fun t => by
            cases hr : rch n on ot op a t y
            · rfl
            · exact absurd (rch_in ha hY t y hr) hyY
          rw [e1, e1]
      have := rch_stable hy hs t (by omega) b (by omega)
      rw [h1, h2 u hu] at this
      cases this)
  have := cnt_le Y (rch n on ot op a t)
  omega
/-- comes one from a to b by the streets that are open? -/
def con (n : Nat) (on ot : Nat → Nat) (op : Nat → Bool) (a b : Nat) : Bool := rch n on ot op a 7 b
theorem rch_sat {n : Nat} {on ot : Nat → Nat} {op : Nat → Bool} {a : Nat} (ha : a < 8) (hy : ∀ s, s < n → on s < 8 ∧ ot s < 8) : ∀ y, y < 8 → rch n on ot op a 8 y = rch n on ot op a 7 y := by
  rcases Classical.em (∃ u, u < 8 ∧ ∀ y, y < 8 → rch n on ot op a (u + 1) y = rch n on ot op a u y) with ⟨u, hu, h⟩ | h
  · intro y hy'
    rw [rch_stable hy h 8 (by omega) y hy', rch_stable hy h 7 (by omega) y hy']
  · exfalso
    have := rch_count (Y := 8) (n := n) (on := on) (ot := ot) (op := op) ha 8 (fun u hu => by
      rcases Classical.em (∃ y, y < 8 ∧ ¬ rch n on ot op a (u + 1) y = rch n on ot op a u y) with h' | h'
      · exact h'
      · exfalso
        apply h
        refine ⟨u, hu, fun y hy' => ?_⟩
        rcases Classical.em (rch n on ot op a (u + 1) y = rch n on ot op a u y) with h'' | h''
        · exact h''
        · exact absurd ⟨y, hy', h''⟩ h')
    have := cnt_le 8 (rch n on ot op a 8)
    omega
/-- a side that no open street leaves -/
def clo (n : Nat) (on ot : Nat → Nat) (op X : Nat → Bool) : Prop := ∀ s, s < n → op s = true → X (on s) = X (ot s)
theorem rch_clo {n : Nat} {on ot : Nat → Nat} {op X : Nat → Bool} {a : Nat} (ha : X a = true) (hc : clo n on ot op X) (t : Nat) : ∀ y, rch n on ot op a t y = true → X y = true := by
  induction t with
  | zero =>
    intro y h
    have : y = a := by simpa [rch] using h
    rw [this]; exact ha
  | succ t ih =>
    intro y h
    have h' : (rch n on ot op a t y || anyN n (fun s => op s && ((rch n on ot op a t (on s) || rch n on ot op a t (ot s)) && en on ot s y))) = true := h
    rw [Bool.or_eq_true] at h'
    rcases h' with h' | h'
    · exact ih y h'
    · obtain ⟨s, hs, h2⟩ := anyN_iff.mp h'
      rw [Bool.and_eq_true, Bool.and_eq_true, Bool.or_eq_true] at h2
      obtain ⟨o1, o2, o3⟩ := h2
      have e := hc s hs o1
      have : X (on s) = true ∧ X (ot s) = true := by
        rcases o2 with o2 | o2
        · have := ih _ o2
          rw [← e]; exact ⟨this, this⟩
        · have := ih _ o2
          rw [e]; exact ⟨this, this⟩
      unfold en at o3
      rw [Bool.or_eq_true] at o3
      rcases o3 with o3 | o3
      · rw [show y = on s by simpa using o3]; exact this.1
      · rw [show y = ot s by simpa using o3]; exact this.2
theorem rch7_clo {n : Nat} {on ot : Nat → Nat} {op : Nat → Bool} {a : Nat} (ha : a < 8) (hy : ∀ s, s < n → on s < 8 ∧ ot s < 8) : clo n on ot op (rch n on ot op a 7) := by
  intro s hs ho
  have key : (rch n on ot op a 7 (on s) || rch n on ot op a 7 (ot s)) = true → rch n on ot op a 7 (on s) = true ∧ rch n on ot op a 7 (ot s) = true := by
    intro h
    have e1 : ∀ y, en on ot s y = true → rch n on ot op a 8 y = true := by
      intro y h3
      show (rch n on ot op a 7 y || anyN n (fun s => op s && ((rch n on ot op a 7 (on s) || rch n on ot op a 7 (ot s)) && en on ot s y))) = true
      rw [Bool.or_eq_true]
      refine Or.inr (anyN_iff.mpr ⟨s, hs, ?_⟩)
      rw [ho, h, h3]
      rfl
    have y1 := hy s hs
    rw [← rch_sat ha hy _ y1.1, ← rch_sat ha hy _ y1.2]
    exact ⟨e1 _ (by unfold en; simp), e1 _ (by unfold en; simp)⟩
  cases h1 : rch n on ot op a 7 (on s)
  · cases h2 : rch n on ot op a 7 (ot s)
    · rfl
    · rw [(key (by rw [h2]; simp)).1] at h1; cases h1
  · rw [(key (by rw [h1]; rfl)).2]
theorem rch_a {n : Nat} {on ot : Nat → Nat} {op : Nat → Bool} {a : Nat} (t : Nat) : rch n on ot op a t a = true := rch_mono (t := 0) (by simp [rch]) (by omega)
theorem con_iff {n : Nat} {on ot : Nat → Nat} {op : Nat → Bool} {a b : Nat} (ha : a < 8) (hy : ∀ s, s < n → on s < 8 ∧ ot s < 8) : con n on ot op a b = true ↔ ∀ X : Nat → Bool, X a = true → clo n on ot op X → X b = true := by
  constructor
  · intro h X h1 h2
    exact rch_clo h1 h2 7 b h
  · intro h
    exact h _ (rch_a 7) (rch7_clo ha hy)
/-- the first time at which b is reached, in both ways of counting -/
theorem way_two {n Y : Nat} {on ot : Nat → Nat} {op : Nat → Bool} {a b : Nat} (h8 : Y ≤ 8) (ha : a < Y) (hb : b < Y) (hab : a ≠ b) (hY : ∀ s, s < n → on s < Y ∧ ot s < Y) : (if ff (Y - 1) (fun i => rch n on ot op a (i + 1) b) < Y - 1 then nI (ff (Y - 1) (fun i => rch n on ot op a (i + 1) b) + 1) else -9) = ffI 8 (fun t => rch n on ot op a t b) := by
  obtain ⟨f1, f2, f3⟩ := ff_spec 8 (fun t => rch n on ot op a t b)
  unfold ffI
  generalize ff 8 (fun t => rch n on ot op a t b) = t at *
  have r0 : rch n on ot op a 0 b = false := by
    show (b == a) = false
    have : ¬ b = a := fun e => hab e.symm
    simp [this]
  by_cases ht : t < 8
  · have h1 := f3 ht
    have hs := rch_short h8 ha hb hY h1 (fun u hu => f2 u hu)
    have t0 : t ≠ 0 := by
      intro e
      rw [e] at h1
      rw [r0] at h1
      cases h1
    have : ff (Y - 1) (fun i => rch n on ot op a (i + 1) b) = t - 1 := ff_uniq (by omega) (fun j hj => f2 (j + 1) (by omega)) (fun _ => by
      show rch n on ot op a (t - 1 + 1) b = true
      rw [show t - 1 + 1 = t by omega]
      exact h1)
    rw [this, if_pos (by omega), if_pos ht, show t - 1 + 1 = t by omega]
  · have : ff (Y - 1) (fun i => rch n on ot op a (i + 1) b) = Y - 1 := ff_none (fun j hj => f2 (j + 1) (by omega))
    rw [this, if_neg (by omega), if_neg ht]
theorem nI_m9 {m : Nat} (h : m < 2 ^ 31) : ¬ nI m = -9 := by
  intro e
  have := nI_toInt h
  rw [e, show (-9 : Int32).toInt = -9 from by decide] at this
  omega
theorem ffI_con {n : Nat} {on ot : Nat → Nat} {op : Nat → Bool} {a b : Nat} : (ffI 8 (fun t => rch n on ot op a t b) = -9) ↔ con n on ot op a b = false := by
  obtain ⟨f1, f2, f3⟩ := ff_spec 8 (fun t => rch n on ot op a t b)
  unfold ffI con
  generalize ff 8 (fun t => rch n on ot op a t b) = t at *
  by_cases ht : t < 8
  · rw [if_pos ht]
    have := rch_mono (f3 ht) (show t ≤ 7 by omega)
    rw [this]
    simp [nI_m9 (show t < 2 ^ 31 by omega)]
  · rw [if_neg ht]
    simp [f2 7 (by omega)]
/-- a loop that looks downwards -/
def dn : Nat → (Nat → Bool) → Nat
  | 0, _ => 0
  | k + 1, P => if P (k + 1) then k + 1 else dn k P
theorem loopG {R : Type} (W : Nat → Nat → Option R) (n : Nat) (P : Nat → Bool) (out : Nat → Option R) (hx : ∀ k, W (k + 1) 0 = out 0) (hs : ∀ k i, i < n → W (k + 1) (i + 1) = if P (i + 1) then out (i + 1) else W k i) : ∀ k i, i ≤ n → i < k → W k i = out (dn i P) := by
  intro k
  induction k with
  | zero => intro i h1 h2; omega
  | succ k ih =>
    intro i h1 h2
    cases i with
    | zero => exact hx k
    | succ i =>
      rw [hs k i (by omega)]
      simp only [dn]
      split
      · rfl
      · exact ih i (by omega) (by omega)
theorem dn_le (k : Nat) (P : Nat → Bool) : dn k P ≤ k := by
  induction k with
  | zero => exact Nat.le_refl _
  | succ k ih => simp only [dn]; split <;> omega

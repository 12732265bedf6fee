/-! need: the pure part -/
def upN (f : Nat → Nat) (k v : Nat) : Nat → Nat := fun j => if j = k then v else f j
theorem upN_s (f : Nat → Nat) (k v : Nat) : upN f k v k = v := if_pos rfl
theorem upN_n (f : Nat → Nat) {k v j : Nat} (h : j ≠ k) : upN f k v j = f j := if_neg h
def gb (on ot : Nat → Nat) (s e : Nat) (pr : Nat → Nat) : Nat → Nat :=
  upN (upN pr (on s) (min (pr (on s)) (pr (ot s) + e))) (ot s) (min (pr (ot s)) (min (pr (on s)) (pr (ot s) + e) + e))
theorem gb_le (on ot : Nat → Nat) (s e : Nat) (pr : Nat → Nat) (y : Nat) : gb on ot s e pr y ≤ pr y := by
  unfold gb
  by_cases h1 : y = ot s
  · subst h1; rw [upN_s]; omega
  · rw [upN_n _ h1]
    by_cases h2 : y = on s
    · subst h2; rw [upN_s]; omega
    · rw [upN_n _ h2]; exact Nat.le_refl _
theorem gb_go {on ot : Nat → Nat} {s : Nat} (e : Nat) (pr : Nat → Nat) (h : on s ≠ ot s) : gb on ot s e pr (on s) ≤ pr (ot s) + e ∧ gb on ot s e pr (ot s) ≤ pr (on s) + e := by
  unfold gb
  rw [upN_s, upN_n _ h, upN_s]
  omega
def rlx (on ot : Nat → Nat) (e : Nat → Nat) (pr : Nat → Nat) : Nat → Nat → Nat
  | 0 => pr
  | k + 1 => gb on ot k (e k) (rlx on ot e pr k)
theorem rlx_le (on ot : Nat → Nat) (e pr : Nat → Nat) (k y : Nat) : rlx on ot e pr k y ≤ pr y := by
  induction k with
  | zero => exact Nat.le_refl _
  | succ k ih => exact Nat.le_trans (gb_le _ _ _ _ _ _) ih
theorem rlx_go {on ot : Nat → Nat} {e pr : Nat → Nat} {n k s : Nat} (hk : k ≤ n) (hs : s < k) (h : ∀ s, s < n → on s ≠ ot s) : rlx on ot e pr k (on s) ≤ pr (ot s) + e s ∧ rlx on ot e pr k (ot s) ≤ pr (on s) + e s := by
  induction k with
  | zero => omega
  | succ k ih =>
    by_cases hsk : s = k
    · subst hsk
      have := gb_go (e s) (rlx on ot e pr s) (h s (by omega))
      have h1 := rlx_le on ot e pr s (on s)
      have h2 := rlx_le on ot e pr s (ot s)
      show gb on ot s (e s) (rlx on ot e pr s) (on s) ≤ _ ∧ gb on ot s (e s) (rlx on ot e pr s) (ot s) ≤ _
      omega
    · have := ih (by omega) (by omega)
      have h1 := gb_le on ot k (e k) (rlx on ot e pr k) (on s)
      have h2 := gb_le on ot k (e k) (rlx on ot e pr k) (ot s)
      show gb on ot k (e k) (rlx on ot e pr k) (on s) ≤ _ ∧ gb on ot k (e k) (rlx on ot e pr k) (ot s) ≤ _
      omega
def pr0 (a : Nat) : Nat → Nat := upN (fun _ => FR) a 0
def rds (n : Nat) (on ot e : Nat → Nat) (a : Nat) : Nat → Nat → Nat
  | 0 => pr0 a
  | t + 1 => rlx on ot e (rds n on ot e a t) n
theorem rds_mono {n : Nat} {on ot e : Nat → Nat} {a t : Nat} (y : Nat) : rds n on ot e a (t + 1) y ≤ rds n on ot e a t y := rlx_le _ _ _ _ _ _
theorem sset_plus {n s : Nat} {D E : Nat → Bool} (f : Nat → Nat) (hs : s < n) (h : ∀ t, t < n → D t = true → E t = true) (hd : D s = false) (he : E s = true) : sset n D f + f s ≤ sset n E f := by
  unfold sset
  induction n with
  | zero => omega
  | succ n ih =>
    simp only [sumN]
    by_cases hsn : s = n
    · subst hsn
      rw [hd, he]
      have := sumN_mono (k := s) (f := fun s => if D s then f s else 0) (g := fun s => if E s then f s else 0) (fun t ht => by
        cases hd : D t
        · simp
        · rw [h t (by omega) hd]; simp)
      simp
      omega
    · have h1 := ih (by omega) (fun t ht => h t (by omega))
      have h2 : (if D n then f n else 0) ≤ (if E n then f n else 0) := by
        cases hd : D n
        · simp
        · rw [h n (by omega) hd]; simp
      omega
theorem sset_one {n s : Nat} (D : Nat → Bool) (f : Nat → Nat) (hs : s < n) : sset n (fun t => D t || t == s) f ≤ sset n D f + f s := by
  show sumN n (fun t => if (D t || t == s) then f t else 0) ≤ sumN n (fun t => if D t then f t else 0) + f s
  induction n with
  | zero => omega
  | succ n ih =>
    simp only [sumN]
    by_cases hsn : s = n
    · subst hsn
      have := sumN_congr (k := s) (f := fun t => if (D t || t == s) then f t else 0) (g := fun t => if D t then f t else 0) (fun t ht => by
        have : ¬ t = s := by omega
        simp [this])
      have e : (if (D s || s == s) = true then f s else 0) = f s := by simp
      omega
    · have h1 := ih (by omega)
      have : ¬ n = s := fun e => hsn e.symm
      have h2 : (if (D n || n == s) then f n else 0) = (if D n then f n else 0) := by simp [this]
      omega
def ek (op : Nat → Bool) (s : Nat) : Nat := if op s then 0 else kw (fun _ => 0) s
/-- what a round finds is no more than what a set of streets costs that leads there -/
theorem price_le {n Y : Nat} {on ot : Nat → Nat} {op D : Nat → Bool} {a : Nat} (hne : ∀ s, s < n → on s ≠ ot s) (t : Nat) : ∀ y, rch n on ot (fun s => op s || D s) a t y = true → rds n on ot (ek op) a t y ≤ sset n (fun s => (D s && !op s) && (rch n on ot (fun s => op s || D s) a t (on s) && rch n on ot (fun s => op s || D s) a t (ot s))) (kw (fun _ => 0)) := by
  induction t with
  | zero =>
    intro y h
    have : y = a := by simpa [rch] using h
    subst this
    show pr0 y y ≤ _
    unfold pr0
    rw [upN_s]
    exact Nat.zero_le _
  | succ t ih =>
    intro y h
    have up : ∀ y, rch n on ot (fun s => op s || D s) a t y = true → rch n on ot (fun s => op s || D s) a (t + 1) y = true := fun y hy => rch_mono hy (by omega)
    by_cases hy : rch n on ot (fun s => op s || D s) a t y = true
    · refine Nat.le_trans (rds_mono y) (Nat.le_trans (ih y hy) (sset_mono _ (fun s hs hd => ?_)))
      rw [Bool.and_eq_true, Bool.and_eq_true] at hd ⊢
      rw [Bool.and_eq_true] at hd ⊢
      exact ⟨hd.1, up _ hd.2.1, up _ hd.2.2⟩
    · have h' : (rch n on ot (fun s => op s || D s) a t y || anyN n (fun s => (op s || D s) && ((rch n on ot (fun s => op s || D s) a t (on s) || rch n on ot (fun s => op s || D s) a t (ot s)) && en on ot s y))) = true := h
      rw [Bool.or_eq_true] at h'
      rcases h' with h' | h'
      · exact absurd h' hy
      · obtain ⟨s, hs, h2⟩ := anyN_iff.mp h'
        rw [Bool.and_eq_true, Bool.and_eq_true, Bool.or_eq_true (rch n on ot (fun s => op s || D s) a t (on s))] at h2
        obtain ⟨o1, o2, o3⟩ := h2
        have go := rlx_go (e := ek op) (pr := rds n on ot (ek op) a t) (Nat.le_refl n) hs hne
        have key : ∃ x z, rch n on ot (fun s => op s || D s) a t x = true ∧ rds n on ot (ek op) a (t + 1) y ≤ rds n on ot (ek op) a t x + ek op s ∧ ((on s = x ∧ ot s = y) ∨ (on s = y ∧ ot s = x)) ∧ z = 0 := by
          unfold en at o3
          rw [Bool.or_eq_true] at o3
          rcases o3 with o3 | o3
          · have e : y = on s := by simpa using o3
            rw [e] at hy
            refine ⟨ot s, 0, ?_, ?_, Or.inr ⟨e.symm, rfl⟩, rfl⟩
            · rcases o2 with o2 | o2
              · exact absurd o2 hy
              · exact o2
            · rw [e]; exact go.1
          · have e : y = ot s := by simpa using o3
            rw [e] at hy
            refine ⟨on s, 0, ?_, ?_, Or.inl ⟨rfl, e.symm⟩, rfl⟩
            · rcases o2 with o2 | o2
              · exact o2
              · exact absurd o2 hy
            · rw [e]; exact go.2
        obtain ⟨x, _, hx, hle, hxy, _⟩ := key
        have h1 := ih x hx
        refine Nat.le_trans hle ?_
        have hmono : sset n (fun s => (D s && !op s) && (rch n on ot (fun s => op s || D s) a t (on s) && rch n on ot (fun s => op s || D s) a t (ot s))) (kw (fun _ => 0)) ≤ sset n (fun s => (D s && !op s) && (rch n on ot (fun s => op s || D s) a (t + 1) (on s) && rch n on ot (fun s => op s || D s) a (t + 1) (ot s))) (kw (fun _ => 0)) := sset_mono _ (fun s hs hd => by
          rw [Bool.and_eq_true, Bool.and_eq_true] at hd ⊢
          rw [Bool.and_eq_true] at hd ⊢
          exact ⟨hd.1, up _ hd.2.1, up _ hd.2.2⟩)
        unfold ek at *
        cases ho : op s with
        | true => rw [if_pos rfl]; omega
        | false =>
          rw [if_neg (by simp)]
          have hD : D s = true := by simpa [ho] using o1
          have hboth : rch n on ot (fun s => op s || D s) a (t + 1) (on s) = true ∧ rch n on ot (fun s => op s || D s) a (t + 1) (ot s) = true := by
            rcases hxy with ⟨e1, e2⟩ | ⟨e1, e2⟩
            · rw [e1, e2]; exact ⟨up _ hx, h⟩
            · rw [e1, e2]; exact ⟨h, up _ hx⟩
          have hnot : (rch n on ot (fun s => op s || D s) a t (on s) && rch n on ot (fun s => op s || D s) a t (ot s)) = false := by
            rw [Bool.not_eq_true] at hy
            rcases hxy with ⟨e1, e2⟩ | ⟨e1, e2⟩
            · rw [e1, e2, hy]; simp
            · rw [e1, e2, hy]; simp
          have := sset_plus (kw (fun _ => 0)) hs (D := fun s => (D s && !op s) && (rch n on ot (fun s => op s || D s) a t (on s) && rch n on ot (fun s => op s || D s) a t (ot s))) (E := fun s => (D s && !op s) && (rch n on ot (fun s => op s || D s) a (t + 1) (on s) && rch n on ot (fun s => op s || D s) a (t + 1) (ot s))) (fun s hs hd => by
            rw [Bool.and_eq_true, Bool.and_eq_true] at hd ⊢
            rw [Bool.and_eq_true] at hd ⊢
            exact ⟨hd.1, up _ hd.2.1, up _ hd.2.2⟩) (by rw [hnot]; simp) (by rw [hboth.1, hboth.2, hD, ho]; rfl)
          omega
/-- and it is what some set costs -/
def Jp (n : Nat) (on ot : Nat → Nat) (op : Nat → Bool) (a : Nat) (pr : Nat → Nat) : Prop := ∀ y, pr y ≤ FR ∧ (pr y = FR ∨ ∃ D : Nat → Bool, con n on ot (fun s => op s || D s) a y = true ∧ sset n D (kw (fun _ => 0)) ≤ pr y)
theorem con_more {n : Nat} {on ot : Nat → Nat} {op op' : Nat → Bool} {a x y s : Nat} (ha : a < 8) (hy : ∀ s, s < n → on s < 8 ∧ ot s < 8) (hs : s < n) (hxy : (on s = x ∧ ot s = y) ∨ (on s = y ∧ ot s = x)) (hc : con n on ot op a x = true) (h : ∀ t, t < n → op t = true → op' t = true) (ho : op' s = true) : con n on ot op' a y = true := by
  rw [con_iff ha hy] at hc ⊢
  intro X h1 h2
  have e := hc X h1 (fun t ht hot => h2 t ht (h t ht hot))
  have e2 := h2 s hs ho
  rcases hxy with ⟨p, q⟩ | ⟨p, q⟩
  · rw [p, q, e] at e2; exact e2.symm
  · rw [p, q, e] at e2; exact e2
theorem Jp_step {n : Nat} {on ot : Nat → Nat} {op : Nat → Bool} {a x y s : Nat} {pr : Nat → Nat} (ha : a < 8) (hy : ∀ s, s < n → on s < 8 ∧ ot s < 8) (hs : s < n) (hJ : Jp n on ot op a pr) (hxy : (on s = x ∧ ot s = y) ∨ (on s = y ∧ ot s = x)) : Jp n on ot op a (upN pr y (min (pr y) (pr x + ek op s))) := by
  intro z
  by_cases hz : z = y
  · subst hz
    rw [upN_s]
    have h1 := hJ z
    have h2 := hJ x
    by_cases hm : pr z ≤ pr x + ek op s
    · rw [Nat.min_eq_left hm]; exact h1
    · rw [Nat.min_eq_right (by omega)]
      refine ⟨by omega, Or.inr ?_⟩
      rcases h2.2 with h2' | ⟨D, c1, c2⟩
      · omega
      · cases ho : op s with
        | true =>
          have e0 : ek op s = 0 := by unfold ek; rw [if_pos ho]
          refine ⟨D, con_more ha hy hs hxy c1 (fun t _ hot => hot) (by simp [ho]), by omega⟩
        | false =>
          have e0 : ek op s = kw (fun _ => 0) s := by unfold ek; rw [if_neg (by simp [ho])]
          refine ⟨fun t => D t || t == s, ?_, ?_⟩
          · exact con_more ha hy hs hxy c1 (fun t ht hot => by
              rw [Bool.or_eq_true] at hot
              rcases hot with hot | hot <;> simp [hot]) (by simp)
          · have := sset_one D (kw (fun _ => 0)) hs
            omega
  · rw [upN_n _ hz]; exact hJ z
theorem Jp_gb {n : Nat} {on ot : Nat → Nat} {op : Nat → Bool} {a s : Nat} {pr : Nat → Nat} (ha : a < 8) (hy : ∀ s, s < n → on s < 8 ∧ ot s < 8) (hne : ∀ s, s < n → on s ≠ ot s) (hs : s < n) (hJ : Jp n on ot op a pr) : Jp n on ot op a (gb on ot s (ek op s) pr) := by
  have h1 := Jp_step ha hy hs hJ (x := ot s) (y := on s) (Or.inr ⟨rfl, rfl⟩)
  have h2 := Jp_step ha hy hs h1 (x := on s) (y := ot s) (Or.inl ⟨rfl, rfl⟩)
  rw [upN_s, upN_n _ (fun e => hne s hs e.symm)] at h2
  exact h2
theorem Jp_rlx {n : Nat} {on ot : Nat → Nat} {op : Nat → Bool} {a : Nat} {pr : Nat → Nat} (ha : a < 8) (hy : ∀ s, s < n → on s < 8 ∧ ot s < 8) (hne : ∀ s, s < n → on s ≠ ot s) (hJ : Jp n on ot op a pr) : ∀ k, k ≤ n → Jp n on ot op a (rlx on ot (ek op) pr k) := by
  intro k
  induction k with
  | zero => intro _; exact hJ
  | succ k ih => intro hk; exact Jp_gb ha hy hne (by omega) (ih (by omega))
theorem Jp_rds {n : Nat} {on ot : Nat → Nat} {op : Nat → Bool} {a : Nat} (ha : a < 8) (hy : ∀ s, s < n → on s < 8 ∧ ot s < 8) (hne : ∀ s, s < n → on s ≠ ot s) (t : Nat) : Jp n on ot op a (rds n on ot (ek op) a t) := by
  induction t with
  | zero =>
    intro y
    show pr0 a y ≤ FR ∧ (pr0 a y = FR ∨ _)
    unfold pr0
    by_cases h : y = a
    · subst h
      rw [upN_s]
      refine ⟨Nat.zero_le _, Or.inr ⟨fun _ => false, rch_a 7, ?_⟩⟩
      have : sset n (fun _ => false) (kw (fun _ => 0)) = 0 := by
        unfold sset
        induction n with
        | zero => rfl
        | succ n ih => simp only [sumN]; rw [ih (fun s hs => hy s (by omega)) (fun s hs => hne s (by omega))]; rfl
      omega
    · rw [upN_n _ h]
      exact ⟨Nat.le_refl _, Or.inl rfl⟩
  | succ t ih => exact Jp_rlx ha hy hne ih n (Nat.le_refl n)
/-- the price of b behind all rounds is the least key of a set that leads there -/
theorem need_two {n Y : Nat} {on ot : Nat → Nat} {op : Nat → Bool} {a b : Nat} (hn : n ≤ 9) (h8 : Y ≤ 8) (ha : a < Y) (hb : b < Y) (hY : ∀ s, s < n → on s < Y ∧ ot s < Y) (hne : ∀ s, s < n → on s ≠ ot s) : rds n on ot (ek op) a (Y - 1) b = mnN (2 ^ n) (fun m => if con n on ot (fun s => op s || m.testBit s) a b then sset n (fun s => m.testBit s) (kw (fun _ => 0)) else FR) := by
  have hy : ∀ s, s < n → on s < 8 ∧ ot s < 8 := fun s hs => by have := hY s hs; omega
  have hJ := Jp_rds (op := op) (a := a) (by omega) hy hne (Y - 1) b
  apply Nat.le_antisymm
  · apply mnN_ge hJ.1
    intro m hm
    cases hc : con n on ot (fun s => op s || m.testBit s) a b with
    | false => rw [if_neg (by simp)]; exact hJ.1
    | true =>
      rw [if_pos rfl]
      have h1 : rch n on ot (fun s => op s || m.testBit s) a (Y - 1) b = true := by
        obtain ⟨t, ⟨t1, _⟩, t2⟩ := pk_least (fun t => rch n on ot (fun s => op s || m.testBit s) a t b = true ∧ True) ⟨7, hc, trivial⟩
        have := rch_short h8 ha hb hY t1 (fun u hu => by
          cases hr : rch n on ot (fun s => op s || m.testBit s) a u b
          · rfl
          · exact absurd ⟨hr, trivial⟩ (t2 u hu))
        exact rch_mono t1 (by omega)
      refine Nat.le_trans (price_le (Y := Y) (D := fun s => m.testBit s) hne (Y - 1) b h1) (sset_mono _ (fun s hs hd => ?_))
      rw [Bool.and_eq_true, Bool.and_eq_true] at hd
      exact hd.1.1
  · rcases hJ.2 with h | ⟨D, c1, c2⟩
    · rw [h]; exact mnN_le0 _ _
    · refine Nat.le_trans (mnN_le (bsum_lt n D)) ?_
      have e : con n on ot (fun s => op s || (bsum n D).testBit s) a b = true := by
        rw [← c1]
        apply con_congr
        intro s hs
        rw [bsum_bit]
        simp [hs]
      rw [e, if_pos rfl]
      refine Nat.le_trans (Nat.le_of_eq ?_) c2
      apply sset_congr
      intro s hs
      rw [bsum_bit]
      simp [hs]

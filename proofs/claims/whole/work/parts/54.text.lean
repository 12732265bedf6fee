/-! a text and its tokens: the pure part -/
def run (T : Nat) (tx : Nat → Nat) (P : Nat → Bool) (t : Nat) : Nat := ff (T - t) (fun i => !P (tx (t + i)))
theorem run_spec (T : Nat) (tx : Nat → Nat) (P : Nat → Bool) (t : Nat) : run T tx P t ≤ T - t ∧ (∀ i, i < run T tx P t → P (tx (t + i)) = true) ∧ (run T tx P t < T - t → P (tx (t + run T tx P t)) = false) := by
  obtain ⟨h1, h2, h3⟩ := ff_spec (T - t) (fun i => !P (tx (t + i)))
  refine ⟨h1, fun i hi => by simpa using h2 i hi, fun h => ?_⟩
  have := h3 h
  rw [Bool.not_eq_true'] at this
  exact this
def dgb (b : Nat) : Bool := decide (48 ≤ b ∧ b ≤ 57)
def ltb (b : Nat) : Bool := decide (97 ≤ b ∧ b ≤ 122)
def sk (T : Nat) (tx : Nat → Nat) (t : Nat) : Nat := t + run T tx (fun b => b == 32) t
def dg (T : Nat) (tx : Nat → Nat) (u : Nat) : Nat := run T tx dgb u
def lt (T : Nat) (tx : Nat → Nat) (u : Nat) : Nat := run T tx ltb u
def nv (T : Nat) (tx : Nat → Nat) (u : Nat) : Nat := if dg T tx u = 1 then tx u - 48 else if dg T tx u = 2 ∧ tx u ≠ 48 then 10 * (tx u - 48) + (tx (u + 1) - 48) else 999
theorem sk_ge (T : Nat) (tx : Nat → Nat) (t : Nat) : t ≤ sk T tx t := Nat.le_add_right _ _
theorem sk_le {T : Nat} {tx : Nat → Nat} {t : Nat} (h : t ≤ T) : sk T tx t ≤ T := by
  have := (run_spec T tx (fun b => b == 32) t).1
  unfold sk
  omega
theorem dg_le {T : Nat} {tx : Nat → Nat} {u : Nat} (h : u ≤ T) : u + dg T tx u ≤ T := by
  have := (run_spec T tx dgb u).1
  unfold dg
  omega
theorem dg_digit {T : Nat} {tx : Nat → Nat} {u i : Nat} (h : i < dg T tx u) : 48 ≤ tx (u + i) ∧ tx (u + i) ≤ 57 := of_decide_eq_true ((run_spec T tx dgb u).2.1 i h)
theorem nv_le {T : Nat} {tx : Nat → Nat} {u : Nat} : nv T tx u ≤ 99 ∨ nv T tx u = 999 := by
  unfold nv
  by_cases h1 : dg T tx u = 1
  · rw [if_pos h1]
    have := dg_digit (T := T) (tx := tx) (u := u) (i := 0) (by omega)
    rw [Nat.add_zero] at this
    omega
  · rw [if_neg h1]
    by_cases h2 : dg T tx u = 2 ∧ tx u ≠ 48
    · rw [if_pos h2]
      have a := dg_digit (T := T) (tx := tx) (u := u) (i := 0) (by omega)
      have b := dg_digit (T := T) (tx := tx) (u := u) (i := 1) (by omega)
      rw [Nat.add_zero] at a
      omega
    · rw [if_neg h2]; exact Or.inr rfl
/-- a number that may stand there: from lo on, below h, not b -/
def okN (T : Nat) (tx : Nat → Nat) (lo h b u : Nat) : Bool := decide (lo ≤ nv T tx u ∧ nv T tx u < h ∧ nv T tx u ≠ b)
def addS (d : Mo) (a b o : Nat) : Mo := muS (muS (muS (muS d 3 (d 1 0) a) 4 (d 1 0) b) 5 (d 1 0) o) 1 0 (d 1 0 + 1)
def addC (d : Mo) (h w : Nat) : Mo := muS (muS (muS d 6 (d 2 0) h) 7 (d 2 0) w) 2 0 (d 2 0 + 1)
/-- one item behind its letter: a fault's place, or how it goes on -/
def pY (T : Nat) (tx : Nat → Nat) (t : Nat) (d : Mo) : Nat ⊕ (Nat × Mo) :=
  if okN T tx 2 9 1000 (sk T tx t) then .inr (sk T tx t + dg T tx (sk T tx t), muS d 0 0 (nv T tx (sk T tx t))) else .inl (sk T tx t)
def pS3 (T : Nat) (tx : Nat → Nat) (a b t : Nat) (d : Mo) : Nat ⊕ (Nat × Mo) :=
  if okN T tx 0 10 1000 (sk T tx t) then .inr (sk T tx t + dg T tx (sk T tx t), addS d a b (nv T tx (sk T tx t))) else .inl (sk T tx t)
def pS2 (T : Nat) (tx : Nat → Nat) (a t : Nat) (d : Mo) : Nat ⊕ (Nat × Mo) :=
  if okN T tx 0 (d 0 0) a (sk T tx t) then pS3 T tx a (nv T tx (sk T tx t)) (sk T tx t + dg T tx (sk T tx t)) d else .inl (sk T tx t)
def pS (T : Nat) (tx : Nat → Nat) (t : Nat) (d : Mo) : Nat ⊕ (Nat × Mo) :=
  if okN T tx 0 (d 0 0) 1000 (sk T tx t) then pS2 T tx (nv T tx (sk T tx t)) (sk T tx t + dg T tx (sk T tx t)) d else .inl (sk T tx t)
def pC2 (T : Nat) (tx : Nat → Nat) (h t : Nat) (d : Mo) : Nat ⊕ (Nat × Mo) :=
  if okN T tx 1 11 1000 (sk T tx t) then .inr (sk T tx t + dg T tx (sk T tx t), addC d h (nv T tx (sk T tx t))) else .inl (sk T tx t)
def pC (T : Nat) (tx : Nat → Nat) (t : Nat) (d : Mo) : Nat ⊕ (Nat × Mo) :=
  if okN T tx 0 (d 1 0) 1000 (sk T tx t) then pC2 T tx (nv T tx (sk T tx t)) (sk T tx t + dg T tx (sk T tx t)) d else .inl (sk T tx t)
def lone (T : Nat) (tx : Nat → Nat) (u m : Nat) : Bool := decide (u < T ∧ tx u = m) && !(decide (u + 1 < T) && ltb (tx (u + 1)))
def pI (T : Nat) (tx : Nat → Nat) (first : Bool) (u : Nat) (d : Mo) : Nat ⊕ (Nat × Mo) :=
  if lone T tx u 121 && first then pY T tx (u + 1) d
  else if lone T tx u 115 && decide (d 1 0 < 9) then pS T tx (u + 1) d
  else if lone T tx u 99 && decide (d 2 0 < 6) then pC T tx (u + 1) d
  else .inl u
def pE (T : Nat) (tx : Nat → Nat) (w : Nat) : Bool := decide (w < T ∧ tx w = 59)
def pRun (T : Nat) (tx : Nat → Nat) : Nat → Nat → Nat → Mo → Nat ⊕ (Nat × Mo)
  | 0, _, _, _ => .inl 0
  | k + 1, items, t, d =>
    if sk T tx t < T then
      match pI T tx (items == 0) (sk T tx t) d with
      | .inl v => .inl v
      | .inr (t1, d1) => if pE T tx (sk T tx t1) then pRun T tx k (items + 1) (sk T tx t1 + 1) d1 else .inl (sk T tx t1)
    else .inr (items, d)
/-- where it goes on lies behind the letter -/
theorem pI_place {T : Nat} {tx : Nat → Nat} {first : Bool} {u : Nat} {d : Mo} (hu : u < T) : (∀ v, pI T tx first u d = .inl v → v ≤ T) ∧ (∀ t1 d1, pI T tx first u d = .inr (t1, d1) → u + 1 ≤ t1 ∧ t1 ≤ T) := by
  have one : ∀ t, t ≤ T → t ≤ sk T tx t ∧ sk T tx t ≤ T ∧ sk T tx t + dg T tx (sk T tx t) ≤ T := fun t ht => ⟨sk_ge _ _ _, sk_le ht, dg_le (sk_le ht)⟩
  have hY : ∀ t, t ≤ T → (∀ v, pY T tx t d = .inl v → v ≤ T) ∧ (∀ t1 d1, pY T tx t d = .inr (t1, d1) → t ≤ t1 ∧ t1 ≤ T) := by
    intro t ht
    obtain ⟨o1, o2, o3⟩ := one t ht
    unfold pY
    split
    · exact ⟨fun v e => (by cases e), fun t1 d1 e => by cases e; omega⟩
    · exact ⟨fun v e => (by cases e; omega), fun t1 d1 e => by cases e⟩
  have hS3 : ∀ a b t, t ≤ T → (∀ v, pS3 T tx a b t d = .inl v → v ≤ T) ∧ (∀ t1 d1, pS3 T tx a b t d = .inr (t1, d1) → t ≤ t1 ∧ t1 ≤ T) := by
    intro a b t ht
    obtain ⟨o1, o2, o3⟩ := one t ht
    unfold pS3
    split
    · exact ⟨fun v e => (by cases e), fun t1 d1 e => by cases e; omega⟩
    · exact ⟨fun v e => (by cases e; omega), fun t1 d1 e => by cases e⟩
  have hS2 : ∀ a t, t ≤ T → (∀ v, pS2 T tx a t d = .inl v → v ≤ T) ∧ (∀ t1 d1, pS2 T tx a t d = .inr (t1, d1) → t ≤ t1 ∧ t1 ≤ T) := by
    intro a t ht
    obtain ⟨o1, o2, o3⟩ := one t ht
    unfold pS2
    split
    · have := hS3 a (nv T tx (sk T tx t)) _ o3
      exact ⟨this.1, fun t1 d1 e => by have := this.2 t1 d1 e; omega⟩
    · exact ⟨fun v e => (by cases e; omega), fun t1 d1 e => by cases e⟩
  have hS : ∀ t, t ≤ T → (∀ v, pS T tx t d = .inl v → v ≤ T) ∧ (∀ t1 d1, pS T tx t d = .inr (t1, d1) → t ≤ t1 ∧ t1 ≤ T) := by
    intro t ht
    obtain ⟨o1, o2, o3⟩ := one t ht
    unfold pS
    split
    · have := hS2 (nv T tx (sk T tx t)) _ o3
      exact ⟨this.1, fun t1 d1 e => by have := this.2 t1 d1 e; omega⟩
    · exact ⟨fun v e => (by cases e; omega), fun t1 d1 e => by cases e⟩
  have hC2 : ∀ h t, t ≤ T → (∀ v, pC2 T tx h t d = .inl v → v ≤ T) ∧ (∀ t1 d1, pC2 T tx h t d = .inr (t1, d1) → t ≤ t1 ∧ t1 ≤ T) := by
    intro h t ht
    obtain ⟨o1, o2, o3⟩ := one t ht
    unfold pC2
    split
    · exact ⟨fun v e => (by cases e), fun t1 d1 e => by cases e; omega⟩
    · exact ⟨fun v e => (by cases e; omega), fun t1 d1 e => by cases e⟩
  have hC : ∀ t, t ≤ T → (∀ v, pC T tx t d = .inl v → v ≤ T) ∧ (∀ t1 d1, pC T tx t d = .inr (t1, d1) → t ≤ t1 ∧ t1 ≤ T) := by
    intro t ht
    obtain ⟨o1, o2, o3⟩ := one t ht
    unfold pC
    split
    · have := hC2 (nv T tx (sk T tx t)) _ o3
      exact ⟨this.1, fun t1 d1 e => by have := this.2 t1 d1 e; omega⟩
    · exact ⟨fun v e => (by cases e; omega), fun t1 d1 e => by cases e⟩
  unfold pI
  split
  · exact hY (u + 1) (by omega)
  · split
    · exact hS (u + 1) (by omega)
    · split
      · exact hC (u + 1) (by omega)
      · exact ⟨fun v e => (by cases e; omega), fun t1 d1 e => by cases e⟩
/-- what a draft may be -/
def DW (d : Mo) : Prop := (2 ≤ d 0 0 ∧ d 0 0 ≤ 8) ∧ d 1 0 ≤ 9 ∧ d 2 0 ≤ 6 ∧ (∀ s, s < d 1 0 → (d 3 s < d 0 0 ∧ d 4 s < d 0 0 ∧ d 3 s ≠ d 4 s) ∧ d 5 s ≤ 9) ∧ ∀ p, p < d 2 0 → d 6 p < d 1 0 ∧ 1 ≤ d 7 p ∧ d 7 p ≤ 10
theorem addS_at (d : Mo) (a b o f s : Nat) : addS d a b o f s = if f = 1 ∧ s = 0 then d 1 0 + 1 else if f = 5 ∧ s = d 1 0 then o else if f = 4 ∧ s = d 1 0 then b else if f = 3 ∧ s = d 1 0 then a else d f s := rfl
theorem addC_at (d : Mo) (h w f s : Nat) : addC d h w f s = if f = 2 ∧ s = 0 then d 2 0 + 1 else if f = 7 ∧ s = d 2 0 then w else if f = 6 ∧ s = d 2 0 then h else d f s := rfl
theorem DW_addS {d : Mo} (h : DW d) {a b o : Nat} (hn : d 1 0 < 9) (ha : a < d 0 0) (hb : b < d 0 0) (hab : b ≠ a) (ho : o ≤ 9) : DW (addS d a b o) := by
  obtain ⟨h1, h2, h3, h4, h5⟩ := h
  have e0 : addS d a b o 0 0 = d 0 0 := by rw [addS_at]; simp
  have e1 : addS d a b o 1 0 = d 1 0 + 1 := by rw [addS_at]; simp
  have e2 : addS d a b o 2 0 = d 2 0 := by rw [addS_at]; simp
  have e6 : ∀ p, addS d a b o 6 p = d 6 p := fun p => by rw [addS_at]; simp
  have e7 : ∀ p, addS d a b o 7 p = d 7 p := fun p => by rw [addS_at]; simp
  refine ⟨by rw [e0]; exact h1, by omega, by omega, fun s hs => ?_, fun p hp => ?_⟩
  · rw [e1] at hs
    rw [e0]
    have e3 : addS d a b o 3 s = if s = d 1 0 then a else d 3 s := by rw [addS_at]; simp
    have e4 : addS d a b o 4 s = if s = d 1 0 then b else d 4 s := by rw [addS_at]; simp
    have e5 : addS d a b o 5 s = if s = d 1 0 then o else d 5 s := by rw [addS_at]; simp
    rw [e3, e4, e5]
    by_cases h : s = d 1 0
    · rw [if_pos h, if_pos h, if_pos h]; exact ⟨⟨ha, hb, fun e => hab e.symm⟩, ho⟩
    · rw [if_neg h, if_neg h, if_neg h]; exact h4 s (by omega)
  · rw [e2] at hp
    rw [e6, e7, e1]
    have := h5 p hp
    omega
theorem DW_addC {d : Mo} (h : DW d) {a w : Nat} (hn : d 2 0 < 6) (ha : a < d 1 0) (hw : 1 ≤ w ∧ w ≤ 10) : DW (addC d a w) := by
  obtain ⟨h1, h2, h3, h4, h5⟩ := h
  have e0 : addC d a w 0 0 = d 0 0 := by rw [addC_at]; simp
  have e1 : addC d a w 1 0 = d 1 0 := by rw [addC_at]; simp
  have e2 : addC d a w 2 0 = d 2 0 + 1 := by rw [addC_at]; simp
  have e3 : ∀ p, addC d a w 3 p = d 3 p := fun p => by rw [addC_at]; simp
  have e4 : ∀ p, addC d a w 4 p = d 4 p := fun p => by rw [addC_at]; simp
  have e5 : ∀ p, addC d a w 5 p = d 5 p := fun p => by rw [addC_at]; simp
  refine ⟨by rw [e0]; exact h1, by omega, by omega, fun s hs => ?_, fun p hp => ?_⟩
  · rw [e1] at hs
    rw [e0, e3, e4, e5]
    exact h4 s hs
  · rw [e2] at hp
    have e6 : addC d a w 6 p = if p = d 2 0 then a else d 6 p := by rw [addC_at]; simp
    have e7 : addC d a w 7 p = if p = d 2 0 then w else d 7 p := by rw [addC_at]; simp
    rw [e6, e7, e1]
    by_cases h : p = d 2 0
    · rw [if_pos h, if_pos h]; exact ⟨ha, hw⟩
    · rw [if_neg h, if_neg h]; exact h5 p (by omega)
theorem pI_DW {T : Nat} {tx : Nat → Nat} {first : Bool} {u : Nat} {d : Mo} (h : DW d) (h0 : first = true → d 1 0 = 0 ∧ d 2 0 = 0) : ∀ t1 d1, pI T tx first u d = .inr (t1, d1) → DW d1 := by
  intro t1 d1 e
  unfold pI at e
  split at e
  · rename_i hc
    rw [Bool.and_eq_true] at hc
    obtain ⟨z1, z2⟩ := h0 hc.2
    unfold pY at e
    split at e
    · rename_i hk
      have hk := of_decide_eq_true hk
      cases e
      obtain ⟨h1, h2, h3, h4, h5⟩ := h
      have e0 : muS d 0 0 (nv T tx (sk T tx (u + 1))) 0 0 = nv T tx (sk T tx (u + 1)) := muS_s _ _ _ _
      have en : ∀ f s, f ≠ 0 → muS d 0 0 (nv T tx (sk T tx (u + 1))) f s = d f s := fun f s hf => muS_n _ (fun e => hf e.1)
      refine ⟨by rw [e0]; omega, by rw [en 1 0 (by omega)]; exact h2, by rw [en 2 0 (by omega)]; exact h3, fun s hs => ?_, fun p hp => ?_⟩
      · rw [en 1 0 (by omega)] at hs; omega
      · rw [en 2 0 (by omega)] at hp; omega
    · cases e
  · split at e
    · rename_i hc
      rw [Bool.and_eq_true] at hc
      have hn := of_decide_eq_true hc.2
      unfold pS at e
      split at e
      · rename_i k1
        have k1 := of_decide_eq_true k1
        unfold pS2 at e
        split at e
        · rename_i k2
          have k2 := of_decide_eq_true k2
          unfold pS3 at e
          split at e
          · rename_i k3
            have k3 := of_decide_eq_true k3
            cases e
            exact DW_addS h hn k1.2.1 k2.2.1 k2.2.2 (by omega)
          · cases e
        · cases e
      · cases e
    · split at e
      · rename_i hc
        rw [Bool.and_eq_true] at hc
        have hn := of_decide_eq_true hc.2
        unfold pC at e
        split at e
        · rename_i k1
          have k1 := of_decide_eq_true k1
          unfold pC2 at e
          split at e
          · rename_i k2
            have k2 := of_decide_eq_true k2
            cases e
            exact DW_addC h hn k1.2.1 (by omega)
          · cases e
        · cases e
      · cases e
theorem pRun_DW {T : Nat} {tx : Nat → Nat} (k : Nat) : ∀ items t d, DW d → (items = 0 → d 1 0 = 0 ∧ d 2 0 = 0) → ∀ i' d', pRun T tx k items t d = .inr (i', d') → DW d' := by
  induction k with
  | zero => intro items t d _ _ i' d' e; cases e
  | succ k ih =>
    intro items t d hd h0 i' d' e
    simp only [pRun] at e
    split at e
    · split at e
      · cases e
      · rename_i t1 d1 heq
        have hd1 := pI_DW hd (fun hf => h0 (by simpa using hf)) _ _ heq
        split at e
        · exact ih _ _ _ hd1 (by omega) _ _ e
        · cases e
    · cases e; exact hd

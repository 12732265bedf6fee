/-! odds: the pure part -/
def upB (z : Nat → Bool) (k : Nat) (v : Bool) : Nat → Bool := fun j => if j = k then v else z j
theorem upB_s (z : Nat → Bool) (k : Nat) (v : Bool) : upB z k v k = v := if_pos rfl
theorem upB_n (z : Nat → Bool) {k j : Nat} (v : Bool) (h : j ≠ k) : upB z k v j = z j := if_neg h
theorem upB_upB (z : Nat → Bool) (k : Nat) (v w : Bool) : upB (upB z k v) k w = upB z k w := by
  funext j
  by_cases h : j = k
  · subst h; rw [upB_s, upB_s]
  · rw [upB_n _ _ h, upB_n _ _ h, upB_n _ _ h]
theorem upB_comm (z : Nat → Bool) {k s : Nat} (v w : Bool) (h : s ≠ k) : upB (upB z k v) s w = upB (upB z s w) k v := by
  funext j
  by_cases h1 : j = k
  · subst h1; rw [upB_n _ _ (fun e => h e.symm), upB_s, upB_s]
  · rw [upB_n _ _ h1]
    by_cases h2 : j = s
    · subst h2; rw [upB_s, upB_s]
    · rw [upB_n _ _ h2, upB_n _ _ h1, upB_n _ _ h2]
/-- the sum over all that may be open, by its chances -/
def EE (x : Nat) : Nat → ((Nat → Bool) → Nat) → Nat
  | 0, f => f (fun _ => false)
  | k + 1, f => (10 - x) * EE x k (fun z => f (upB z k true)) + x * EE x k (fun z => f (upB z k false))
theorem EE_congr {x k : Nat} {f g : (Nat → Bool) → Nat} (h : ∀ z, f z = g z) : EE x k f = EE x k g := by
  have : f = g := funext h
  rw [this]
theorem EE_const {x : Nat} (hx : x ≤ 10) (k c : Nat) : EE x k (fun _ => c) = 10 ^ k * c := by
  induction k with
  | zero => simp [EE]
  | succ k ih =>
    simp only [EE]
    rw [ih, ← Nat.add_mul, show 10 - x + x = 10 by omega, Nat.pow_succ, Nat.mul_comm (10 ^ k) 10, Nat.mul_assoc]
theorem EE_mono {x k : Nat} {f g : (Nat → Bool) → Nat} (h : ∀ z, f z ≤ g z) : EE x k f ≤ EE x k g := by
  induction k generalizing f g with
  | zero => exact h _
  | succ k ih =>
    simp only [EE]
    exact Nat.add_le_add (Nat.mul_le_mul_left _ (ih (fun z => h _))) (Nat.mul_le_mul_left _ (ih (fun z => h _)))
theorem EE_pick {x : Nat} (hx : x ≤ 10) {k s : Nat} (hs : s < k) (f : (Nat → Bool) → Nat) : 10 * EE x k f = (10 - x) * EE x k (fun z => f (upB z s true)) + x * EE x k (fun z => f (upB z s false)) := by
  induction k generalizing f with
  | zero => omega
  | succ k ih =>
    simp only [EE]
    by_cases h : s = k
    · subst h
      simp only [upB_upB]
      generalize EE x s (fun z => f (upB z s true)) = A
      generalize EE x s (fun z => f (upB z s false)) = B
      rw [← Nat.add_mul, ← Nat.add_mul, show 10 - x + x = 10 by omega, Nat.mul_add, Nat.mul_left_comm, Nat.mul_left_comm 10 x B]
    · have e1 := ih (by omega) (fun z => f (upB z k true))
      have e0 := ih (by omega) (fun z => f (upB z k false))
      simp only [fun z v w => upB_comm z (k := s) (s := k) v w (fun e => h e.symm)] at e1 e0
      rw [Nat.mul_add, Nat.mul_left_comm 10 (10 - x), Nat.mul_left_comm 10 x, e1, e0]
      simp only [Nat.mul_add]
      generalize EE x k (fun z => f (upB (upB z k true) s true)) = A
      generalize EE x k (fun z => f (upB (upB z k true) s false)) = B
      generalize EE x k (fun z => f (upB (upB z k false) s true)) = C
      generalize EE x k (fun z => f (upB (upB z k false) s false)) = D
      rw [Nat.mul_left_comm x (10 - x)]
      rw [Nat.mul_left_comm x (10 - x)]
      omega
/-- the weight of a set of closed streets -/
def wy (x : Nat) : Nat → Nat → Nat
  | 0, _ => 1
  | k + 1, m => wy x k m * (if m.testBit k then x else 10 - x)
theorem wy_congr {x k m m' : Nat} (h : ∀ s, s < k → m.testBit s = m'.testBit s) : wy x k m = wy x k m' := by
  induction k with
  | zero => rfl
  | succ k ih => simp only [wy]; rw [ih (fun s hs => h s (by omega)), h k (by omega)]
theorem sumN_add (a b : Nat) (f : Nat → Nat) : sumN (a + b) f = sumN a f + sumN b (fun i => f (a + i)) := by
  induction b with
  | zero => rfl
  | succ b ih =>
    show sumN (a + b) f + f (a + b) = _
    rw [ih]
    simp only [sumN]
    omega
theorem sumN_mul (k c : Nat) (f : Nat → Nat) : sumN k (fun i => c * f i) = c * sumN k f := by
  induction k with
  | zero => simp [sumN]
  | succ k ih => simp only [sumN]; rw [ih, Nat.mul_add]
theorem sum_EE {x : Nat} (k : Nat) (f : (Nat → Bool) → Nat) : sumN (2 ^ k) (fun m => wy x k m * f (fun s => decide (s < k) && !m.testBit s)) = EE x k f := by
  induction k generalizing f with
  | zero =>
    show 0 + wy x 0 0 * f (fun s => decide (s < 0) && !(0 : Nat).testBit s) = f (fun _ => false)
    have : (fun s => decide (s < 0) && !(0 : Nat).testBit s) = fun _ => false := by funext s; simp
    rw [this]
    simp [wy]
  | succ k ih =>
    simp only [EE]
    rw [← ih, ← ih, Nat.pow_succ, Nat.mul_two, sumN_add, ← sumN_mul, ← sumN_mul]
    congr 1
    · apply sumN_congr
      intro m hm
      have hb : m.testBit k = false := Nat.testBit_lt_two_pow hm
      have e : (fun s => decide (s < k + 1) && !m.testBit s) = upB (fun s => decide (s < k) && !m.testBit s) k true := by
        funext s
        by_cases h : s = k
        · subst h; rw [upB_s, hb]; simp
        · rw [upB_n _ _ h]
          have : (decide (s < k + 1) : Bool) = decide (s < k) := decide_eq_decide.mpr (by omega)
          rw [this]
      rw [e]
      simp only [wy]
      rw [hb, if_neg (by simp), Nat.mul_comm (wy x k m), Nat.mul_assoc]
    · apply sumN_congr
      intro m hm
      have hb : (2 ^ k + m).testBit k = true := by
        rw [Nat.testBit_two_pow_add_eq, Nat.testBit_lt_two_pow hm]; rfl
      have hl : ∀ s, s < k → (2 ^ k + m).testBit s = m.testBit s := fun s hs => Nat.testBit_two_pow_add_gt hs m
      have e : (fun s => decide (s < k + 1) && !(2 ^ k + m).testBit s) = upB (fun s => decide (s < k) && !m.testBit s) k false := by
        funext s
        by_cases h : s = k
        · subst h; rw [upB_s, hb]; simp
        · rw [upB_n _ _ h]
          by_cases h2 : s < k
          · rw [hl s h2]; simp [h2, Nat.lt_succ_of_lt h2]
          · have : ¬ s < k + 1 := by omega
            simp [h2, this]
      rw [e]
      simp only [wy]
      rw [hb, if_pos rfl, wy_congr hl, Nat.mul_comm (wy x k m), Nat.mul_assoc]
/-- in how many cases: by the street that leads out -/
def chP (n : Nat) (on ot : Nat → Nat) (x b : Nat) : Nat → (Nat → Bool) → (Nat → Bool) → Nat
  | 0, _, _ => 0
  | k + 1, R, U => if R b then 10 ^ cnt 9 U else if ff n (fun s => U s && cutS on ot R s) < n then (10 - x) * chP n on ot x b k (fun y => R y || en on ot (ff n (fun s => U s && cutS on ot R s)) y) (fun i => U i && !(i == ff n (fun s => U s && cutS on ot R s))) + x * chP n on ot x b k R (fun i => U i && !(i == ff n (fun s => U s && cutS on ot R s))) else 0
def RE (n : Nat) (on ot : Nat → Nat) (R op : Nat → Bool) (b : Nat) : Prop := ∀ X : Nat → Bool, (∀ y, R y = true → X y = true) → clo n on ot op X → X b = true
theorem chP_eq {n : Nat} {on ot : Nat → Nat} {x b : Nat} (hx : x ≤ 10) (h9 : n ≤ 9) (k : Nat) : ∀ (R U : Nat → Bool) (f : (Nat → Bool) → Nat), (∀ s, U s = true → s < n) → cnt 9 U < k → (∀ z, (RE n on ot R (fun s => U s && z s) b → f z = 1) ∧ (¬ RE n on ot R (fun s => U s && z s) b → f z = 0)) → chP n on ot x b k R U * 10 ^ (n - cnt 9 U) = EE x n f := by
  induction k with
  | zero => intro R U f _ h; omega
  | succ k ih =>
    intro R U f hU hk hf
    have hcn : cnt 9 U ≤ n := by
      have h1 : cnt 9 U = cnt n U := by
        rw [cnt_up U h9]
        apply cnt_congr
        intro i _
        by_cases hi : i < n
        · simp [hi]
        · cases hui : U i
          · simp
          · exact absurd (hU i hui) hi
      rw [h1]; exact cnt_le _ _
    simp only [chP]
    cases hR : R b with
    | true =>
      rw [if_pos rfl, ← Nat.pow_add, show cnt 9 U + (n - cnt 9 U) = n by omega]
      rw [EE_congr (g := fun _ => 1) (fun z => (hf z).1 (fun X h1 _ => h1 b hR)), EE_const hx, Nat.mul_one]
    | false =>
      rw [if_neg (by simp)]
      obtain ⟨s1, s2, s3⟩ := ff_spec n (fun s => U s && cutS on ot R s)
      generalize ff n (fun s => U s && cutS on ot R s) = s at *
      by_cases hs : s < n
      · rw [if_pos hs]
        have hc := s3 hs
        rw [Bool.and_eq_true] at hc
        obtain ⟨hus, hcs⟩ := hc
        have hcnt : cnt 9 U = cnt 9 (fun i => U i && !(i == s)) + 1 := cnt_more (a := s) (by omega) (by simp) hus (fun i _ hne => by simp [hne])
        have hU' : ∀ i, (U i && !(i == s)) = true → i < n := fun i hi => hU i (by rw [Bool.and_eq_true] at hi; exact hi.1)
        have ih1 := ih (fun y => R y || en on ot s y) (fun i => U i && !(i == s)) (fun z => f (upB z s true)) hU' (by omega) (by
          intro z
          have iff : RE n on ot (fun y => R y || en on ot s y) (fun i => (U i && !(i == s)) && z i) b ↔ RE n on ot R (fun i => U i && upB z s true i) b := by
            constructor
            · intro h X h1 h2
              have hb := h2 s hs (by dsimp only; rw [hus, upB_s]; rfl)
              have hboth : X (on s) = true ∧ X (ot s) = true := by
                unfold cutS at hcs
                cases hr1 : R (on s)
                · cases hr2 : R (ot s)
                  · rw [hr1, hr2] at hcs; cases hcs
                  · have := h1 _ hr2
                    rw [this] at hb
                    exact ⟨hb, this⟩
                · have := h1 _ hr1
                  rw [this] at hb
                  exact ⟨this, hb.symm⟩
              refine h X (fun y hy => ?_) (fun t ht ho => ?_)
              · dsimp only at hy
                rw [Bool.or_eq_true] at hy
                rcases hy with hy | hy
                · exact h1 y hy
                · unfold en at hy
                  rw [Bool.or_eq_true] at hy
                  rcases hy with hy | hy
                  · rw [show y = on s by simpa using hy]; exact hboth.1
                  · rw [show y = ot s by simpa using hy]; exact hboth.2
              · have hts : t ≠ s := by
                  intro e
                  rw [e] at ho
                  dsimp only at ho
                  simp at ho
                refine h2 t ht ?_
                dsimp only at ho ⊢
                rw [upB_n _ _ hts]
                simpa [hts] using ho
            · intro h X h1 h2
              refine h X (fun y hy => h1 y (by dsimp only; rw [hy]; rfl)) (fun t ht ho => ?_)
              by_cases hts : t = s
              · rw [hts, h1 (on s) (by unfold en; simp), h1 (ot s) (by unfold en; simp)]
              · refine h2 t ht ?_
                dsimp only at ho ⊢
                rw [upB_n _ _ hts] at ho
                simpa [hts] using ho
          exact ⟨fun h => (hf _).1 (iff.mp h), fun h => (hf _).2 (fun e => h (iff.mpr e))⟩)
        have ih0 := ih R (fun i => U i && !(i == s)) (fun z => f (upB z s false)) hU' (by omega) (by
          intro z
          have e : (fun i => (U i && !(i == s)) && z i) = fun i => U i && upB z s false i := by
            funext i
            by_cases hi : i = s
            · subst hi; rw [upB_s]; simp
            · have e2 : (i == s) = false := beq_false_of_ne hi
              rw [upB_n _ _ hi, e2, Bool.not_false, Bool.and_true]
          rw [e]
          exact hf _)
        have hp := EE_pick hx hs f
        rw [← ih1, ← ih0] at hp
        have e10 : 10 ^ (n - cnt 9 (fun i => U i && !(i == s))) = 10 ^ (n - cnt 9 U) * 10 := by
          rw [← Nat.pow_succ]
          congr 1
          omega
        rw [e10] at hp
        generalize chP n on ot x b k (fun y => R y || en on ot s y) (fun i => U i && !(i == s)) = A at *
        generalize chP n on ot x b k R (fun i => U i && !(i == s)) = B at *
        generalize 10 ^ (n - cnt 9 U) = P at *
        have h2 : 10 * EE x n f = 10 * (((10 - x) * A + x * B) * P) := by
          rw [hp, Nat.add_mul, Nat.mul_add]
          congr 1
          · rw [Nat.mul_assoc, ← Nat.mul_assoc A P 10, Nat.mul_comm (A * P) 10, Nat.mul_left_comm]
          · rw [Nat.mul_assoc, ← Nat.mul_assoc B P 10, Nat.mul_comm (B * P) 10, Nat.mul_left_comm]
        omega
      · rw [if_neg hs, Nat.zero_mul]
        rw [EE_congr (g := fun _ => 0) (fun z => (hf z).2 (fun h => by
          have := h R (fun y hy => hy) (fun t ht ho => by
            have := s2 t (by omega)
            dsimp only at ho
            rw [Bool.and_eq_true] at ho
            rw [ho.1, Bool.true_and] at this
            unfold cutS at this
            simpa using this)
          rw [hR] at this
          cases this)), EE_const hx, Nat.mul_zero]

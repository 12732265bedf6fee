/-! who can have his carriage: the pure part -/
theorem cnt_split {k : Nat} {P Q R : Nat → Bool} (h : ∀ i, i < k → (if P i then 1 else 0) = (if Q i then 1 else 0) + (if R i then 1 else 0)) : cnt k P = cnt k Q + cnt k R := by
  induction k with
  | zero => rfl
  | succ k ih =>
    simp only [cnt]
    have := ih (fun i hi => h i (by omega))
    have := h k (by omega)
    omega
def Aw (c : Nat) (wn : Nat → Nat) (p j : Nat) : Nat := cnt c (fun q => decide (p ≤ q) && decide (wn q ≤ j))
def aw (c : Nat) (wn : Nat → Nat) (p v : Nat) : Nat := cnt c (fun q => decide (p ≤ q) && (wn q == v))
def Ff (n : Nat) (wi : Nat → Nat) (fr : Nat → Bool) (j : Nat) : Nat := cnt n (fun s => fr s && decide (wi s ≤ j))
def fv (n : Nat) (wi : Nat → Nat) (fr : Nat → Bool) (v : Nat) : Nat := cnt n (fun s => fr s && (wi s == v))
def Hf (n : Nat) (wi : Nat → Nat) (fr : Nat → Bool) (j : Nat) : Nat := cnt n (fun s => fr s && decide (j < wi s))
theorem Aw_succ (c : Nat) (wn : Nat → Nat) (p t : Nat) : Aw c wn p (t + 1) = Aw c wn p t + aw c wn p (t + 1) := by
  apply cnt_split
  intro q _
  by_cases h1 : p ≤ q
  · by_cases h2 : wn q ≤ t
    · have h3 : wn q ≤ t + 1 := by omega
      have h4 : ¬ wn q = t + 1 := by omega
      simp [h1, h2, h3, h4]
    · by_cases h4 : wn q = t + 1
      · simp [h1, h4]
      · have h3 : ¬ wn q ≤ t + 1 := by omega
        simp [h2, h3, h4]
  · simp [h1]
theorem Ff_succ (n : Nat) (wi : Nat → Nat) (fr : Nat → Bool) (t : Nat) : Ff n wi fr (t + 1) = Ff n wi fr t + fv n wi fr (t + 1) := by
  apply cnt_split
  intro q _
  cases fr q
  · simp
  · by_cases h2 : wi q ≤ t
    · have h3 : wi q ≤ t + 1 := by omega
      have h4 : ¬ wi q = t + 1 := by omega
      simp [h2, h3, h4]
    · by_cases h4 : wi q = t + 1
      · simp [h4]
      · have h3 : ¬ wi q ≤ t + 1 := by omega
        simp [h2, h3, h4]
theorem Ff_Hf {n : Nat} {wi : Nat → Nat} (fr : Nat → Bool) (hw : ∀ s, s < n → wi s ≤ 10) (j : Nat) (hj : j ≤ 10) : Ff n wi fr 10 = Ff n wi fr j + Hf n wi fr j := by
  apply cnt_split
  intro s hs
  have h1 := hw s hs
  cases fr s
  · simp
  · by_cases h2 : wi s ≤ j
    · have h3 : ¬ j < wi s := by omega
      simp [h1, h2, h3]
    · have h3 : j < wi s := by omega
      simp [h1, h2, h3]
theorem Ff_mono {n : Nat} {wi : Nat → Nat} (fr : Nat → Bool) {i j : Nat} (h : i ≤ j) : Ff n wi fr i ≤ Ff n wi fr j := by
  apply cnt_mono
  intro s _ hs
  rw [Bool.and_eq_true] at hs ⊢
  exact ⟨hs.1, decide_eq_true (Nat.le_trans (of_decide_eq_true hs.2) h)⟩
theorem Aw_mono {c : Nat} {wn : Nat → Nat} {p i j : Nat} (h : i ≤ j) : Aw c wn p i ≤ Aw c wn p j := by
  apply cnt_mono
  intro s _ hs
  rw [Bool.and_eq_true] at hs ⊢
  exact ⟨hs.1, decide_eq_true (Nat.le_trans (of_decide_eq_true hs.2) h)⟩
def mo (c : Nat) (wn : Nat → Nat) (n : Nat) (wi : Nat → Nat) (p : Nat) (fr : Nat → Bool) : Nat → Nat
  | 0 => 0
  | t + 1 => min (Aw c wn p (t + 1)) (mo c wn n wi p fr t + fv n wi fr (t + 1))
theorem mo_spec {c : Nat} {wn : Nat → Nat} {n : Nat} {wi : Nat → Nat} (hwn : ∀ q, q < c → 1 ≤ wn q) (p : Nat) (fr : Nat → Bool) (t : Nat) : (∀ j, j ≤ t → mo c wn n wi p fr t ≤ Aw c wn p j + (Ff n wi fr t - Ff n wi fr j)) ∧ ∃ j, j ≤ t ∧ mo c wn n wi p fr t = Aw c wn p j + (Ff n wi fr t - Ff n wi fr j) := by
  induction t with
  | zero =>
    have h0 : Aw c wn p 0 = 0 := cnt_none (fun q hq => by
      have := hwn q hq
      have : ¬ wn q ≤ 0 := by omega
      simp only [this, decide_false, Bool.and_false])
    refine ⟨fun j _ => Nat.zero_le _, 0, Nat.le_refl _, ?_⟩
    rw [h0, Nat.sub_self]
    rfl
  | succ t ih =>
    obtain ⟨h1, j0, h2, h3⟩ := ih
    have e : mo c wn n wi p fr (t + 1) = min (Aw c wn p (t + 1)) (mo c wn n wi p fr t + fv n wi fr (t + 1)) := rfl
    have es := Ff_succ n wi fr t
    rw [e]
    refine ⟨fun j hj => ?_, ?_⟩
    · by_cases hjt : j = t + 1
      · subst hjt
        omega
      · have := h1 j (by omega)
        have := Ff_mono (n := n) (wi := wi) fr (show j ≤ t by omega)
        omega
    · by_cases hm : Aw c wn p (t + 1) ≤ mo c wn n wi p fr t + fv n wi fr (t + 1)
      · exact ⟨t + 1, Nat.le_refl _, by omega⟩
      · have := Ff_mono (n := n) (wi := wi) fr (show j0 ≤ t by omega)
        exact ⟨j0, by omega, by omega⟩
def gr (c : Nat) (wn : Nat → Nat) (n : Nat) (wi : Nat → Nat) (p : Nat) (fr : Nat → Bool) : Nat := mo c wn n wi p fr 10
theorem gr_spec {c : Nat} {wn : Nat → Nat} {n : Nat} {wi : Nat → Nat} (hwn : ∀ q, q < c → 1 ≤ wn q) (hw : ∀ s, s < n → wi s ≤ 10) (p : Nat) (fr : Nat → Bool) : (∀ j, j ≤ 10 → gr c wn n wi p fr ≤ Aw c wn p j + Hf n wi fr j) ∧ ∃ j, j ≤ 10 ∧ gr c wn n wi p fr = Aw c wn p j + Hf n wi fr j := by
  obtain ⟨h1, j0, h2, h3⟩ := mo_spec (n := n) (wi := wi) hwn p fr 10
  refine ⟨fun j hj => ?_, j0, h2, ?_⟩
  · have := h1 j hj
    have := Ff_Hf fr hw j hj
    unfold gr
    omega
  · have := Ff_Hf fr hw j0 h2
    unfold gr
    omega
theorem Aw_p {c : Nat} {wn : Nat → Nat} {p : Nat} (hp : p < c) (j : Nat) : Aw c wn p j = Aw c wn (p + 1) j + (if wn p ≤ j then 1 else 0) := by
  unfold Aw
  by_cases h : wn p ≤ j
  · rw [if_pos h]
    have e : ¬ p + 1 ≤ p := by omega
    refine cnt_more (a := p) hp (by simp [e]) (by simp [h]) (fun i _ hne => ?_)
    have : (decide (p + 1 ≤ i) : Bool) = decide (p ≤ i) := decide_eq_decide.mpr (by omega)
    rw [this]
  · rw [if_neg h, Nat.add_zero]
    apply cnt_congr
    intro i _
    by_cases hi : i = p
    · subst hi; simp [h]
    · have : (decide (p ≤ i) : Bool) = decide (p + 1 ≤ i) := decide_eq_decide.mpr (by omega)
      rw [this]
theorem Hf_s {n : Nat} {wi : Nat → Nat} {fr : Nat → Bool} {s : Nat} (hs : s < n) (hf : fr s = true) (j : Nat) : Hf n wi fr j = Hf n wi (fun i => fr i && !(i == s)) j + (if j < wi s then 1 else 0) := by
  unfold Hf
  by_cases h : j < wi s
  · rw [if_pos h]
    refine cnt_more (a := s) hs (by simp) (by simp [h, hf]) (fun i _ hne => ?_)
    dsimp only
    rw [beq_false_of_ne hne, Bool.not_false, Bool.and_true]
  · rw [if_neg h, Nat.add_zero]
    apply cnt_congr
    intro i _
    by_cases hi : i = s
    · subst hi; simp [h]
    · dsimp only
      rw [beq_false_of_ne hi, Bool.not_false, Bool.and_true]
theorem gr_i {c : Nat} {wn : Nat → Nat} {n : Nat} {wi : Nat → Nat} (hwn : ∀ q, q < c → 1 ≤ wn q) (hw : ∀ s, s < n → wi s ≤ 10) {p : Nat} (hp : p < c) (fr : Nat → Bool) : gr c wn n wi (p + 1) fr ≤ gr c wn n wi p fr := by
  obtain ⟨_, j, h2, h3⟩ := gr_spec hwn hw p fr
  have h1 := (gr_spec hwn hw (p + 1) fr).1 j h2
  have := Aw_p (wn := wn) hp j
  omega
theorem gr_ii {c : Nat} {wn : Nat → Nat} {n : Nat} {wi : Nat → Nat} (hwn : ∀ q, q < c → 1 ≤ wn q) (hw : ∀ s, s < n → wi s ≤ 10) {p s : Nat} (hp : p < c) {fr : Nat → Bool} (hs : s < n) (hf : fr s = true) (hc : wn p ≤ wi s) : 1 + gr c wn n wi (p + 1) (fun i => fr i && !(i == s)) ≤ gr c wn n wi p fr := by
  obtain ⟨_, j, h2, h3⟩ := gr_spec hwn hw p fr
  have h1 := (gr_spec hwn hw (p + 1) (fun i => fr i && !(i == s))).1 j h2
  have e1 := Aw_p (wn := wn) hp j
  have e2 := Hf_s (wi := wi) hs hf j
  by_cases ha : wn p ≤ j
  · rw [if_pos ha] at e1; omega
  · rw [if_pos (show j < wi s by omega)] at e2; omega
theorem gr_iii {c : Nat} {wn : Nat → Nat} {n : Nat} {wi : Nat → Nat} (hwn : ∀ q, q < c → 1 ≤ wn q ∧ wn q ≤ 10) (hw : ∀ s, s < n → wi s ≤ 10) {p : Nat} (hp : p < c) (fr : Nat → Bool) : gr c wn n wi p fr = gr c wn n wi (p + 1) fr ∨ ∃ s, s < n ∧ fr s = true ∧ wn p ≤ wi s ∧ gr c wn n wi p fr = 1 + gr c wn n wi (p + 1) (fun i => fr i && !(i == s)) := by
  have hwn1 : ∀ q, q < c → 1 ≤ wn q := fun q hq => (hwn q hq).1
  have hvp := hwn p hp
  by_cases heq : gr c wn n wi p fr = gr c wn n wi (p + 1) fr
  · exact Or.inl heq
  · right
    have hi := gr_i hwn1 hw hp fr
    obtain ⟨g1, _⟩ := gr_spec hwn1 hw p fr
    obtain ⟨_, j0, q2, q3⟩ := gr_spec hwn1 hw (p + 1) fr
    have low : ∀ j, j < wn p → gr c wn n wi p fr ≤ Aw c wn (p + 1) j + Hf n wi fr j := by
      intro j hj
      have h1 := g1 j (by omega)
      have h2 := Aw_p (wn := wn) hp j
      rw [if_neg (by omega)] at h2
      omega
    have hle : gr c wn n wi p fr ≤ gr c wn n wi (p + 1) fr + 1 := by
      have h1 := g1 j0 q2
      have h2 := Aw_p (wn := wn) hp j0
      have : (if wn p ≤ j0 then 1 else 0) ≤ 1 := by split <;> omega
      omega
    have hj0 : wn p ≤ j0 := by
      rcases Nat.lt_or_ge j0 (wn p) with h | h
      · have := low j0 h; omega
      · exact h
    have flat : ∀ w, (∀ s, s < n → fr s = true → wn p ≤ wi s → w ≤ wi s) → ∀ j, wn p ≤ j → j < w → Hf n wi fr j = Hf n wi fr (wn p - 1) := by
      intro w hmin j h1 h2
      apply cnt_congr
      intro s hs
      cases hf : fr s
      · rfl
      · rw [Bool.true_and, Bool.true_and]
        apply decide_eq_decide.mpr
        have := hmin s hs hf
        omega
    have hex : ∃ w, ∃ s, s < n ∧ fr s = true ∧ wi s = w ∧ wn p ≤ w := by
      rcases Classical.em (∃ w, ∃ s, s < n ∧ fr s = true ∧ wi s = w ∧ wn p ≤ w) with h | h
      · exact h
      · exfalso
        have hn : ∀ s, s < n → fr s = true → wn p ≤ wi s → 11 ≤ wi s := fun s hs hf hc => absurd ⟨wi s, s, hs, hf, rfl, hc⟩ h
        have e := flat 11 hn j0 hj0 (by omega)
        have h1 := low (wn p - 1) (by omega)
        have h2 := Aw_mono (c := c) (wn := wn) (p := p + 1) (show wn p - 1 ≤ j0 by omega)
        omega
    obtain ⟨w, ⟨s, hs, hf, hws, hvw⟩, hmin⟩ := pk_least _ hex
    have hmin' : ∀ s, s < n → fr s = true → wn p ≤ wi s → w ≤ wi s := fun s' hs' hf' hc' => by
      rcases Nat.lt_or_ge (wi s') w with h | h
      · exact absurd ⟨s', hs', hf', rfl, hc'⟩ (hmin _ h)
      · exact h
    refine ⟨s, hs, hf, by omega, ?_⟩
    have h2 := gr_ii hwn1 hw hp hs hf (by omega)
    obtain ⟨_, j, r2, r3⟩ := gr_spec hwn1 hw (p + 1) (fun i => fr i && !(i == s))
    have e2 := Hf_s (wi := wi) hs hf j
    obtain ⟨g2, _⟩ := gr_spec hwn1 hw (p + 1) fr
    have gj := g2 j r2
    by_cases hjw : j < w
    · rw [if_pos (by omega)] at e2
      by_cases hjv : j < wn p
      · have := low j hjv; omega
      · have e := flat w hmin' j (by omega) hjw
        have h1 := low (wn p - 1) (by omega)
        have h3 := Aw_mono (c := c) (wn := wn) (p := p + 1) (show wn p - 1 ≤ j by omega)
        omega
    · rw [if_neg (by omega)] at e2
      omega
theorem Hf_congr {n : Nat} {wi : Nat → Nat} {fr fr' : Nat → Bool} (h : ∀ s, s < n → fr s = fr' s) (v : Nat) : fv n wi fr v = fv n wi fr' v := cnt_congr (fun s hs => by rw [h s hs])
theorem gr_congr {c : Nat} {wn : Nat → Nat} {n : Nat} {wi : Nat → Nat} {p : Nat} {fr fr' : Nat → Bool} (h : ∀ s, s < n → fr s = fr' s) : gr c wn n wi p fr = gr c wn n wi p fr' := by
  unfold gr
  have : ∀ t, mo c wn n wi p fr t = mo c wn n wi p fr' t := by
    intro t
    induction t with
    | zero => rfl
    | succ t ih => simp only [mo]; rw [ih, Hf_congr h]
  exact this 10
theorem gr_c {c : Nat} {wn : Nat → Nat} {n : Nat} {wi : Nat → Nat} (fr : Nat → Bool) : gr c wn n wi c fr = 0 := by
  unfold gr
  have h0 : ∀ t, Aw c wn c t = 0 := fun t => cnt_none (fun q hq => by
    have : ¬ c ≤ q := by omega
    simp [this])
  have : ∀ t, mo c wn n wi c fr t = 0 := by
    intro t
    induction t with
    | zero => rfl
    | succ t ih => simp only [mo]; rw [h0]; omega
  exact this 10
theorem mo_le (c : Nat) (wn : Nat → Nat) (n : Nat) (wi : Nat → Nat) (p : Nat) (fr : Nat → Bool) (t : Nat) : mo c wn n wi p fr t ≤ c := by
  cases t with
  | zero => exact Nat.zero_le _
  | succ t =>
    have : Aw c wn p (t + 1) ≤ c := cnt_le _ _
    simp only [mo]
    omega
/-- the running greatest of what one street more gives -/
def rn (f : Nat → Nat) (P : Nat → Bool) (v0 : Nat) : Nat → Nat
  | 0 => v0
  | k + 1 => if P k then max (rn f P v0 k) (f k) else rn f P v0 k
theorem rn_eq {f : Nat → Nat} {P : Nat → Bool} {v0 v n : Nat} (h0 : v0 ≤ v) (h1 : ∀ s, s < n → P s = true → f s ≤ v) (h2 : v = v0 ∨ ∃ s, s < n ∧ P s = true ∧ v = f s) : rn f P v0 n = v := by
  have le : ∀ k, k ≤ n → rn f P v0 k ≤ v := by
    intro k
    induction k with
    | zero => intro _; exact h0
    | succ k ih =>
      intro hk
      simp only [rn]
      have := ih (by omega)
      cases hp : P k
      · simpa using this
      · have := h1 k (by omega) hp
        rw [if_pos rfl]
        omega
  have ge : ∀ k, v0 ≤ rn f P v0 k ∧ ∀ s, s < k → P s = true → f s ≤ rn f P v0 k := by
    intro k
    induction k with
    | zero => exact ⟨Nat.le_refl _, fun s hs => by omega⟩
    | succ k ih =>
      obtain ⟨i1, i2⟩ := ih
      simp only [rn]
      cases hp : P k
      · rw [if_neg (by simp)]
        refine ⟨i1, fun s hs hps => ?_⟩
        by_cases hsk : s = k
        · rw [hsk, hp] at hps; cases hps
        · exact i2 s (by omega) hps
      · rw [if_pos rfl]
        refine ⟨by omega, fun s hs hps => ?_⟩
        by_cases hsk : s = k
        · subst hsk; omega
        · have := i2 s (by omega) hps; omega
  apply Nat.le_antisymm (le n (Nat.le_refl _))
  rcases h2 with h2 | ⟨s, hs, hp, h2⟩
  · rw [h2]; exact (ge n).1
  · rw [h2]; exact (ge n).2 s hs hp

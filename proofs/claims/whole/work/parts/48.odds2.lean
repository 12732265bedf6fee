/-! odds: the fraction made short -/
def Sh (N n a b u l : Nat) : Prop := ∃ p q, p ≤ a ∧ q ≤ b ∧ 2 ^ p * 5 ^ q * u = N ∧ l = 2 ^ (n - p) * 5 ^ (n - q) ∧ (p = a ∨ u % 2 = 1) ∧ (q = b ∨ u % 5 ≠ 0)
theorem sh2 {N n a b u l : Nat} (h : Sh N n a b u l) (ha : a < n) : Sh N n (a + 1) b (if u % 2 = 0 then u / 2 else u) (if u % 2 = 0 then l / 2 else l) := by
  obtain ⟨p, q, h1, h2, h3, h4, h5, h6⟩ := h
  by_cases hu : u % 2 = 0
  · rw [if_pos hu, if_pos hu]
    have hp : p = a := by omega
    subst hp
    refine ⟨p + 1, q, by omega, h2, ?_, ?_, Or.inl rfl, ?_⟩
    · rw [← h3, Nat.pow_succ, Nat.mul_assoc (2 ^ p) 2, Nat.mul_comm 2 (5 ^ q), ← Nat.mul_assoc, Nat.mul_assoc (2 ^ p * 5 ^ q), show 2 * (u / 2) = u by omega]
    · rw [h4, show n - p = (n - (p + 1)) + 1 by omega, Nat.pow_succ, Nat.mul_comm _ 2, Nat.mul_assoc, Nat.mul_div_cancel_left _ (by decide)]
    · rcases h6 with h6 | h6
      · exact Or.inl h6
      · exact Or.inr (by omega)
  · rw [if_neg hu, if_neg hu]
    exact ⟨p, q, by omega, h2, h3, h4, Or.inr (by omega), h6⟩
theorem sh5 {N n a b u l : Nat} (h : Sh N n a b u l) (hb : b < n) : Sh N n a (b + 1) (if u % 5 = 0 then u / 5 else u) (if u % 5 = 0 then l / 5 else l) := by
  obtain ⟨p, q, h1, h2, h3, h4, h5, h6⟩ := h
  by_cases hu : u % 5 = 0
  · rw [if_pos hu, if_pos hu]
    have hq : q = b := by omega
    subst hq
    refine ⟨p, q + 1, h1, by omega, ?_, ?_, ?_, Or.inl rfl⟩
    · rw [← h3, Nat.pow_succ, ← Nat.mul_assoc, Nat.mul_assoc (2 ^ p * 5 ^ q), show 5 * (u / 5) = u by omega]
    · rw [h4, show n - q = (n - (q + 1)) + 1 by omega, Nat.pow_succ, ← Nat.mul_assoc, Nat.mul_div_cancel _ (by decide)]
    · rcases h5 with h5 | h5
      · exact Or.inl h5
      · exact Or.inr (by omega)
  · rw [if_neg hu, if_neg hu]
    exact ⟨p, q, h1, by omega, h3, h4, h5, Or.inr hu⟩
theorem cop2 {u : Nat} (h : u % 2 = 1) : Nat.Coprime u 2 := by
  unfold Nat.Coprime
  rw [Nat.gcd_comm, Nat.gcd_rec, h]
  exact Nat.gcd_one_left 2
theorem cop5 {u : Nat} (h : u % 5 ≠ 0) : Nat.Coprime u 5 := by
  unfold Nat.Coprime
  rw [Nat.gcd_comm, Nat.gcd_rec]
  have : u % 5 < 5 := Nat.mod_lt _ (by decide)
  generalize u % 5 = r at *
  have : ∀ r, r < 5 → r ≠ 0 → Nat.gcd r 5 = 1 := by decide
  exact this r (by assumption) h
theorem sh_end {N n u l : Nat} (h : Sh N n n n u l) : u = N / Nat.gcd N (10 ^ n) ∧ l = 10 ^ n / Nat.gcd N (10 ^ n) := by
  obtain ⟨p, q, h1, h2, h3, h4, h5, h6⟩ := h
  have c : Nat.Coprime u l := by
    rw [h4]
    apply Nat.Coprime.mul_right
    · rcases h5 with h5 | h5
      · rw [h5, Nat.sub_self, Nat.pow_zero]; exact Nat.coprime_one_right _
      · exact Nat.Coprime.pow_right _ (cop2 h5)
    · rcases h6 with h6 | h6
      · rw [h6, Nat.sub_self, Nat.pow_zero]; exact Nat.coprime_one_right _
      · exact Nat.Coprime.pow_right _ (cop5 h6)
  have e10 : 10 ^ n = 2 ^ p * 5 ^ q * l := by
    rw [h4, show (10 : Nat) = 2 * 5 from rfl, Nat.mul_pow]
    have e2 : 2 ^ n = 2 ^ p * 2 ^ (n - p) := by rw [← Nat.pow_add, show p + (n - p) = n by omega]
    have e5 : 5 ^ n = 5 ^ q * 5 ^ (n - q) := by rw [← Nat.pow_add, show q + (n - q) = n by omega]
    rw [e2, e5]
    simp only [Nat.mul_assoc]
    congr 1
    rw [Nat.mul_left_comm]
  have hd : 0 < 2 ^ p * 5 ^ q := Nat.mul_pos (Nat.pow_pos (by decide)) (Nat.pow_pos (by decide))
  have hg : Nat.gcd N (10 ^ n) = 2 ^ p * 5 ^ q := by
    rw [← h3, e10, Nat.gcd_mul_left, show Nat.gcd u l = 1 from c, Nat.mul_one]
  rw [hg]
  constructor
  · rw [← h3, Nat.mul_div_cancel_left _ hd]
  · rw [e10, Nat.mul_div_cancel_left _ hd]
def redU : Nat → Nat → Nat
  | 0, u => u
  | k + 1, u => let v := redU k u; let w := if v % 2 = 0 then v / 2 else v; if w % 5 = 0 then w / 5 else w
def redL : Nat → Nat → Nat → Nat
  | 0, _, l => l
  | k + 1, u, l => let v := redU k u; let w := if v % 2 = 0 then v / 2 else v; let m := redL k u l; let o := if v % 2 = 0 then m / 2 else m; if w % 5 = 0 then o / 5 else o
theorem red_sh {N n : Nat} (i : Nat) (hi : i ≤ n) : Sh N n i i (redU i N) (redL i N (10 ^ n)) := by
  induction i with
  | zero =>
    refine ⟨0, 0, by omega, by omega, by simp [redU], ?_, Or.inl rfl, Or.inl rfl⟩
    show 10 ^ n = 2 ^ (n - 0) * 5 ^ (n - 0)
    rw [show (10 : Nat) = 2 * 5 from rfl, Nat.mul_pow]
    rfl
  | succ i ih => exact sh5 (sh2 (ih (by omega)) (by omega)) (by omega)
theorem redU_le (i u : Nat) : redU i u ≤ u := by
  induction i with
  | zero => exact Nat.le_refl _
  | succ i ih =>
    have e : redU (i + 1) u = (if (if redU i u % 2 = 0 then redU i u / 2 else redU i u) % 5 = 0 then (if redU i u % 2 = 0 then redU i u / 2 else redU i u) / 5 else (if redU i u % 2 = 0 then redU i u / 2 else redU i u)) := rfl
    rw [e]
    have : (if redU i u % 2 = 0 then redU i u / 2 else redU i u) ≤ redU i u := by split <;> omega
    generalize (if redU i u % 2 = 0 then redU i u / 2 else redU i u) = w at *
    split <;> omega
theorem redL_le (i u l : Nat) : redL i u l ≤ l := by
  induction i with
  | zero => exact Nat.le_refl _
  | succ i ih =>
    have e : redL (i + 1) u l = (if (if redU i u % 2 = 0 then redU i u / 2 else redU i u) % 5 = 0 then (if redU i u % 2 = 0 then redL i u l / 2 else redL i u l) / 5 else (if redU i u % 2 = 0 then redL i u l / 2 else redL i u l)) := rfl
    rw [e]
    have : (if redU i u % 2 = 0 then redL i u l / 2 else redL i u l) ≤ redL i u l := by split <;> omega
    generalize (if redU i u % 2 = 0 then redL i u l / 2 else redL i u l) = w at *
    generalize (if redU i u % 2 = 0 then redU i u / 2 else redU i u) = w' at *
    split <;> omega
theorem short_eq (F : Nat) (hF : 4000 ≤ F) {S : ST} {n : Nat} (hn : S.2.1 9 1 = nI n) (h9 : n ≤ 9) (x : Int32) {u l : Nat} (hu : u < 2 ^ 31) (hl : l < 2 ^ 31) : fX9_odds_b70 F F 0 x (nI l) (nI u) 0 (hp S) = some (if x = 0 then nI (redU n u) else nI (redL n u l), hp S) := by
  have := loopA (fun k i (st : Int32 × Int32) => fX9_odds_b70 F k 0 x st.1 st.2 (nI i) (hp S)) n (fun i => (nI (redL i u l), nI (redU i u))) (some (if x = 0 then nI (redU n u) else nI (redL n u l), hp S)) ?_ ?_ F 0 (by omega) (by omega)
  · exact this
  · intro k
    show fX9_odds_b70c F _ 0 x (nI (redL n u l)) (nI (redU n u)) (nI n) (hp S) = _
    unfold fX9_odds_b70c
    simp only [Option.bind_some, Nat.reduceAdd, ob8 kd_0, g8_0 kd_0, g8_1 kd_0, g8_2 kd_0, g8_3 kd_0, g8_4 kd_0, g8_5 kd_0, g8_6 kd_0, g8_7 kd_0, g8_8 kd_0, g8_9 kd_0, p8_5 kd_0, p8_9 kd_0, ob6 kd_9, g6_0 kd_9, g6_1 kd_9, g6_2 kd_9, g6_3 kd_9, g6_4 kd_9, g6_5 kd_9, g6_6 kd_9, g6_7 kd_9, p6_0 kd_9, p6_1 kd_9, p6_2 kd_9, hn]
    rw [if_pos (nI_le (Nat.le_refl _) (by omega))]
    by_cases hx0 : x = 0
    · rw [if_pos hx0, if_pos hx0]
    · rw [if_neg hx0, if_neg hx0]
  · intro k i hi
    have b1 := redU_le i u
    have b2 := redL_le i u l
    have e1 : redU (i + 1) u = (if (if redU i u % 2 = 0 then redU i u / 2 else redU i u) % 5 = 0 then (if redU i u % 2 = 0 then redU i u / 2 else redU i u) / 5 else (if redU i u % 2 = 0 then redU i u / 2 else redU i u)) := rfl
    have e2 : redL (i + 1) u l = (if (if redU i u % 2 = 0 then redU i u / 2 else redU i u) % 5 = 0 then (if redU i u % 2 = 0 then redL i u l / 2 else redL i u l) / 5 else (if redU i u % 2 = 0 then redL i u l / 2 else redL i u l)) := rfl
    show fX9_odds_b70c F _ 0 x (nI (redL i u l)) (nI (redU i u)) (nI i) (hp S) = fX9_odds_b70 F k 0 x (nI (redL (i + 1) u l)) (nI (redU (i + 1) u)) (nI (i + 1)) (hp S)
    rw [e1, e2]
    generalize redU i u = U at *
    generalize redL i u l = L at *
    have h101 : ∀ L U : Nat, L < 2 ^ 31 → U < 2 ^ 31 → fX9_odds_b101 F (fX9_odds_b70 F k) 0 x (nI L) (nI U) (nI i) (hp S) = fX9_odds_b70 F k 0 x (nI (if U % 5 = 0 then L / 5 else L)) (nI (if U % 5 = 0 then U / 5 else U)) (nI (i + 1)) (hp S) := by
      intro L U hL hU
      unfold fX9_odds_b101 fX9_odds_b120
      rw [show nI U - nI U / 5 * 5 = nI (U % 5) from pk_rem (d := 5) hU (by decide) (by decide), show nI U / 5 = nI (U / 5) from pk_div (d := 5) hU (by decide) (by decide), show nI L / 5 = nI (L / 5) from pk_div (d := 5) hL (by decide) (by decide), nI_1]
      by_cases h : U % 5 = 0
      · rw [if_pos (by rw [h]; rfl), if_pos h, if_pos h]
      · rw [if_neg (nI_ne0 (by omega) (by omega)), if_neg h, if_neg h]
    unfold fX9_odds_b70c
    simp only [Option.bind_some, Nat.reduceAdd, ob8 kd_0, g8_0 kd_0, g8_1 kd_0, g8_2 kd_0, g8_3 kd_0, g8_4 kd_0, g8_5 kd_0, g8_6 kd_0, g8_7 kd_0, g8_8 kd_0, g8_9 kd_0, p8_5 kd_0, p8_9 kd_0, ob6 kd_9, g6_0 kd_9, g6_1 kd_9, g6_2 kd_9, g6_3 kd_9, g6_4 kd_9, g6_5 kd_9, g6_6 kd_9, g6_7 kd_9, p6_0 kd_9, p6_1 kd_9, p6_2 kd_9, hn]
    rw [if_neg (nI_ge hi (by omega)), show nI U - nI U / 2 * 2 = nI (U % 2) from pk_rem (d := 2) (by omega) (by decide) (by decide), show nI U / 2 = nI (U / 2) from pk_div (d := 2) (by omega) (by decide) (by decide), show nI L / 2 = nI (L / 2) from pk_div (d := 2) (by omega) (by decide) (by decide)]
    by_cases h : U % 2 = 0
    · rw [if_pos (by rw [h]; rfl), h101 _ _ (by omega) (by omega), if_pos h, if_pos h]
    · rw [if_neg (nI_ne0 (by omega) (by omega)), h101 _ _ (by omega) (by omega), if_neg h, if_neg h]
theorem euclid (F : Nat) (L : HL) (x : Int32) {A B : Nat} (hA : A < 2 ^ 31) (hB : B < 2 ^ 31) (m : Nat) : ∀ (K u v : Nat), v < 2 ^ m → u < 2 ^ 31 → v < 2 ^ 31 → 0 < u + v → 2 * m + 1 < K → fX10_odds_b175 F K x (nI A) (nI B) (nI u) (nI v) L = some (if x = 0 then nI (A / Nat.gcd u v) else nI (B / Nat.gcd u v), L) := by
  have stop : ∀ K u, 0 < u → u < 2 ^ 31 → 0 < K → fX10_odds_b175 F K x (nI A) (nI B) (nI u) (nI 0) L = some (if x = 0 then nI (A / Nat.gcd u 0) else nI (B / Nat.gcd u 0), L) := by
    intro K u hu0 hu hK
    obtain ⟨k, rfl⟩ : ∃ k, K = k + 1 := ⟨K - 1, by omega⟩
    show fX10_odds_b175c F _ x (nI A) (nI B) (nI u) (nI 0) L = _
    unfold fX10_odds_b175c
    rw [if_pos (by rfl), if_neg (nI_ne0 hu0 hu), if_neg (nI_ne0 hu0 hu), Nat.gcd_zero_right, pk_div hA hu0 hu, pk_div hB hu0 hu]
    by_cases hx0 : x = 0
    · rw [if_pos hx0, if_pos hx0]
    · rw [if_neg hx0, if_neg hx0]
  have go : ∀ k u v, 0 < v → u < 2 ^ 31 → v < 2 ^ 31 → fX10_odds_b175 F (k + 1) x (nI A) (nI B) (nI u) (nI v) L = fX10_odds_b175 F k x (nI A) (nI B) (nI v) (nI (u % v)) L ∧ Nat.gcd v (u % v) = Nat.gcd u v := by
    intro k u v hv hu hv2
    constructor
    · show fX10_odds_b175c F _ x (nI A) (nI B) (nI u) (nI v) L = _
      unfold fX10_odds_b175c
      rw [if_neg (nI_ne0 hv hv2), if_neg (nI_ne0 hv hv2), pk_rem hu hv hv2]
    · rw [Nat.gcd_comm u v, Nat.gcd_rec v u, Nat.gcd_comm]
  induction m with
  | zero =>
    intro K u v h1 h2 h3 h4 h5
    have : v = 0 := by omega
    subst this
    exact stop K u (by omega) h2 (by omega)
  | succ m ih =>
    intro K u v h1 h2 h3 h4 h5
    by_cases hv : v = 0
    · subst hv
      exact stop K u (by omega) h2 (by omega)
    · obtain ⟨k, rfl⟩ : ∃ k, K = k + 1 + 1 := ⟨K - 2, by omega⟩
      obtain ⟨g1, g2⟩ := go (k + 1) u v (by omega) h2 h3
      rw [g1, ← g2]
      have hr : u % v < v := Nat.mod_lt _ (by omega)
      by_cases hr0 : u % v = 0
      · rw [hr0]
        exact stop (k + 1) v (by omega) h3 (by omega)
      · obtain ⟨g3, g4⟩ := go k v (u % v) (by omega) h3 (by omega)
        rw [g3, ← g4]
        generalize u % v = r at *
        have hs : v % r < r := Nat.mod_lt _ (by omega)
        have hs2 : v % r + r ≤ v := by
          have := Nat.div_add_mod v r
          have h1 : 1 ≤ v / r := Nat.div_pos (by omega) (by omega)
          have : r * 1 ≤ r * (v / r) := Nat.mul_le_mul_left _ h1
          omega
        have hp : 2 ^ (m + 1) = 2 ^ m * 2 := Nat.pow_succ 2 m
        exact ih k r (v % r) (by omega) (by omega) (by omega) (by omega) (by omega)

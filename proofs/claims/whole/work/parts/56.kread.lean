/-! the class reads a whole text -/
theorem k_lone (F : Nat) {S : ST} {T : Nat} {tx : Nat → Nat} (kx : KX S T tx) (hT : T ≤ 120) (hx : ∀ j, j < T → tx j < 256) {u : Nat} (hu : u ≤ T) (hp' : S.2.1 1 1 = nI u) : fX6_loneLetter F (hp S) 1 = some (if (decide (u + 1 < T) && ltb (tx (u + 1))) then -1 else cb T tx u, hp S) := by
  unfold fX6_loneLetter
  simp only [Option.bind_some, Nat.reduceAdd, ob5 kd_1, g5_0 kd_1, g5_1 kd_1, g5_2 kd_1, p5_1 kd_1, p5_2 kd_1, hp', nI_1, byteAt_eq F kx hT (show u < 2 ^ 20 by omega), byteAt_eq F kx hT (show u + 1 < 2 ^ 20 by omega), isLetter_eq F _ hx]
  cases (decide (u + 1 < T) && ltb (tx (u + 1)))
  · simp
  · simp
theorem lone_iff {T : Nat} {tx : Nat → Nat} (hx : ∀ j, j < T → tx j < 256) {u : Nat} (x : Int32) (m : Nat) (e : x = nI m) (hm : m < 256) : ((if (decide (u + 1 < T) && ltb (tx (u + 1))) then -1 else cb T tx u) = x) ↔ lone T tx u m = true := by
  unfold lone
  cases (decide (u + 1 < T) && ltb (tx (u + 1)))
  · rw [if_neg (by simp), cbe hx x m e hm]
    simp
  · rw [if_pos rfl, e]
    simp only [Bool.not_true, Bool.and_false]
    exact ⟨fun h => absurd h.symm (nI_m1 (by omega)), fun h => absurd h (by simp)⟩
theorem KR.of {S S1 : ST} {T : Nat} {tx : Nat → Nat} {r : Option (Int32 × HL)} {q : Nat ⊕ (Nat × Mo)} (h : KR S1 T tx r q) (hf : Fr 1 9 S S1) : KR S T tx r q := by
  cases q with
  | inl v =>
    obtain ⟨S', a, b, c, d⟩ := h
    exact ⟨S', a, Fr.tr hf b, c, d⟩
  | inr x =>
    obtain ⟨S', a, b, c⟩ := h
    exact ⟨S', a, Fr.tr hf b, c⟩
theorem KR.b {S : ST} {T : Nat} {tx : Nat → Nat} {r : Option (Int32 × HL)} {q : Nat ⊕ (Nat × Mo)} (h : KR S T tx r q) : KR S T tx (r.bind fun z => (o_b z.1).bind fun _ => some (z.1, z.2)) q := by
  cases q with
  | inl v =>
    obtain ⟨S', a, b, c, d⟩ := h
    exact ⟨S', by rw [a]; rfl, b, c, d⟩
  | inr x =>
    obtain ⟨S', a, b, c⟩ := h
    exact ⟨S', by rw [a]; rfl, b, c⟩
theorem k_item (F : Nat) (hF : 4000 ≤ F) {S : ST} {T : Nat} {tx : Nat → Nat} (hT : T ≤ 120) (hx : ∀ j, j < T → tx j < 256) {u : Nat} (hu : u < T) {d : Mo} (h : KP S T tx u d) (hd : DW d) (first : Bool) : KR S T tx (fX6_readItem F (hp S) 1 3 (if first then 1 else 0)) (pI T tx first u d) := by
  have hn := hd.2.1
  have hc := hd.2.2.1
  have hto := h.to (u + 1)
  have tC : fX6_readItem_b62 F 1 3 (if (decide (u + 1 < T) && ltb (tx (u + 1))) then -1 else cb T tx u) (hp S) = (if lone T tx u 99 && decide (d 2 0 < 6) then (fX6_readCitizen F (hp (stJ S 1 1 (nI (u + 1)))) 1 3).bind fun z => (o_b z.1).bind fun _ => some (z.1, z.2) else some (0, hp S)) := by
    unfold fX6_readItem_b62 fX6_readItem_b93
    simp only [Option.bind_some, Nat.reduceAdd, ob5 kd_1, g5_0 kd_1, g5_1 kd_1, g5_2 kd_1, p5_1 kd_1, p5_2 kd_1, ob6 kd_3, g6_0 kd_3, g6_1 kd_3, g6_2 kd_3, g6_3 kd_3, g6_4 kd_3, g6_5 kd_3, g6_6 kd_3, g6_7 kd_3, p6_0 kd_3, p6_1 kd_3, p6_2 kd_3, h.1, h.2.2.2.2.1, nI_1]
    have li := lone_iff (u := u) hx 99 99 rfl (by omega)
    generalize (if (decide (u + 1 < T) && ltb (tx (u + 1))) then (-1 : Int32) else cb T tx u) = l at *
    by_cases h1 : l = 99
    · rw [if_pos h1, li.mp h1]
      by_cases h2 : d 2 0 < 6
      · rw [if_neg (show ¬ (6 : Int32) ≤ nI (d 2 0) from nI_ge (b := 6) h2 (by decide)), if_pos (by simp [h2])]
      · rw [if_pos (show (6 : Int32) ≤ nI (d 2 0) from nI_le (a := 6) (by omega) (by omega)), if_neg (by simp [h2])]
    · rw [if_neg h1, if_neg (fun e => h1 (li.mpr (by rw [Bool.and_eq_true] at e; exact e.1)))]
  have tS : fX6_readItem_b31 F 1 3 (if (decide (u + 1 < T) && ltb (tx (u + 1))) then -1 else cb T tx u) (hp S) = (if lone T tx u 115 && decide (d 1 0 < 9) then (fX6_readStreet F (hp (stJ S 1 1 (nI (u + 1)))) 1 3).bind fun z => (o_b z.1).bind fun _ => some (z.1, z.2) else fX6_readItem_b62 F 1 3 (if (decide (u + 1 < T) && ltb (tx (u + 1))) then -1 else cb T tx u) (hp S)) := by
    unfold fX6_readItem_b31
    simp only [Option.bind_some, Nat.reduceAdd, ob5 kd_1, g5_0 kd_1, g5_1 kd_1, g5_2 kd_1, p5_1 kd_1, p5_2 kd_1, ob6 kd_3, g6_0 kd_3, g6_1 kd_3, g6_2 kd_3, g6_3 kd_3, g6_4 kd_3, g6_5 kd_3, g6_6 kd_3, g6_7 kd_3, p6_0 kd_3, p6_1 kd_3, p6_2 kd_3, h.1, h.2.2.2.1, nI_1]
    have li := lone_iff (u := u) hx 115 115 rfl (by omega)
    generalize (if (decide (u + 1 < T) && ltb (tx (u + 1))) then (-1 : Int32) else cb T tx u) = l at *
    by_cases h1 : l = 115
    · rw [if_pos h1, li.mp h1]
      by_cases h2 : d 1 0 < 9
      · rw [if_neg (show ¬ (9 : Int32) ≤ nI (d 1 0) from nI_ge (b := 9) h2 (by decide)), if_pos (by simp [h2])]
      · rw [if_pos (show (9 : Int32) ≤ nI (d 1 0) from nI_le (a := 9) (by omega) (by omega)), if_neg (by simp [h2])]
    · rw [if_neg h1, if_neg (fun e => h1 (li.mpr (by rw [Bool.and_eq_true] at e; exact e.1)))]
  have tY : fX6_readItem F (hp S) 1 3 (if first then 1 else 0) = (if lone T tx u 121 && first then (fX6_readYards F (hp (stJ S 1 1 (nI (u + 1)))) 1 3).bind fun z => (o_b z.1).bind fun _ => some (z.1, z.2) else fX6_readItem_b31 F 1 3 (if (decide (u + 1 < T) && ltb (tx (u + 1))) then -1 else cb T tx u) (hp S)) := by
    unfold fX6_readItem
    simp only [Option.bind_some, Nat.reduceAdd, ob5 kd_1, g5_0 kd_1, g5_1 kd_1, g5_2 kd_1, p5_1 kd_1, p5_2 kd_1, k_lone F h.2.1 hT hx (Nat.le_of_lt hu) h.1, h.1, nI_1]
    have li := lone_iff (u := u) hx 121 121 rfl (by omega)
    generalize (if (decide (u + 1 < T) && ltb (tx (u + 1))) then (-1 : Int32) else cb T tx u) = l at *
    by_cases h1 : l = 121
    · rw [if_pos h1, li.mp h1]
      cases first
      · simp
      · simp
    · rw [if_neg h1, if_neg (fun e => h1 (li.mpr (by rw [Bool.and_eq_true] at e; exact e.1)))]
  rw [tY]
  unfold pI
  by_cases c1 : (lone T tx u 121 && first) = true
  · rw [if_pos c1, if_pos c1]
    exact ((k_Y F hF hT hx (by omega) hto).of Fr_pl).b
  · rw [if_neg c1, if_neg c1, tS]
    by_cases c2 : (lone T tx u 115 && decide (d 1 0 < 9)) = true
    · rw [if_pos c2, if_pos c2]
      rw [Bool.and_eq_true] at c2
      exact ((k_S F hF hT hx (by omega) hto hd (of_decide_eq_true c2.2)).of Fr_pl).b
    · rw [if_neg c2, if_neg c2, tC]
      by_cases c3 : (lone T tx u 99 && decide (d 2 0 < 6)) = true
      · rw [if_pos c3, if_pos c3]
        rw [Bool.and_eq_true] at c3
        exact ((k_C F hF hT hx (by omega) hto hd (of_decide_eq_true c3.2)).of Fr_pl).b
      · rw [if_neg c3, if_neg c3]
        exact ⟨S, rfl, Fr.rf, h.2.1, h.1⟩
theorem k_end (F : Nat) (hF : 4000 ≤ F) {S : ST} {T : Nat} {tx : Nat → Nat} (hT : T ≤ 120) (hx : ∀ j, j < T → tx j < 256) {t : Nat} (ht : t ≤ T) {d : Mo} (h : KP S T tx t d) : fX6_readEnd F (hp S) 1 = if pE T tx (sk T tx t) then some (1, hp (stJ S 1 1 (nI (sk T tx t + 1)))) else some (0, hp (stJ S 1 1 (nI (sk T tx t)))) := by
  have hs := sk_le (tx := tx) ht
  have h1 := h.to (sk T tx t)
  unfold fX6_readEnd
  simp only [Option.bind_some, Nat.reduceAdd, ob5 kd_1, g5_0 kd_1, g5_1 kd_1, g5_2 kd_1, p5_1 kd_1, p5_2 kd_1, k_skip F hF h.2.1 hT hx ht h.1, h1.1, byteAt_eq F h1.2.1 hT (show sk T tx t < 2 ^ 20 by omega), stJ_stJ, nI_1]
  unfold pE
  by_cases c : sk T tx t < T ∧ tx (sk T tx t) = 59
  · rw [if_pos ((cbe hx 59 59 rfl (by omega)).mpr c), if_pos (decide_eq_true c)]
  · rw [if_neg (fun e => c ((cbe hx 59 59 rfl (by omega)).mp e)), if_neg (fun e => c (of_decide_eq_true e))]
def KQ (S : ST) (T : Nat) (tx : Nat → Nat) (r : Option (Int32 × HL)) (q : Nat ⊕ (Nat × Mo)) : Prop :=
  match q with
  | .inl v => ∃ S', r = some ((-10) - nI v, hp S') ∧ Fr 1 9 S S' ∧ KX S' T tx
  | .inr x => ∃ S', r = some (nI x.1, hp S') ∧ Fr 1 9 S S' ∧ KX S' T tx ∧ DK S' x.2
theorem KQ.of {S S1 : ST} {T : Nat} {tx : Nat → Nat} {r : Option (Int32 × HL)} {q : Nat ⊕ (Nat × Mo)} (h : KQ S1 T tx r q) (hf : Fr 1 9 S S1) : KQ S T tx r q := by
  cases q with
  | inl v =>
    obtain ⟨S', a, b, c⟩ := h
    exact ⟨S', a, Fr.tr hf b, c⟩
  | inr x =>
    obtain ⟨S', a, b, c⟩ := h
    exact ⟨S', a, Fr.tr hf b, c⟩
theorem k_main (F : Nat) (hF : 4000 ≤ F) {T : Nat} {tx : Nat → Nat} (hT : T ≤ 120) (hx : ∀ j, j < T → tx j < 256) {items t m : Nat} {d : Mo} {S : ST} (hi60 : items ≤ 61) (h3 : t ≤ T) (h : KP S T tx t d) : fX6_readInto_b11 F (m + 1) 1 3 (nI items) (hp S) = if sk T tx t < T then (fX6_readItem F (hp (stJ S 1 1 (nI (sk T tx t)))) 1 3 (if (items == 0) then 1 else 0)).bind (fun z10 => if z10.1 = 0 then (fX6_readInto_b58 F 1 z10.2) else ((fX6_readEnd F z10.2 1).bind fun z13 => if z13.1 = 0 then (fX6_readInto_b58 F 1 z13.2) else (fX6_readInto_b11 F m 1 3 (nI items + 1) z13.2))) else some (nI items, hp (stJ S 1 1 (nI (sk T tx t)))) := by
  have hs := sk_le (tx := tx) h3
  have hk := h.to (sk T tx t)
  show fX6_readInto_b11c F _ 1 3 (nI items) (hp S) = _
  unfold fX6_readInto_b11c
  rw [if_neg (show ¬ (120 : Int32) ≤ nI items from nI_ge (b := 120) (by omega) (by decide)), k_skip F hF h.2.1 hT hx h3 h.1, Option.bind_some]
  obtain ⟨q1, q2, q3⟩ := hk
  have q4 := q2.1
  generalize stJ S 1 1 (nI (sk T tx t)) = SS at *
  simp only [Option.bind_some, Nat.reduceAdd, ob5 kd_1, g5_0 kd_1, g5_1 kd_1, g5_2 kd_1, p5_1 kd_1, p5_2 kd_1, q1, q4]
  by_cases hlt : sk T tx t < T
  · rw [if_pos (nI_lt hlt (by omega)), if_pos hlt]
    unfold fX6_readInto_b45
    by_cases hi : items = 0
    · rw [if_pos (show nI items = 0 by rw [hi]; rfl), if_pos (show (items == 0) = true by rw [hi]; rfl)]
    · rw [if_neg (nI_ne0 (by omega) (by omega)), if_neg (by simp [hi])]
  · rw [if_neg (nI_nlt (by omega) (by omega)), if_neg hlt]
theorem k_run (F : Nat) (hF : 4000 ≤ F) {T : Nat} {tx : Nat → Nat} (hT : T ≤ 120) (hx : ∀ j, j < T → tx j < 256) (k : Nat) : ∀ (items t : Nat) (d : Mo) (S : ST) (K : Nat), k + items = 61 → 2 * items ≤ t → t ≤ T → k < K → KP S T tx t d → DW d → (items = 0 → d 1 0 = 0 ∧ d 2 0 = 0) → KQ S T tx (fX6_readInto_b11 F K 1 3 (nI items) (hp S)) (pRun T tx k items t d) := by
  induction k with
  | zero => intro items t d S K h1 h2 h3; omega
  | succ k ih =>
    intro items t d S K h1 h2 h3 h4 h hd h0
    obtain ⟨m, rfl⟩ : ∃ m, K = m + 1 := ⟨K - 1, by omega⟩
    have hs := sk_le (tx := tx) h3
    have hs0 := sk_ge T tx t
    have hk := h.to (sk T tx t)
    have main := k_main F hF hT hx (m := m) (items := items) (by omega) h3 h
    rw [main]
    by_cases hlt : sk T tx t < T
    · rw [if_pos hlt]
      unfold fX6_readInto_b58
      have ki := (k_item F hF hT hx hlt hk hd (items == 0)).of (S := S) Fr_pl
      have pl := pI_place (T := T) (tx := tx) (first := items == 0) (u := sk T tx t) (d := d) hlt
      have pd := pI_DW (T := T) (tx := tx) (first := items == 0) (u := sk T tx t) hd (fun hf => h0 (by simpa using hf))
      cases hq : pI T tx (items == 0) (sk T tx t) d with
      | inl v =>
        rw [hq] at ki
        obtain ⟨S', a, b, c, e⟩ := ki
        rw [a]
        simp only [Option.bind_some, Nat.reduceAdd, if_true, ob5 kd_1, g5_0 kd_1, g5_1 kd_1, g5_2 kd_1, p5_1 kd_1, p5_2 kd_1, e]
        have eq : pRun T tx (k + 1) items t d = .inl v := by simp only [pRun, if_pos hlt, hq]
        rw [eq]
        exact ⟨S', rfl, b, c⟩
      | inr x =>
        obtain ⟨t1, d1⟩ := x
        rw [hq] at ki
        obtain ⟨S', a, b, c⟩ := ki
        obtain ⟨p1, p2⟩ := pl.2 t1 d1 hq
        have hd1 := pd t1 d1 hq
        have c : KP S' T tx t1 d1 := c
        rw [a]
        simp only [Option.bind_some, Nat.reduceAdd, e10, if_false, k_end F hF hT hx p2 c]
        have hs1 := sk_ge T tx t1
        have hk0 := c.to (sk T tx t1)
        have hk1 := c.to (sk T tx t1 + 1)
        cases hE : pE T tx (sk T tx t1) with
        | true =>
          have hE' := of_decide_eq_true hE
          simp only [if_true, Option.bind_some, Nat.reduceAdd, e10, if_false, nI_1]
          have eq : pRun T tx (k + 1) items t d = pRun T tx k (items + 1) (sk T tx t1 + 1) d1 := by simp only [pRun, if_pos hlt, hq, hE, if_true]
          rw [eq]
          exact (ih (items + 1) (sk T tx t1 + 1) d1 _ m (by omega) (by omega) (by omega) (by omega) hk1 hd1 (by omega)).of (Fr.tr b Fr_pl)
        | false =>
          simp only [Bool.false_eq_true, if_false, Option.bind_some, Nat.reduceAdd, if_true, ob5 kd_1, g5_0 kd_1, g5_1 kd_1, g5_2 kd_1, p5_1 kd_1, p5_2 kd_1, hk0.1]
          have eq : pRun T tx (k + 1) items t d = .inl (sk T tx t1) := by simp only [pRun, if_pos hlt, hq, hE, Bool.false_eq_true, if_false]
          rw [eq]
          exact ⟨_, rfl, Fr.tr b Fr_pl, hk0.2.1⟩
    · rw [if_neg hlt]
      have eq : pRun T tx (k + 1) items t d = .inr (items, d) := by simp only [pRun, if_neg hlt]
      rw [eq]
      exact ⟨_, rfl, Fr_pl, hk.2.1, hk.2.2⟩
def d0 : Mo := fun f _ => if f = 0 then 4 else 0
theorem DW_d0 : DW d0 := ⟨by decide, by decide, by decide, fun s hs => absurd hs (Nat.not_lt_zero _), fun s hs => absurd hs (Nat.not_lt_zero _)⟩
theorem k_read (F : Nat) (hF : 4000 ≤ F) {S : ST} {T : Nat} {tx : Nat → Nat} (kx : KX S T tx) (hT : T ≤ 120) (hx : ∀ j, j < T → tx j < 256) : KQ S T tx (fX6_readInto F (hp S) 1 3) (pRun T tx 61 0 0 d0) := by
  unfold fX6_readInto fX7_begin_T
  simp only [Option.bind_some, Nat.reduceAdd, ob5 kd_1, g5_0 kd_1, g5_1 kd_1, g5_2 kd_1, p5_1 kd_1, p5_2 kd_1, ob6 kd_3, g6_0 kd_3, g6_1 kd_3, g6_2 kd_3, g6_3 kd_3, g6_4 kd_3, g6_5 kd_3, g6_6 kd_3, g6_7 kd_3, p6_0 kd_3, p6_1 kd_3, p6_2 kd_3]
  refine KQ.of (S1 := stJ (stJ (stJ (stJ S 3 0 4) 3 1 0) 3 2 0) 1 1 0) ?_ (Fr.tr (Fr.tr (Fr.tr (Fr.stJ (by omega) (by omega)) (Fr.stJ (by omega) (by omega))) (Fr.stJ (by omega) (by omega))) (Fr.stJ (by omega) (by omega)))
  refine k_run F hF hT hx 61 0 0 d0 _ F (by omega) (by omega) (by omega) (by omega) ⟨stJ_s _ _ _ _, ⟨?_, ?_⟩, ⟨?_, ?_, ?_, fun s hs => absurd hs (Nat.not_lt_zero _), fun s hs => absurd hs (Nat.not_lt_zero _)⟩⟩ DW_d0 (fun _ => ⟨rfl, rfl⟩)
  · rw [stJ_k _ _ (by decide), stJ_n _ _ (by decide), stJ_n _ _ (by decide), stJ_n _ _ (by decide)]; exact kx.1
  · exact kx.2
  · rw [stJ_n _ _ (by decide), stJ_k _ _ (by decide), stJ_k _ _ (by decide), stJ_s]; rfl
  · rw [stJ_n _ _ (by decide), stJ_k _ _ (by decide), stJ_s]; rfl
  · rw [stJ_n _ _ (by decide), stJ_s]; rfl

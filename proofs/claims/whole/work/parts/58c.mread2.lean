/-! the reference reads a whole text -/
theorem m_halt (F : Nat) {S : ST} {g : Nat → Int32} {m : Nat} (h14 : g 14 = 1) : fX10_read_b40 F (m + 1) 209 (hp (jS S g)) = some (hp (jS S g)) := by
  show fX10_read_b40c F _ 209 (hp (jS S g)) = _
  unfold fX10_read_b40c
  simp only [ob9 kd_209, g9_0 kd_209, g9_1 kd_209, g9_2 kd_209, g9_3 kd_209, g9_4 kd_209, g9_5 kd_209, g9_6 kd_209, g9_7 kd_209, g9_8 kd_209, g9_9 kd_209, g9_10 kd_209, g9_11 kd_209, g9_12 kd_209, g9_13 kd_209, g9_14 kd_209, g9_15 kd_209, g9_16 kd_209, g9_17 kd_209, g9_18 kd_209, g9_19 kd_209, g9_20 kd_209, g9_21 kd_209, g9_22 kd_209, g9_23 kd_209, g9_24 kd_209, g9_25 kd_209, p9_1 kd_209, p9_10 kd_209, p9_11 kd_209, p9_12 kd_209, p9_13 kd_209, p9_14 kd_209, p9_15 kd_209, p9_24 kd_209, p9_25 kd_209, Option.bind_some, Nat.reduceAdd, jS_f, h14, e10, if_false, ite_self]
theorem m_wrong (F : Nat) {S : ST} {g : Nat → Int32} {m : Nat} {x : Int32} (h14 : g 14 = 0) : fX10_read_b94 F (fX10_read_b40 F (m + 1)) 209 x 0 209 (hp (jS S g)) = some (hp (jS S (upd g 14 1))) := by
  have g14 : upd g 14 1 14 = 1 := upd_s _ _ _
  unfold fX10_read_b94 fX10_read_b136
  simp only [due_no F h14, ob9 kd_209, g9_0 kd_209, g9_1 kd_209, g9_2 kd_209, g9_3 kd_209, g9_4 kd_209, g9_5 kd_209, g9_6 kd_209, g9_7 kd_209, g9_8 kd_209, g9_9 kd_209, g9_10 kd_209, g9_11 kd_209, g9_12 kd_209, g9_13 kd_209, g9_14 kd_209, g9_15 kd_209, g9_16 kd_209, g9_17 kd_209, g9_18 kd_209, g9_19 kd_209, g9_20 kd_209, g9_21 kd_209, g9_22 kd_209, g9_23 kd_209, g9_24 kd_209, g9_25 kd_209, p9_1 kd_209, p9_10 kd_209, p9_11 kd_209, p9_12 kd_209, p9_13 kd_209, p9_14 kd_209, p9_15 kd_209, p9_24 kd_209, p9_25 kd_209, Option.bind_some, Nat.reduceAdd, jS_f, g14, e10, if_false, m_halt F g14]
theorem m_go (F : Nat) (hF : 4000 ≤ F) {S : ST} {f : Nat → Int32} {T : Nat} {tx : Nat → Nat} (hT : T ≤ 120) (hx : ∀ j, j < T → tx j < 256) (ht : TX S f T tx) {u : Nat} (hu : u ≤ T) (h14 : f 14 = 0) (hn : nx T tx u = u + 1) (k : Nat → HL → Option HL) (x : Int32) : fX10_read_b94 F k 209 x 1 209 (hp (jS S (tk T tx f u))) = (fX10_item F (hp (jS S (tk T tx f (sk T tx (u + 1))))) 209 x).bind fun z22 => (o_gI z22 209 9 12).bind fun v23 => if v23 = 3 then (fX10_read_b123 F k 209 1 209 z22) else (fX10_read_b123 F k 209 0 209 z22) := by
  have e14 : tk T tx f (sk T tx (u + 1)) 14 = 0 := by rw [tk_o (by omega)]; exact h14
  unfold fX10_read_b94
  simp only [due_ok F hF hT hx ht hu h14, hn, ob9 kd_209, g9_0 kd_209, g9_1 kd_209, g9_2 kd_209, g9_3 kd_209, g9_4 kd_209, g9_5 kd_209, g9_6 kd_209, g9_7 kd_209, g9_8 kd_209, g9_9 kd_209, g9_10 kd_209, g9_11 kd_209, g9_12 kd_209, g9_13 kd_209, g9_14 kd_209, g9_15 kd_209, g9_16 kd_209, g9_17 kd_209, g9_18 kd_209, g9_19 kd_209, g9_20 kd_209, g9_21 kd_209, g9_22 kd_209, g9_23 kd_209, g9_24 kd_209, g9_25 kd_209, p9_1 kd_209, p9_10 kd_209, p9_11 kd_209, p9_12 kd_209, p9_13 kd_209, p9_14 kd_209, p9_15 kd_209, p9_24 kd_209, p9_25 kd_209, Option.bind_some, Nat.reduceAdd, jS_f, e14, if_true]
theorem m_may (F : Nat) {S : ST} {g : Nat → Int32} {n c i : Nat} (hn : S.1 212 1 = nI n) (hc : S.1 216 1 = nI c) (hi : g 15 = nI i) (x : Int32) : fX10_may F (hp (jS S g)) 209 x = some (if x = 115 then (if (9 : Int32) ≤ nI n then 0 else 1) else if x = 121 then (if nI i = 0 then 1 else 0) else if x = 99 then (if (6 : Int32) ≤ nI c then 0 else 1) else 0, hp (jS S g)) := by
  unfold fX10_may fX10_may_b79
  simp only [ob9 kd_209, g9_0 kd_209, g9_1 kd_209, g9_2 kd_209, g9_3 kd_209, g9_4 kd_209, g9_5 kd_209, g9_6 kd_209, g9_7 kd_209, g9_8 kd_209, g9_9 kd_209, g9_10 kd_209, g9_11 kd_209, g9_12 kd_209, g9_13 kd_209, g9_14 kd_209, g9_15 kd_209, g9_16 kd_209, g9_17 kd_209, g9_18 kd_209, g9_19 kd_209, g9_20 kd_209, g9_21 kd_209, g9_22 kd_209, g9_23 kd_209, g9_24 kd_209, g9_25 kd_209, p9_1 kd_209, p9_10 kd_209, p9_11 kd_209, p9_12 kd_209, p9_13 kd_209, p9_14 kd_209, p9_15 kd_209, p9_24 kd_209, p9_25 kd_209, Option.bind_some, Nat.reduceAdd, jS_f, jS_1, m212_1, m216_1, hn, hc, hi]
  by_cases c1 : x = 115
  · simp only [if_pos c1]; split <;> rfl
  · simp only [if_neg c1]
    by_cases c2 : x = 121
    · simp only [if_pos c2]; split <;> rfl
    · simp only [if_neg c2]
      by_cases c3 : x = 99
      · simp only [if_pos c3]; split <;> rfl
      · simp only [if_neg c3]
theorem m_item (F : Nat) (hF : 4000 ≤ F) {S : ST} {f : Nat → Int32} {T : Nat} {tx : Nat → Nat} (hT : T ≤ 120) (hx : ∀ j, j < T → tx j < 256) (ht : TX S f T tx) {u : Nat} (hu : u < T) (h14 : f 14 = 0) {items : Nat} (h15 : f 15 = nI items) (hi : items ≤ 61) {d : Mo} (hd : DM S d) (hw : DW d) (m : Nat) :
    (pI T tx (items == 0) u d = .inl u ∧ fX10_read_b40 F (m + 2) 209 (hp (jS S (tk T tx f u))) = some (hp (jS S (upd (tk T tx f u) 14 1)))) ∨ ∃ x, MR S f T tx (fX10_item F (hp (jS S (tk T tx f (sk T tx (u + 1))))) 209 x) (pI T tx (items == 0) u d) ∧ fX10_read_b40 F (m + 2) 209 (hp (jS S (tk T tx f u))) = (fX10_item F (hp (jS S (tk T tx f (sk T tx (u + 1))))) 209 x).bind fun z22 => (o_gI z22 209 9 12).bind fun v23 => if v23 = 3 then (fX10_read_b123 F (fX10_read_b40 F (m + 1)) 209 1 209 z22) else (fX10_read_b123 F (fX10_read_b40 F (m + 1)) 209 0 209 z22) := by
  have e12 : tk T tx f u 12 = nI (so T tx u) := rfl
  have e13 : tk T tx f u 13 = nI (vv T tx u) := rfl
  have e14 : tk T tx f u 14 = 0 := by rw [tk_o (by omega)]; exact h14
  have e15 : tk T tx f u 15 = nI items := by rw [tk_o (by omega)]; exact h15
  have h5 := so_4 (T := T) (tx := tx) u
  have hv := vv_le hx u
  have n4 : ¬ nI (so T tx u) = 4 := fun q => (h5.1.mp ((nI_eq (b := 4) (by omega) (by decide)).mp q)) hu
  have w0 : ∀ x, fX10_read_b94 F (fX10_read_b40 F (m + 1)) 209 x 0 209 (hp (jS S (tk T tx f u))) = some (hp (jS S (upd (tk T tx f u) 14 1))) := fun x => m_wrong F e14
  have wt := fun k hk => word_tok (T := T) (tx := tx) u k hk
  have hn9 := hw.2.1
  have hc6 := hw.2.2.1
  rw [show fX10_read_b40 F (m + 2) 209 (hp (jS S (tk T tx f u))) = fX10_read_b40c F (fX10_read_b40 F (m + 1)) 209 (hp (jS S (tk T tx f u))) from rfl]
  unfold fX10_read_b40c fX10_read_b71 fX10_read_b93
  simp only [ob9 kd_209, g9_0 kd_209, g9_1 kd_209, g9_2 kd_209, g9_3 kd_209, g9_4 kd_209, g9_5 kd_209, g9_6 kd_209, g9_7 kd_209, g9_8 kd_209, g9_9 kd_209, g9_10 kd_209, g9_11 kd_209, g9_12 kd_209, g9_13 kd_209, g9_14 kd_209, g9_15 kd_209, g9_16 kd_209, g9_17 kd_209, g9_18 kd_209, g9_19 kd_209, g9_20 kd_209, g9_21 kd_209, g9_22 kd_209, g9_23 kd_209, g9_24 kd_209, g9_25 kd_209, p9_1 kd_209, p9_10 kd_209, p9_11 kd_209, p9_12 kd_209, p9_13 kd_209, p9_14 kd_209, p9_15 kd_209, p9_24 kd_209, p9_25 kd_209, Option.bind_some, Nat.reduceAdd, jS_f, e12, e13, e14, if_true, if_neg n4, w0]
  by_cases hso : so T tx u = 1
  · have h1 : nI (so T tx u) = 1 := by rw [hso]; rfl
    simp only [if_pos h1, m_may F hd.2.1 hd.2.2.1 e15, Option.bind_some, Nat.reduceAdd]
    by_cases c1 : vv T tx u = 115
    · have l1 := (wt 115 (by omega)).1.mp ⟨hso, c1⟩
      have l2 : lone T tx u 121 = false := Bool.eq_false_iff.mpr (fun q => by have := ((wt 121 (by omega)).1.mpr q).2; omega)
      have hnx := (wt 115 (by omega)).2 l1
      rw [show nI (vv T tx u) = 115 by rw [c1]; rfl]
      simp only [if_true]
      by_cases n9 : d 1 0 < 9
      · right
        have e : pI T tx (items == 0) u d = pS T tx (u + 1) d := by
          unfold pI
          rw [l2, Bool.false_and, if_neg Bool.false_ne_true, l1, Bool.true_and, if_pos (decide_eq_true n9)]
        refine ⟨115, ?_, ?_⟩
        · rw [e]; exact m_S F hF hT hx ht (by omega) h14 hd hw n9
        · rw [if_neg (show ¬ (9 : Int32) ≤ nI (d 1 0) from nI_ge (b := 9) n9 (by decide)), if_neg (by decide)]
          exact m_go F hF hT hx ht (by omega) h14 hnx _ _
      · left
        have l3 : lone T tx u 99 = false := Bool.eq_false_iff.mpr (fun q => by have := ((wt 99 (by omega)).1.mpr q).2; omega)
        constructor
        · unfold pI
          rw [l2, Bool.false_and, if_neg Bool.false_ne_true, l1, Bool.true_and, if_neg (fun q => n9 (of_decide_eq_true q)), l3, Bool.false_and, if_neg Bool.false_ne_true]
        · rw [if_pos (show (9 : Int32) ≤ nI (d 1 0) from nI_le (a := 9) (by omega) (by omega)), if_pos rfl, w0]
    · have k1 : ¬ nI (vv T tx u) = 115 := fun q => c1 ((nI_eq (b := 115) (by omega) (by decide)).mp q)
      have l1 : lone T tx u 115 = false := Bool.eq_false_iff.mpr (fun q => c1 ((wt 115 (by omega)).1.mpr q).2)
      simp only [if_neg k1]
      by_cases c2 : vv T tx u = 121
      · have l2 := (wt 121 (by omega)).1.mp ⟨hso, c2⟩
        have hnx := (wt 121 (by omega)).2 l2
        rw [show nI (vv T tx u) = 121 by rw [c2]; rfl]
        simp only [if_true]
        by_cases i0 : items = 0
        · right
          have e : pI T tx (items == 0) u d = pY T tx (u + 1) d := by
            unfold pI
            rw [l2, show (items == 0) = true by rw [i0]; rfl, Bool.true_and, if_pos rfl]
          refine ⟨121, ?_, ?_⟩
          · rw [e]; exact m_Y F hF hT hx ht (by omega) h14 hd
          · rw [if_pos (show nI items = 0 by rw [i0]; rfl), if_neg (by decide)]
            exact m_go F hF hT hx ht (by omega) h14 hnx _ _
        · left
          have l3 : lone T tx u 99 = false := Bool.eq_false_iff.mpr (fun q => by have := ((wt 99 (by omega)).1.mpr q).2; omega)
          constructor
          · unfold pI
            rw [show (items == 0) = false from beq_false_of_ne i0, Bool.and_false, if_neg Bool.false_ne_true, l1, Bool.false_and, if_neg Bool.false_ne_true, l3, Bool.false_and, if_neg Bool.false_ne_true]
          · rw [if_neg (nI_ne0 (by omega) (by omega)), if_pos rfl, w0]
      · have k2 : ¬ nI (vv T tx u) = 121 := fun q => c2 ((nI_eq (b := 121) (by omega) (by decide)).mp q)
        have l2 : lone T tx u 121 = false := Bool.eq_false_iff.mpr (fun q => c2 ((wt 121 (by omega)).1.mpr q).2)
        simp only [if_neg k2]
        by_cases c3 : vv T tx u = 99
        · have l3 := (wt 99 (by omega)).1.mp ⟨hso, c3⟩
          have hnx := (wt 99 (by omega)).2 l3
          rw [show nI (vv T tx u) = 99 by rw [c3]; rfl]
          simp only [if_true]
          by_cases n6 : d 2 0 < 6
          · right
            have e : pI T tx (items == 0) u d = pC T tx (u + 1) d := by
              unfold pI
              rw [l2, Bool.false_and, if_neg Bool.false_ne_true, l1, Bool.false_and, if_neg Bool.false_ne_true, l3, Bool.true_and, if_pos (decide_eq_true n6)]
            refine ⟨99, ?_, ?_⟩
            · rw [e]; exact m_C F hF hT hx ht (by omega) h14 hd hw n6
            · rw [if_neg (show ¬ (6 : Int32) ≤ nI (d 2 0) from nI_ge (b := 6) n6 (by decide)), if_neg (by decide)]
              exact m_go F hF hT hx ht (by omega) h14 hnx _ _
          · left
            constructor
            · unfold pI
              rw [l2, Bool.false_and, if_neg Bool.false_ne_true, l1, Bool.false_and, if_neg Bool.false_ne_true, l3, Bool.true_and, if_neg (fun q => n6 (of_decide_eq_true q))]
            · rw [if_pos (show (6 : Int32) ≤ nI (d 2 0) from nI_le (a := 6) (by omega) (by omega)), if_pos rfl, w0]
        · have k3 : ¬ nI (vv T tx u) = 99 := fun q => c3 ((nI_eq (b := 99) (by omega) (by decide)).mp q)
          have l3 : lone T tx u 99 = false := Bool.eq_false_iff.mpr (fun q => c3 ((wt 99 (by omega)).1.mpr q).2)
          left
          constructor
          · unfold pI
            rw [l2, Bool.false_and, if_neg Bool.false_ne_true, l1, Bool.false_and, if_neg Bool.false_ne_true, l3, Bool.false_and, if_neg Bool.false_ne_true]
          · simp only [if_neg k3, if_true, w0]
  · have h1 : ¬ nI (so T tx u) = 1 := fun q => hso ((nI_eq (b := 1) (by omega) (by decide)).mp q)
    have l1 : lone T tx u 115 = false := Bool.eq_false_iff.mpr (fun q => hso ((wt 115 (by omega)).1.mpr q).1)
    have l2 : lone T tx u 121 = false := Bool.eq_false_iff.mpr (fun q => hso ((wt 121 (by omega)).1.mpr q).1)
    have l3 : lone T tx u 99 = false := Bool.eq_false_iff.mpr (fun q => hso ((wt 99 (by omega)).1.mpr q).1)
    left
    constructor
    · unfold pI
      rw [l2, Bool.false_and, if_neg Bool.false_ne_true, l1, Bool.false_and, if_neg Bool.false_ne_true, l3, Bool.false_and, if_neg Bool.false_ne_true]
    · simp only [if_neg h1]
def MRd (S : ST) (f : Nat → Int32) (r : Option HL) (q : Nat ⊕ (Nat × Mo)) : Prop :=
  match q with
  | .inl v => ∃ S' g, r = some (hp (jS S' g)) ∧ ME0 S S' ∧ g 14 = 1 ∧ g 11 = nI v ∧ fo f g
  | .inr x => ∃ S' g, r = some (hp (jS S' g)) ∧ ME0 S S' ∧ g 14 = 0 ∧ g 15 = nI x.1 ∧ DM S' x.2 ∧ fo f g
theorem fo.tr {f g h : Nat → Int32} (a : fo f g) (b : fo g h) : fo f h := fun k hk => (b k hk).trans (a k hk)
theorem fo.rf {f : Nat → Int32} : fo f f := fun _ _ => rfl
theorem fo.up {f g : Nat → Int32} (a : fo f g) {k : Nat} {v : Int32} (h1 : 10 ≤ k) (h2 : k ≤ 15) : fo f (upd g k v) := fun j hj => by rw [upd_n _ _ (by omega)]; exact a j hj
theorem MRd.of {S S1 : ST} {f f1 : Nat → Int32} {r : Option HL} {q : Nat ⊕ (Nat × Mo)} (h : MRd S1 f1 r q) (hm : ME0 S S1) (hf : fo f f1) : MRd S f r q := by
  cases q with
  | inl v =>
    obtain ⟨S', g, a, b, c, d, e⟩ := h
    exact ⟨S', g, a, ME0.tr hm b, c, d, fo.tr hf e⟩
  | inr x =>
    obtain ⟨S', g, a, b, c, d, e, e2⟩ := h
    exact ⟨S', g, a, ME0.tr hm b, c, d, e, fo.tr hf e2⟩
theorem tk_upd {T : Nat} {tx : Nat → Nat} {f : Nat → Int32} {u : Nat} {v : Int32} : upd (tk T tx f u) 15 v = tk T tx (upd f 15 v) u := by
  apply tk_eq
  · rw [upd_n _ _ (by decide)]; rfl
  · rw [upd_n _ _ (by decide)]; rfl
  · rw [upd_n _ _ (by decide)]; rfl
  · rw [upd_n _ _ (by decide)]; rfl
  · intro k a b c d
    rw [upd_at, upd_at]
    by_cases hk : k = 15
    · rw [if_pos hk, if_pos hk]
    · rw [if_neg hk, if_neg hk]; exact tk_o (by omega)
theorem TX.fo {S : ST} {f g : Nat → Int32} {T : Nat} {tx : Nat → Nat} (h : TX S f T tx) (hf : fo f g) : TX S g T tx := ⟨by rw [hf 1 (by omega)]; exact h.1, h.2⟩
theorem m_run (F : Nat) (hF : 4000 ≤ F) {T : Nat} {tx : Nat → Nat} (hT : T ≤ 120) (hx : ∀ j, j < T → tx j < 256) (k : Nat) : ∀ (items t : Nat) (d : Mo) (S : ST) (f : Nat → Int32) (K : Nat), k + items = 61 → 2 * items ≤ t → t ≤ T → k + 1 < K → TX S f T tx → f 14 = 0 → f 15 = nI items → DM S d → DW d → (items = 0 → d 1 0 = 0 ∧ d 2 0 = 0) → MRd S f (fX10_read_b40 F K 209 (hp (jS S (tk T tx f (sk T tx t))))) (pRun T tx k items t d) := by
  induction k with
  | zero => intro items t d S f K h1 h2 h3; omega
  | succ k ih =>
    intro items t d S f K h1 h2 h3 h4 ht h14 h15 hd hw h0
    obtain ⟨m, rfl⟩ : ∃ m, K = m + 2 := ⟨K - 2, by omega⟩
    have hs := sk_le (tx := tx) h3
    have hs0 := sk_ge T tx t
    by_cases hlt : sk T tx t < T
    · have pl := pI_place (T := T) (tx := tx) (first := items == 0) (u := sk T tx t) (d := d) hlt
      have pd := pI_DW (T := T) (tx := tx) (first := items == 0) (u := sk T tx t) hw (fun hf => h0 (by simpa using hf))
      rcases m_item F hF hT hx ht hlt h14 h15 (by omega) hd hw m with ⟨a, b⟩ | ⟨x, a, b⟩
      · have eq : pRun T tx (k + 1) items t d = .inl (sk T tx t) := by simp only [pRun, if_pos hlt, a]
        rw [eq, b]
        exact ⟨_, _, rfl, ME0.rf, upd_s _ _ _, by rw [upd_n _ _ (by decide)]; rfl, fo_w⟩
      · rw [b]
        unfold fX10_read_b123 fX10_read_b136
        cases hq : pI T tx (items == 0) (sk T tx t) d with
        | inl v =>
          rw [hq] at a
          obtain ⟨S', g, r1, r2, r3, r4, r5⟩ := a
          have eq : pRun T tx (k + 1) items t d = .inl v := by simp only [pRun, if_pos hlt, hq]
          have g14 : upd g 15 (g 15 + 1) 14 = 1 := by rw [upd_n _ _ (by decide)]; exact r3
          rw [eq, r1]
          simp only [ob9 kd_209, g9_0 kd_209, g9_1 kd_209, g9_2 kd_209, g9_3 kd_209, g9_4 kd_209, g9_5 kd_209, g9_6 kd_209, g9_7 kd_209, g9_8 kd_209, g9_9 kd_209, g9_10 kd_209, g9_11 kd_209, g9_12 kd_209, g9_13 kd_209, g9_14 kd_209, g9_15 kd_209, g9_16 kd_209, g9_17 kd_209, g9_18 kd_209, g9_19 kd_209, g9_20 kd_209, g9_21 kd_209, g9_22 kd_209, g9_23 kd_209, g9_24 kd_209, g9_25 kd_209, p9_1 kd_209, p9_10 kd_209, p9_11 kd_209, p9_12 kd_209, p9_13 kd_209, p9_14 kd_209, p9_15 kd_209, p9_24 kd_209, p9_25 kd_209, Option.bind_some, Nat.reduceAdd, jS_f, due_w F r3, jS_st, m_halt F g14, ite_self]
          exact ⟨_, _, rfl, r2, g14, by rw [upd_n _ _ (by decide)]; exact r4, r5.up (by omega) (by omega)⟩
        | inr y =>
          obtain ⟨t1, d1⟩ := y
          rw [hq] at a
          obtain ⟨S', r1, r2, r3⟩ := a
          obtain ⟨p1, p2⟩ := pl.2 t1 d1 hq
          have hw1 := pd t1 d1 hq
          have r1 : fX10_item F (hp (jS S (tk T tx f (sk T tx (sk T tx t + 1))))) 209 x = some (hp (jS S' (tk T tx f (sk T tx t1)))) := r1
          have r3 : DM S' d1 := r3
          have hs1 := sk_ge T tx t1
          have hs2 := sk_le (tx := tx) p2
          rw [r1]
          have e12 : tk T tx f (sk T tx t1) 12 = nI (so T tx (sk T tx t1)) := rfl
          have e14 : tk T tx f (sk T tx t1) 14 = 0 := by rw [tk_o (by omega)]; exact h14
          have st := stop_tok (T := T) (tx := tx) (sk T tx t1)
          have h5 := (so_4 (T := T) (tx := tx) (sk T tx t1)).2
          cases hE : pE T tx (sk T tx t1) with
          | true =>
            have hE' := of_decide_eq_true hE
            have eq : pRun T tx (k + 1) items t d = pRun T tx k (items + 1) (sk T tx t1 + 1) d1 := by simp only [pRun, if_pos hlt, hq, hE, if_true]
            have e15 : tk T tx f (sk T tx (sk T tx t1 + 1)) 15 = nI items := by rw [tk_o (by omega)]; exact h15
            have c3 : nI (so T tx (sk T tx t1)) = 3 := by rw [st.1.mpr hE]; rfl
            rw [eq]
            simp only [ob9 kd_209, g9_0 kd_209, g9_1 kd_209, g9_2 kd_209, g9_3 kd_209, g9_4 kd_209, g9_5 kd_209, g9_6 kd_209, g9_7 kd_209, g9_8 kd_209, g9_9 kd_209, g9_10 kd_209, g9_11 kd_209, g9_12 kd_209, g9_13 kd_209, g9_14 kd_209, g9_15 kd_209, g9_16 kd_209, g9_17 kd_209, g9_18 kd_209, g9_19 kd_209, g9_20 kd_209, g9_21 kd_209, g9_22 kd_209, g9_23 kd_209, g9_24 kd_209, g9_25 kd_209, p9_1 kd_209, p9_10 kd_209, p9_11 kd_209, p9_12 kd_209, p9_13 kd_209, p9_14 kd_209, p9_15 kd_209, p9_24 kd_209, p9_25 kd_209, Option.bind_some, Nat.reduceAdd, jS_f, e12, if_pos c3, due_ok F hF hT hx (ht.me r2) hs2 h14, st.2 hE, e15, jS_st, nI_1, tk_upd]
            have fo1 : fo f (upd f 15 (nI (items + 1))) := fo.rf.up (by omega) (by omega)
            exact (ih (items + 1) (sk T tx t1 + 1) d1 S' (upd f 15 (nI (items + 1))) (m + 1) (by omega) (by omega) (by omega) (by omega) ((ht.me r2).fo fo1) (by rw [upd_n _ _ (by decide)]; exact h14) (upd_s _ _ _) r3 hw1 (by omega)).of r2 fo1
          | false =>
            have eq : pRun T tx (k + 1) items t d = .inl (sk T tx t1) := by simp only [pRun, if_pos hlt, hq, hE, Bool.false_eq_true, if_false]
            have c3 : ¬ nI (so T tx (sk T tx t1)) = 3 := fun q => by
              have := st.1.mp ((nI_eq (b := 3) (by omega) (by decide)).mp q)
              rw [this] at hE
              cases hE
            have g14 : ∀ v, upd (upd (tk T tx f (sk T tx t1)) 14 1) 15 v 14 = 1 := fun v => by rw [upd_n _ _ (by decide)]; exact upd_s _ _ _
            rw [eq]
            simp only [ob9 kd_209, g9_0 kd_209, g9_1 kd_209, g9_2 kd_209, g9_3 kd_209, g9_4 kd_209, g9_5 kd_209, g9_6 kd_209, g9_7 kd_209, g9_8 kd_209, g9_9 kd_209, g9_10 kd_209, g9_11 kd_209, g9_12 kd_209, g9_13 kd_209, g9_14 kd_209, g9_15 kd_209, g9_16 kd_209, g9_17 kd_209, g9_18 kd_209, g9_19 kd_209, g9_20 kd_209, g9_21 kd_209, g9_22 kd_209, g9_23 kd_209, g9_24 kd_209, g9_25 kd_209, p9_1 kd_209, p9_10 kd_209, p9_11 kd_209, p9_12 kd_209, p9_13 kd_209, p9_14 kd_209, p9_15 kd_209, p9_24 kd_209, p9_25 kd_209, Option.bind_some, Nat.reduceAdd, jS_f, e12, if_neg c3, due_no F e14, jS_st, m_halt F (g14 _)]
            exact ⟨_, _, rfl, r2, g14 _, by rw [upd_n _ _ (by decide), upd_n _ _ (by decide)]; rfl, fo_w.up (by omega) (by omega)⟩
    · have eq : pRun T tx (k + 1) items t d = .inr (items, d) := by simp only [pRun, if_neg hlt]
      have c4 : nI (so T tx (sk T tx t)) = 4 := by rw [(so_4 (T := T) (tx := tx) (sk T tx t)).1.mpr hlt]; rfl
      have e12 : tk T tx f (sk T tx t) 12 = nI (so T tx (sk T tx t)) := rfl
      rw [eq, show fX10_read_b40 F (m + 2) 209 (hp (jS S (tk T tx f (sk T tx t)))) = fX10_read_b40c F (fX10_read_b40 F (m + 1)) 209 (hp (jS S (tk T tx f (sk T tx t)))) from rfl]
      unfold fX10_read_b40c
      simp only [ob9 kd_209, g9_0 kd_209, g9_1 kd_209, g9_2 kd_209, g9_3 kd_209, g9_4 kd_209, g9_5 kd_209, g9_6 kd_209, g9_7 kd_209, g9_8 kd_209, g9_9 kd_209, g9_10 kd_209, g9_11 kd_209, g9_12 kd_209, g9_13 kd_209, g9_14 kd_209, g9_15 kd_209, g9_16 kd_209, g9_17 kd_209, g9_18 kd_209, g9_19 kd_209, g9_20 kd_209, g9_21 kd_209, g9_22 kd_209, g9_23 kd_209, g9_24 kd_209, g9_25 kd_209, p9_1 kd_209, p9_10 kd_209, p9_11 kd_209, p9_12 kd_209, p9_13 kd_209, p9_14 kd_209, p9_15 kd_209, p9_24 kd_209, p9_25 kd_209, Option.bind_some, Nat.reduceAdd, jS_f, e12, if_pos c4]
      exact ⟨_, _, rfl, ME0.rf, by rw [tk_o (by omega)]; exact h14, by rw [tk_o (by omega)]; exact h15, hd, fo_tk⟩
theorem m_read (F : Nat) (hF : 4000 ≤ F) {S : ST} {f : Nat → Int32} {T : Nat} {tx : Nat → Nat} (hT : T ≤ 120) (hx : ∀ j, j < T → tx j < 256) (ht : TX S f T tx) : MRd S f (fX10_read F (hp (jS S f)) 209) (pRun T tx 61 0 0 d0) := by
  have me : ME0 S (pu (pu (pu S 211 1 4) 212 1 0) 216 1 0) := ((ME0.rf.st (by omega) (by omega) (by rw [lm_211]; omega)).st (by omega) (by omega) (by rw [lm_212]; omega)).st (by omega) (by omega) (by rw [lm_216]; omega)
  have hf : fo f (upd (upd (upd f 10 0) 14 0) 15 0) := ((fo.rf.up (by omega) (by omega)).up (by omega) (by omega)).up (by omega) (by omega)
  have t1 := (ht.me me).fo hf
  have hd : DM (pu (pu (pu S 211 1 4) 212 1 0) 216 1 0) d0 := ⟨by rw [pu_o _ _ (by omega), pu_o _ _ (by omega), pu_s]; rfl, by rw [pu_o _ _ (by omega), pu_s]; rfl, by rw [pu_s]; rfl, fun s hs => absurd hs (Nat.not_lt_zero _), fun s hs => absurd hs (Nat.not_lt_zero _)⟩
  unfold fX10_read
  simp only [ob9 kd_209, g9_0 kd_209, g9_1 kd_209, g9_2 kd_209, g9_3 kd_209, g9_4 kd_209, g9_5 kd_209, g9_6 kd_209, g9_7 kd_209, g9_8 kd_209, g9_9 kd_209, g9_10 kd_209, g9_11 kd_209, g9_12 kd_209, g9_13 kd_209, g9_14 kd_209, g9_15 kd_209, g9_16 kd_209, g9_17 kd_209, g9_18 kd_209, g9_19 kd_209, g9_20 kd_209, g9_21 kd_209, g9_22 kd_209, g9_23 kd_209, g9_24 kd_209, g9_25 kd_209, p9_1 kd_209, p9_10 kd_209, p9_11 kd_209, p9_12 kd_209, p9_13 kd_209, p9_14 kd_209, p9_15 kd_209, p9_24 kd_209, p9_25 kd_209, Option.bind_some, Nat.reduceAdd, jS_st, w211, w212, w216]
  generalize pu (pu (pu S 211 1 4) 212 1 0) 216 1 0 = S1 at *
  have g10 : upd (upd (upd f 10 0) 14 0) 15 0 10 = nI 0 := by rw [upd_n _ _ (by decide), upd_n _ _ (by decide), upd_s]; rfl
  have g14 : upd (upd (upd f 10 0) 14 0) 15 0 14 = 0 := by rw [upd_n _ _ (by decide), upd_s]
  have g15 : upd (upd (upd f 10 0) 14 0) 15 0 15 = nI 0 := upd_s _ _ _
  generalize upd (upd (upd f 10 0) 14 0) 15 0 = g at *
  rw [step_eq F hF hT hx t1.1 t1.2 (Nat.zero_le _) g10, Option.bind_some]
  exact (m_run F hF hT hx 61 0 0 d0 S1 g F (by omega) (by omega) (by omega) (by omega) t1 g14 g15 hd DW_d0 (fun _ => ⟨rfl, rfl⟩)).of me hf
theorem pRun_b {T : Nat} {tx : Nat → Nat} (k : Nat) : ∀ items t d, t ≤ T → (∀ v, pRun T tx k items t d = .inl v → v ≤ T) ∧ ∀ i' d', pRun T tx k items t d = .inr (i', d') → i' ≤ items + k := by
  induction k with
  | zero => intro items t d ht; exact ⟨fun v e => by cases e; omega, fun i' d' e => by cases e⟩
  | succ k ih =>
    intro items t d ht
    by_cases hlt : sk T tx t < T
    · have pl := pI_place (T := T) (tx := tx) (first := items == 0) (u := sk T tx t) (d := d) hlt
      cases hq : pI T tx (items == 0) (sk T tx t) d with
      | inl v =>
        have eq : pRun T tx (k + 1) items t d = .inl v := by simp only [pRun, if_pos hlt, hq]
        rw [eq]
        exact ⟨fun v' e => by cases e; exact pl.1 v hq, fun i' d' e => by cases e⟩
      | inr y =>
        obtain ⟨t1, d1⟩ := y
        obtain ⟨p1, p2⟩ := pl.2 t1 d1 hq
        have hs2 := sk_le (tx := tx) p2
        cases hE : pE T tx (sk T tx t1) with
        | true =>
          have hE' := of_decide_eq_true hE
          have eq : pRun T tx (k + 1) items t d = pRun T tx k (items + 1) (sk T tx t1 + 1) d1 := by simp only [pRun, if_pos hlt, hq, hE, if_true]
          rw [eq]
          obtain ⟨q1, q2⟩ := ih (items + 1) (sk T tx t1 + 1) d1 (by omega)
          exact ⟨q1, fun i' d' e => by have := q2 i' d' e; omega⟩
        | false =>
          have eq : pRun T tx (k + 1) items t d = .inl (sk T tx t1) := by simp only [pRun, if_pos hlt, hq, hE, Bool.false_eq_true, if_false]
          rw [eq]
          exact ⟨fun v' e => by cases e; exact hs2, fun i' d' e => by cases e⟩
    · have eq : pRun T tx (k + 1) items t d = .inr (items, d) := by simp only [pRun, if_neg hlt]
      rw [eq]
      exact ⟨fun v e => (by cases e), fun i' d' e => by cases e; omega⟩

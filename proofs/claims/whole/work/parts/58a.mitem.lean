/-! the reference's items -/
theorem run_0 {T : Nat} {tx : Nat → Nat} {P : Nat → Bool} {u : Nat} (h : u < T → P (tx u) = false) : run T tx P u = 0 := by
  obtain ⟨h1, h2, h3⟩ := run_spec T tx P u
  rcases Nat.eq_zero_or_pos (run T tx P u) with e | e
  · exact e
  · have := h2 0 e
    rw [Nat.add_zero, h (by omega)] at this
    cases this
theorem run_1 {T : Nat} {tx : Nat → Nat} {P : Nat → Bool} {u : Nat} (hu : u < T) (h : P (tx u) = true) : 1 ≤ run T tx P u := by
  obtain ⟨h1, h2, h3⟩ := run_spec T tx P u
  rcases Nat.eq_zero_or_pos (run T tx P u) with e | e
  · rw [e] at h3
    have := h3 (by omega)
    rw [Nat.add_zero, h] at this
    cases this
  · exact e
theorem vl_big {T : Nat} {tx : Nat → Nat} {u : Nat} (hu : tx u ≠ 48) (i : Nat) (h3 : 3 ≤ i) (hi : i ≤ dg T tx u) : 99 < vl tx u i := by
  induction i with
  | zero => omega
  | succ i ih =>
    by_cases h : i = 2
    · subst h
      have a := dg_digit (T := T) (tx := tx) (u := u) (i := 0) (by omega)
      have b := dg_digit (T := T) (tx := tx) (u := u) (i := 1) (by omega)
      rw [Nat.add_zero] at a
      have v1 : vl tx u 1 = tx u - 48 := by simp [vl]
      have v2 : vl tx u 2 = 10 * (tx u - 48) + (tx (u + 1) - 48) := by
        show (if vl tx u 1 ≤ 99 then 10 * vl tx u 1 + (tx (u + 1) - 48) else vl tx u 1) = _
        rw [v1, if_pos (by omega)]
      show 99 < (if vl tx u 2 ≤ 99 then 10 * vl tx u 2 + (tx (u + 2) - 48) else vl tx u 2)
      rw [v2, if_pos (by omega)]
      omega
    · have := ih (by omega) (by omega)
      show 99 < (if vl tx u i ≤ 99 then 10 * vl tx u i + (tx (u + i) - 48) else vl tx u i)
      rw [if_neg (by omega)]
      exact this
theorem num_tok {T : Nat} {tx : Nat → Nat} (u : Nat) : (so T tx u = 2 ∧ vv T tx u = nv T tx u ∧ nv T tx u ≤ 99 ∧ nx T tx u = u + dg T tx u) ∨ (so T tx u ≠ 2 ∧ nv T tx u = 999) := by
  by_cases hu : u < T
  · cases hd : dgb (tx u) with
    | false =>
      have h0 : dg T tx u = 0 := run_0 (fun _ => hd)
      right
      constructor
      · unfold so
        rw [if_pos hu, if_neg (by rw [hd]; exact Bool.false_ne_true)]
        split
        · omega
        · split <;> omega
      · unfold nv
        rw [h0, if_neg (by omega), if_neg (by omega)]
    | true =>
      have h1 : 1 ≤ dg T tx u := run_1 hu hd
      have a := dg_digit (T := T) (tx := tx) (u := u) (i := 0) (by omega)
      rw [Nat.add_zero] at a
      have v1 : vl tx u 1 = tx u - 48 := by simp [vl]
      have hso : so T tx u = if 99 < vl tx u (dg T tx u) then 5 else if tx u = 48 then (if dg T tx u ≤ 1 then 2 else 5) else 2 := by
        unfold so
        rw [if_pos hu, if_pos hd]
      have hvv : vv T tx u = vl tx u (dg T tx u) := by
        unfold vv
        rw [if_pos hu, if_pos hd]
      have hnx : nx T tx u = u + dg T tx u := by
        unfold nx
        rw [if_pos hu, if_pos hd]
      have hnv : nv T tx u = if dg T tx u = 1 then tx u - 48 else if dg T tx u = 2 ∧ tx u ≠ 48 then 10 * (tx u - 48) + (tx (u + 1) - 48) else 999 := rfl
      by_cases e1 : dg T tx u = 1
      · left
        rw [if_pos e1] at hnv
        rw [hso, hvv, hnv, hnx, e1, v1, if_neg (by omega)]
        refine ⟨?_, rfl, by omega, rfl⟩
        by_cases e48 : tx u = 48
        · rw [if_pos e48, if_pos (by omega)]
        · rw [if_neg e48]
      · rw [if_neg e1] at hnv
        by_cases e2 : dg T tx u = 2
        · have b := dg_digit (T := T) (tx := tx) (u := u) (i := 1) (by omega)
          have v2 : vl tx u 2 = 10 * (tx u - 48) + (tx (u + 1) - 48) := by
            show (if vl tx u 1 ≤ 99 then 10 * vl tx u 1 + (tx (u + 1) - 48) else vl tx u 1) = _
            rw [v1, if_pos (by omega)]
          by_cases e48 : tx u = 48
          · right
            rw [if_neg (fun e => e.2 e48)] at hnv
            refine ⟨?_, hnv⟩
            rw [hso, e2, v2, if_neg (by omega), if_pos e48, if_neg (by omega)]
            omega
          · left
            rw [if_pos ⟨e2, e48⟩] at hnv
            rw [hso, hvv, hnv, hnx, e2, v2, if_neg (by omega), if_neg e48]
            exact ⟨rfl, rfl, by omega, rfl⟩
        · right
          rw [if_neg (fun e => e2 e.1)] at hnv
          refine ⟨?_, hnv⟩
          rw [hso]
          by_cases e48 : tx u = 48
          · by_cases c : 99 < vl tx u (dg T tx u)
            · rw [if_pos c]; omega
            · rw [if_neg c, if_pos e48, if_neg (by omega)]; omega
          · rw [if_pos (vl_big e48 _ (by omega) (Nat.le_refl _))]; omega
  · have h0 : dg T tx u = 0 := run_0 (fun h => absurd h hu)
    right
    constructor
    · unfold so
      rw [if_neg hu]; omega
    · unfold nv
      rw [h0, if_neg (by omega), if_neg (by omega)]
theorem word_tok {T : Nat} {tx : Nat → Nat} (u m : Nat) (hm : 97 ≤ m ∧ m ≤ 122) : ((so T tx u = 1 ∧ vv T tx u = m) ↔ lone T tx u m = true) ∧ (lone T tx u m = true → nx T tx u = u + 1) := by
  have key : lone T tx u m = true → u < T ∧ tx u = m ∧ lt T tx u = 1 := by
    intro h
    unfold lone at h
    rw [Bool.and_eq_true] at h
    obtain ⟨h1, h2⟩ := h
    have h1 := of_decide_eq_true h1
    have hl : ltb (tx u) = true := decide_eq_true (by omega)
    have r1 : 1 ≤ lt T tx u := run_1 h1.1 hl
    obtain ⟨s1, s2, s3⟩ := run_spec T tx ltb u
    refine ⟨h1.1, h1.2, ?_⟩
    rcases Nat.lt_or_ge 1 (lt T tx u) with h | h
    · have e := s2 1 h
      have e2 : u + 1 < T := by unfold lt at h; omega
      rw [e] at h2
      simp [e2] at h2
    · omega
  have nd : ∀ b, 97 ≤ b → dgb b = false := fun b hb => by
    have : ¬ (48 ≤ b ∧ b ≤ 57) := by omega
    unfold dgb
    simp only [this, decide_false]
  refine ⟨⟨fun h => ?_, fun h => ?_⟩, fun h => ?_⟩
  · obtain ⟨h1, h2⟩ := h
    by_cases hu : u < T
    · unfold so at h1
      unfold vv at h2
      rw [if_pos hu] at h1 h2
      cases hd : dgb (tx u) with
      | true =>
        rw [hd, if_pos rfl] at h1
        exfalso
        revert h1
        split
        · omega
        · split
          · split <;> omega
          · omega
      | false =>
        rw [hd, if_neg (by simp)] at h1
        rw [if_neg (by rw [hd]; exact Bool.false_ne_true)] at h2
        cases hl : ltb (tx u) with
        | false =>
          rw [hl, if_neg (by simp)] at h1
          exfalso
          revert h1
          split <;> omega
        | true =>
          rw [if_pos hl] at h2
          by_cases e1 : lt T tx u = 1
          · rw [if_pos e1] at h2
            obtain ⟨s1, s2, s3⟩ := run_spec T tx ltb u
            unfold lone
            rw [Bool.and_eq_true]
            refine ⟨decide_eq_true ⟨hu, h2⟩, ?_⟩
            by_cases h3 : u + 1 < T
            · have e : run T tx ltb u = 1 := e1
              rw [e] at s3
              rw [s3 (by omega)]
              simp
            · simp [h3]
          · rw [if_neg e1] at h2
            omega
    · unfold so at h1
      rw [if_neg hu] at h1
      omega
  · obtain ⟨a, b, c⟩ := key h
    have hl : ltb (tx u) = true := decide_eq_true (by omega)
    have hd := nd (tx u) (by omega)
    constructor
    · unfold so
      rw [if_pos a, if_neg (by rw [hd]; exact Bool.false_ne_true), if_pos hl]
    · unfold vv
      rw [if_pos a, if_neg (by rw [hd]; exact Bool.false_ne_true), if_pos hl, if_pos c, b]
  · obtain ⟨a, b, c⟩ := key h
    have hl : ltb (tx u) = true := decide_eq_true (by omega)
    have hd := nd (tx u) (by omega)
    unfold nx
    rw [if_pos a, if_neg (by rw [hd]; exact Bool.false_ne_true), if_pos hl, c]
theorem stop_tok {T : Nat} {tx : Nat → Nat} (u : Nat) : (so T tx u = 3 ↔ pE T tx u = true) ∧ (pE T tx u = true → nx T tx u = u + 1) := by
  have nd : dgb 59 = false := by decide
  have nl : ltb 59 = false := by decide
  refine ⟨⟨fun h => ?_, fun h => ?_⟩, fun h => ?_⟩
  · unfold so at h
    by_cases hu : u < T
    · rw [if_pos hu] at h
      by_cases c : tx u = 59
      · exact decide_eq_true ⟨hu, c⟩
      · exfalso
        revert h
        split
        · split
          · omega
          · split
            · split <;> omega
            · omega
        · split
          · omega
          · first | omega | (rw [if_neg c]; omega)
    · rw [if_neg hu] at h; omega
  · have h := of_decide_eq_true h
    unfold so
    rw [if_pos h.1, if_neg (by rw [h.2, nd]; exact Bool.false_ne_true), if_neg (by rw [h.2, nl]; exact Bool.false_ne_true), if_pos h.2]
  · have h := of_decide_eq_true h
    unfold nx
    rw [if_pos h.1, if_neg (by rw [h.2, nd]; exact Bool.false_ne_true), if_neg (by rw [h.2, nl]; exact Bool.false_ne_true)]
theorem so_4 {T : Nat} {tx : Nat → Nat} (u : Nat) : (so T tx u = 4 ↔ ¬ u < T) ∧ so T tx u ≤ 5 := by
  unfold so
  by_cases hu : u < T
  · rw [if_pos hu]
    have : ∀ x : Nat, (x = 5 ∨ x = 2 ∨ x = 1 ∨ x = 3) → ((x = 4 ↔ ¬ u < T) ∧ x ≤ 5) := fun x hx => by omega
    apply this
    split
    · split
      · omega
      · split
        · split <;> omega
        · omega
    · split
      · omega
      · split <;> omega
  · rw [if_neg hu]; omega
theorem nx_le {T : Nat} {tx : Nat → Nat} {u : Nat} (hu : u ≤ T) : nx T tx u ≤ T := by
  have h1 := (run_spec T tx dgb u).1
  have h2 := (run_spec T tx ltb u).1
  unfold nx dg lt
  split
  · split
    · omega
    · split <;> omega
  · omega
theorem vv_le {T : Nat} {tx : Nat → Nat} (hx : ∀ j, j < T → tx j < 256) (u : Nat) : vv T tx u ≤ 1300 := by
  unfold vv
  have h1 := (run_spec T tx dgb u).1
  by_cases hu : u < T
  · rw [if_pos hu]
    have := hx u hu
    split
    · exact vl_le _ (fun j hj => hx _ (by unfold dg at hj; omega))
    · split
      · split <;> omega
      · omega
  · rw [if_neg hu]; omega
theorem tk_tk (T : Nat) (tx : Nat → Nat) (f : Nat → Int32) (u v : Nat) : tk T tx (tk T tx f u) v = tk T tx f v := by
  symm
  apply tk_eq
  · rfl
  · rfl
  · rfl
  · rfl
  · intro k a b c d
    unfold tk
    rw [if_neg a, if_neg b, if_neg c, if_neg d, if_neg a, if_neg b, if_neg c, if_neg d]
theorem tk_o {T : Nat} {tx : Nat → Nat} {f : Nat → Int32} {u k : Nat} (h : k < 10 ∨ 13 < k) : tk T tx f u k = f k := by
  unfold tk
  rw [if_neg (by omega), if_neg (by omega), if_neg (by omega), if_neg (by omega)]
/-- the text lies in the reference -/
def TX (S : ST) (f : Nat → Int32) (T : Nat) (tx : Nat → Nat) : Prop := f 1 = nI T ∧ ∀ j, j < T → S.1 210 j = (nI (tx j)).toInt8.toInt32
theorem due_ok (F : Nat) (hF : 4000 ≤ F) {S : ST} {f : Nat → Int32} {T : Nat} {tx : Nat → Nat} (hT : T ≤ 120) (hx : ∀ j, j < T → tx j < 256) (ht : TX S f T tx) {u : Nat} (hu : u ≤ T) (h14 : f 14 = 0) : fX10_due F (hp (jS S (tk T tx f u))) 209 1 = some (hp (jS S (tk T tx f (sk T tx (nx T tx u))))) := by
  have e14 : tk T tx f u 14 = 0 := by rw [tk_o (by omega)]; exact h14
  have e1 : tk T tx f u 1 = nI T := by rw [tk_o (by omega)]; exact ht.1
  unfold fX10_due
  simp only [ob9 kd_209, g9_0 kd_209, g9_1 kd_209, g9_2 kd_209, g9_3 kd_209, g9_4 kd_209, g9_5 kd_209, g9_6 kd_209, g9_7 kd_209, g9_8 kd_209, g9_9 kd_209, g9_10 kd_209, g9_11 kd_209, g9_12 kd_209, g9_13 kd_209, g9_14 kd_209, g9_15 kd_209, g9_16 kd_209, g9_17 kd_209, g9_18 kd_209, g9_19 kd_209, g9_20 kd_209, g9_21 kd_209, g9_22 kd_209, g9_23 kd_209, g9_24 kd_209, g9_25 kd_209, p9_1 kd_209, p9_10 kd_209, p9_11 kd_209, p9_12 kd_209, p9_13 kd_209, p9_14 kd_209, p9_15 kd_209, p9_24 kd_209, p9_25 kd_209, jS_f, e14, Option.bind_some, Nat.reduceAdd, if_true, e10, if_false]
  rw [step_eq F hF hT hx e1 ht.2 (nx_le hu) rfl, tk_tk, Option.bind_some]
theorem due_no (F : Nat) {S : ST} {g : Nat → Int32} (h14 : g 14 = 0) : fX10_due F (hp (jS S g)) 209 0 = some (hp (jS S (upd g 14 1))) := by
  unfold fX10_due
  simp only [ob9 kd_209, g9_0 kd_209, g9_1 kd_209, g9_2 kd_209, g9_3 kd_209, g9_4 kd_209, g9_5 kd_209, g9_6 kd_209, g9_7 kd_209, g9_8 kd_209, g9_9 kd_209, g9_10 kd_209, g9_11 kd_209, g9_12 kd_209, g9_13 kd_209, g9_14 kd_209, g9_15 kd_209, g9_16 kd_209, g9_17 kd_209, g9_18 kd_209, g9_19 kd_209, g9_20 kd_209, g9_21 kd_209, g9_22 kd_209, g9_23 kd_209, g9_24 kd_209, g9_25 kd_209, p9_1 kd_209, p9_10 kd_209, p9_11 kd_209, p9_12 kd_209, p9_13 kd_209, p9_14 kd_209, p9_15 kd_209, p9_24 kd_209, p9_25 kd_209, jS_f, h14, Option.bind_some, Nat.reduceAdd, if_true, jS_st]
theorem due_w (F : Nat) {S : ST} {g : Nat → Int32} (h14 : g 14 = 1) (x : Int32) : fX10_due F (hp (jS S g)) 209 x = some (hp (jS S g)) := by
  unfold fX10_due
  simp only [ob9 kd_209, g9_0 kd_209, g9_1 kd_209, g9_2 kd_209, g9_3 kd_209, g9_4 kd_209, g9_5 kd_209, g9_6 kd_209, g9_7 kd_209, g9_8 kd_209, g9_9 kd_209, g9_10 kd_209, g9_11 kd_209, g9_12 kd_209, g9_13 kd_209, g9_14 kd_209, g9_15 kd_209, g9_16 kd_209, g9_17 kd_209, g9_18 kd_209, g9_19 kd_209, g9_20 kd_209, g9_21 kd_209, g9_22 kd_209, g9_23 kd_209, g9_24 kd_209, g9_25 kd_209, p9_1 kd_209, p9_10 kd_209, p9_11 kd_209, p9_12 kd_209, p9_13 kd_209, p9_14 kd_209, p9_15 kd_209, p9_24 kd_209, p9_25 kd_209, jS_f, h14, Option.bind_some, Nat.reduceAdd, e10, if_false]
theorem number_w (F : Nat) {S : ST} {g : Nat → Int32} (h14 : g 14 = 1) (a b : Int32) : fX10_number F (hp (jS S g)) 209 a b = some (g 13, hp (jS S g)) := by
  unfold fX10_number fX10_number_b27 fX10_number_b28
  simp only [ob9 kd_209, g9_0 kd_209, g9_1 kd_209, g9_2 kd_209, g9_3 kd_209, g9_4 kd_209, g9_5 kd_209, g9_6 kd_209, g9_7 kd_209, g9_8 kd_209, g9_9 kd_209, g9_10 kd_209, g9_11 kd_209, g9_12 kd_209, g9_13 kd_209, g9_14 kd_209, g9_15 kd_209, g9_16 kd_209, g9_17 kd_209, g9_18 kd_209, g9_19 kd_209, g9_20 kd_209, g9_21 kd_209, g9_22 kd_209, g9_23 kd_209, g9_24 kd_209, g9_25 kd_209, p9_1 kd_209, p9_10 kd_209, p9_11 kd_209, p9_12 kd_209, p9_13 kd_209, p9_14 kd_209, p9_15 kd_209, p9_24 kd_209, p9_25 kd_209, jS_f, Option.bind_some, Nat.reduceAdd, in_eq, due_w F h14]
  split
  · split <;> rfl
  · rfl
theorem number_eq (F : Nat) (hF : 4000 ≤ F) {S : ST} {f : Nat → Int32} {T : Nat} {tx : Nat → Nat} (hT : T ≤ 120) (hx : ∀ j, j < T → tx j < 256) (ht : TX S f T tx) {u : Nat} (hu : u ≤ T) (h14 : f 14 = 0) {lo h : Nat} (hlo : lo ≤ 10) (hh : h ≤ 11) {H : Int32} (hH : H = nI h - 1) : fX10_number F (hp (jS S (tk T tx f u))) 209 (nI lo) H = if okN T tx lo h 1000 u then some (nI (vv T tx u), hp (jS S (tk T tx f (sk T tx (u + dg T tx u))))) else some (nI (vv T tx u), hp (jS S (upd (tk T tx f u) 14 1))) := by
  have e14 : tk T tx f u 14 = 0 := by rw [tk_o (by omega)]; exact h14
  have e12 : tk T tx f u 12 = nI (so T tx u) := rfl
  have e13 : tk T tx f u 13 = nI (vv T tx u) := rfl
  have hv := vv_le hx u
  have h5 := (so_4 (T := T) (tx := tx) u).2
  have dk := due_ok F hF hT hx ht hu h14
  have dn' := due_no F (S := S) e14
  unfold fX10_number fX10_number_b27 fX10_number_b28
  simp only [ob9 kd_209, g9_0 kd_209, g9_1 kd_209, g9_2 kd_209, g9_3 kd_209, g9_4 kd_209, g9_5 kd_209, g9_6 kd_209, g9_7 kd_209, g9_8 kd_209, g9_9 kd_209, g9_10 kd_209, g9_11 kd_209, g9_12 kd_209, g9_13 kd_209, g9_14 kd_209, g9_15 kd_209, g9_16 kd_209, g9_17 kd_209, g9_18 kd_209, g9_19 kd_209, g9_20 kd_209, g9_21 kd_209, g9_22 kd_209, g9_23 kd_209, g9_24 kd_209, g9_25 kd_209, p9_1 kd_209, p9_10 kd_209, p9_11 kd_209, p9_12 kd_209, p9_13 kd_209, p9_14 kd_209, p9_15 kd_209, p9_24 kd_209, p9_25 kd_209, jS_f, Option.bind_some, Nat.reduceAdd, in_eq, e12, e13, dk, dn']
  unfold okN
  rcases num_tok (T := T) (tx := tx) u with ⟨a, b, c, e⟩ | ⟨a, b⟩
  · rw [if_pos (show nI (so T tx u) = (2 : Int32) by rw [a]; rfl), hH, b, e]
    by_cases ok : lo ≤ nv T tx u ∧ nv T tx u < h
    · have hin : nI lo ≤ nI (nv T tx u) ∧ nI (nv T tx u) ≤ nI h - 1 := ⟨nI_le ok.1 (by omega), Int32.not_lt.mp (fun q => by have := (subI (by omega) (by omega)).mp q; omega)⟩
      rw [if_pos hin, if_neg (show ¬ (1 : Int32) = 0 by decide), if_pos (decide_eq_true ⟨ok.1, ok.2, by omega⟩)]
    · have hin : ¬ (nI lo ≤ nI (nv T tx u) ∧ nI (nv T tx u) ≤ nI h - 1) := fun q => ok ⟨(nI_leI (by omega) (by omega)).mp q.1, by
        rcases Nat.lt_or_ge (nv T tx u) h with r | r
        · exact r
        · exact absurd ((subI (by omega) (by omega)).mpr r) (Int32.not_lt.mpr q.2)⟩
      rw [if_neg hin, if_pos (show (0 : Int32) = 0 from rfl), if_neg (fun q => ok (by have := of_decide_eq_true q; exact ⟨this.1, this.2.1⟩))]
  · have : ¬ (lo ≤ nv T tx u ∧ nv T tx u < h ∧ nv T tx u ≠ 1000) := by omega
    rw [if_neg (show ¬ nI (so T tx u) = (2 : Int32) from fun q => a ((nI_eq (b := 2) (by omega) (by decide)).mp q)), if_neg (by simp only [this, decide_false]; exact Bool.false_ne_true)]

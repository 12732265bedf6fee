/-! the law's loop -/
theorem okI {S : ST} {fk fm : HL → Option (Int32 × HL)} (h : Ok S fk fm) {k : HL → Option HL} (hk : ∀ S', Inv S' → ∃ z, k (hp S') = some z) : ∃ z, ((fk (hp S)).bind fun z8 => (fm z8.2).bind fun z10 => if z8.1 = z10.1 then k z10.2 else none) = some z := by
  obtain ⟨r, S1, S2, h1, h2, h3⟩ := h
  obtain ⟨z, hz⟩ := hk S2 h3
  refine ⟨z, ?_⟩
  rw [h1, Option.bind_some]
  show ((fm (hp S1)).bind fun z10 => if r = z10.1 then k z10.2 else none) = some z
  rw [h2, Option.bind_some]
  show (if r = r then k (hp S2) else none) = some z
  rw [if_pos rfl, hz]
theorem okJ {S : ST} {fk fm : HL → Option (Int64 × HL)} (h : Ok S fk fm) {k : HL → Option HL} (hk : ∀ S', Inv S' → ∃ z, k (hp S') = some z) : ∃ z, ((fk (hp S)).bind fun z8 => (fm z8.2).bind fun z10 => if (lg_cmp z8.1 z10.1) = 0 then k z10.2 else none) = some z := by
  obtain ⟨r, S1, S2, h1, h2, h3⟩ := h
  obtain ⟨z, hz⟩ := hk S2 h3
  refine ⟨z, ?_⟩
  rw [h1, Option.bind_some]
  show ((fm (hp S1)).bind fun z10 => if (lg_cmp r z10.1) = 0 then k z10.2 else none) = some z
  rw [h2, Option.bind_some]
  show (if (lg_cmp r r) = 0 then k (hp S2) else none) = some z
  rw [if_pos ((lg_cmp_eq r r).mpr rfl), hz]
theorem ox {xn j k : Nat} {xs : Nat → Int32} {c : Int32} (hx : xn ≤ 2560) (h : j + k < xn) (hc : c = nI k) : o_x xn xs (nI j + c) = some (xs (j + k)) := by
  rw [hc, nI_add]
  unfold o_x
  rw [if_pos (nI_in h (by omega)), nI_clamp (by omega)]
theorem ox0 {xn j : Nat} {xs : Nat → Int32} (hx : xn ≤ 2560) (h : j < xn) : o_x xn xs (nI j) = some (xs j) := by
  unfold o_x
  rw [if_pos (nI_in h (by omega)), nI_clamp (by omega)]
theorem lw_more {xn j : Nat} (hx : xn ≤ 2560) (hj : j ≤ 3000) (h : ¬ (Int32.ofNat xn - 5) < nI j) : j + 5 ≤ xn := by
  rw [Int32.lt_iff_toInt_lt, nI_toInt (by omega), show (Int32.ofNat xn - 5).toInt = (xn : Int) - 5 from pk_sub_toInt (a := xn) (b := 5) (by omega) (by decide)] at h
  omega
set_option maxHeartbeats 4000000 in
set_option maxRecDepth 100000 in
theorem lw_body (F xn : Nat) (xs : Nat → Int32) (hF : 4000 ≤ F) (hx : xn ≤ 2560) {k18 : Nat → Nat → Int32 → HL → Option HL} {j : Nat} {S : ST} (h : Inv S) (hj : j ≤ 3000) (hk : j + 5 ≤ xn → ∀ S', Inv S' → ∃ z, k18 0 209 (nI j + 5) (hp S') = some z) : ∃ z, fL_law_b18c F xn xs k18 0 209 (nI j) (hp S) = some z := by
  unfold fL_law_b18c
  by_cases hc : (Int32.ofNat xn - 5) < nI j
  · rw [if_pos hc]
    exact ⟨_, rfl⟩
  rw [if_neg hc]
  have hl := lw_more hx hj hc
  have hk' : ∀ S', Inv S' → ∃ z, fL_law_b861 F xn xs k18 0 209 (nI j) (hp S') = some z := hk hl
  have x0 := ox0 (xs := xs) hx (show j < xn by omega)
  have x1 := ox (k := 1) (c := 1) (xs := xs) hx (show j + 1 < xn by omega) rfl
  have x2 := ox (k := 2) (c := 2) (xs := xs) hx (show j + 2 < xn by omega) rfl
  have x3 := ox (k := 3) (c := 3) (xs := xs) hx (show j + 3 < xn by omega) rfl
  have x4 := ox (k := 4) (c := 4) (xs := xs) hx (show j + 4 < xn by omega) rfl
  rw [x0, Option.bind_some]
  generalize xs j = v
  by_cases q0 : (v &&& 31) = 0
  · rw [if_pos q0]
    simp only [x1, Option.bind_some]
    exact okI (c_type F h _) hk'
  rw [if_neg q0]
  by_cases q1 : (v &&& 31) = 1
  · rw [if_pos q1]
    exact okI (c_clear F h) hk'
  rw [if_neg q1]
  by_cases q2 : (v &&& 31) = 2
  · rw [if_pos q2]
    exact okI (c_town F hF h) hk'
  rw [if_neg q2]
  by_cases q3 : (v &&& 31) = 3
  · rw [if_pos q3]
    simp only [x1, x2, Option.bind_some]
    exact okI (c_street F hF h _ _) hk'
  rw [if_neg q3]
  by_cases q4 : (v &&& 31) = 4
  · rw [if_pos q4]
    simp only [x1, x2, Option.bind_some]
    exact okI (c_citizen F hF h _ _) hk'
  rw [if_neg q4]
  by_cases q5 : (v &&& 31) = 5
  · rw [if_pos q5]
    simp only [x1, x2, x3, Option.bind_some]
    exact okI (c_does F hF h _ _ _) hk'
  rw [if_neg q5]
  by_cases q6 : (v &&& 31) = 6
  · rw [if_pos q6]
    simp only [x1, Option.bind_some]
    exact okI (c_wills F hF h _) hk'
  rw [if_neg q6]
  by_cases q7 : (v &&& 31) = 7
  · rw [if_pos q7]
    simp only [x1, x2, Option.bind_some]
    exact okI (c_moves F hF h _ _) hk'
  rw [if_neg q7]
  by_cases q8 : (v &&& 31) = 8
  · rw [if_pos q8]
    simp only [x1, Option.bind_some]
    exact okI (c_night F hF h _) hk'
  rw [if_neg q8]
  by_cases q9 : (v &&& 31) = 9
  · rw [if_pos q9]
    exact okI (c_undo F hF h) hk'
  rw [if_neg q9]
  by_cases q10 : (v &&& 31) = 10
  · rw [if_pos q10]
    simp only [x1, Option.bind_some]
    exact okI (c_now F hF h _) hk'
  rw [if_neg q10]
  by_cases q11 : (v &&& 31) = 11
  · rw [if_pos q11]
    simp only [x1, x2, Option.bind_some]
    exact okI (c_widest F hF h _ _) hk'
  rw [if_neg q11]
  by_cases q12 : (v &&& 31) = 12
  · rw [if_pos q12]
    simp only [x1, x2, x3, Option.bind_some]
    exact okI (c_way F hF h _ _ _) hk'
  rw [if_neg q12]
  by_cases q13 : (v &&& 31) = 13
  · rw [if_pos q13]
    simp only [x1, x2, x3, Option.bind_some]
    exact okI (c_flow F hF h _ _ _) hk'
  rw [if_neg q13]
  by_cases q14 : (v &&& 31) = 14
  · rw [if_pos q14]
    simp only [x1, x2, x3, Option.bind_some]
    exact okI (c_need F hF h _ _ _) hk'
  rw [if_neg q14]
  by_cases q15 : (v &&& 31) = 15
  · rw [if_pos q15]
    simp only [x1, x2, x3, x4, Option.bind_some]
    exact okI (c_odds F hF h _ _ _ _) hk'
  rw [if_neg q15]
  by_cases q16 : (v &&& 31) = 16
  · rw [if_pos q16]
    simp only [x1, Option.bind_some]
    exact okI (c_carriage F hF h _) hk'
  rw [if_neg q16]
  by_cases q17 : (v &&& 31) = 17
  · rw [if_pos q17]
    simp only [x1, x2, Option.bind_some]
    exact okI (c_measures F h _ _) hk'
  rw [if_neg q17]
  by_cases q18 : (v &&& 31) = 18
  · rw [if_pos q18]
    exact okI (c_forget F h) hk'
  rw [if_neg q18]
  by_cases q19 : (v &&& 31) = 19
  · rw [if_pos q19]
    simp only [x1, Option.bind_some]
    exact okI (c_deeds F hF h _) hk'
  rw [if_neg q19]
  by_cases q20 : (v &&& 31) = 20
  · rw [if_pos q20]
    exact okI (c_when F hF h) hk'
  rw [if_neg q20]
  by_cases q21 : (v &&& 31) = 21
  · rw [if_pos q21]
    simp only [x1, x2, Option.bind_some]
    exact okI (c_mark F hF h _ _) hk'
  rw [if_neg q21]
  by_cases q22 : (v &&& 31) = 22
  · rw [if_pos q22]
    simp only [x1, Option.bind_some]
    exact okI (c_keep F hF h _) hk'
  rw [if_neg q22]
  by_cases q23 : (v &&& 31) = 23
  · rw [if_pos q23]
    simp only [x1, Option.bind_some]
    exact okI (c_back F hF h _) hk'
  rw [if_neg q23]
  by_cases q24 : (v &&& 31) = 24
  · rw [if_pos q24]
    simp only [x1, Option.bind_some]
    exact okI (c_count F h _) hk'
  rw [if_neg q24]
  by_cases q25 : (v &&& 31) = 25
  · rw [if_pos q25]
    exact okJ (c_trace F h) hk'
  rw [if_neg q25]
  exact hk' S h
theorem lw_loop (F xn : Nat) (xs : Nat → Int32) (hF : 4000 ≤ F) (hx : xn ≤ 2560) : ∀ (n j : Nat) (S : ST), Inv S → j ≤ xn + 5 → xn + 6 - j ≤ n → ∃ z, fL_law_b18 F xn xs n 0 209 (nI j) (hp S) = some z := by
  intro n
  induction n with
  | zero => intro j S h h1 h2; omega
  | succ n ih =>
    intro j S h h1 h2
    refine lw_body F xn xs hF hx (k18 := fL_law_b18 F xn xs n) h (by omega) (fun hl S' h' => ?_)
    have e : nI j + 5 = nI (j + 5) := nI_add j 5
    rw [e]
    exact ih (j + 5) S' h' (by omega) (by omega)
theorem law_ok (F xn : Nat) (xs : Nat → Int32) (hF : 4000 ≤ F) (hx : xn ≤ 2560) : ∃ z, fL_law F xn xs [] = some z := by
  have e9 := i9 F
  have e10 := i10 F M9 M9_len
  unfold c8 at e9
  unfold c9 at e10
  unfold fL_law
  rw [show ([] : HL).length = 0 from rfl, e9, Option.bind_some, M9_len, e10, Option.bind_some, ← hp0]
  have hh := lw_loop F xn xs hF hx F 0 S0 inv0 (by omega) (by omega)
  rw [nI_0] at hh
  exact hh

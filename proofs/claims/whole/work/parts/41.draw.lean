/-! the plan that is drawn -/
def IsP (q : Nat) : Prop := kd q = (14, 0) ∧ kd (q + 1) = (0, 9) ∧ kd (q + 2) = (0, 9) ∧ kd (q + 3) = (0, 9) ∧ kd (q + 4) = (0, 6) ∧ kd (q + 5) = (0, 6) ∧ kd (q + 6) = (0, 9)
theorem IsP_188 : IsP 188 := ⟨rfl, rfl, rfl, rfl, rfl, rfl, rfl⟩
theorem IsP_198 : IsP 198 := ⟨rfl, rfl, rfl, rfl, rfl, rfl, rfl⟩
def PL (S : ST) (q Y n c : Nat) (on ot wn wi : Nat → Nat) : Prop := S.2.1 q 0 = nI Y ∧ S.2.1 q 1 = nI n ∧ S.2.1 q 2 = nI c ∧ (∀ s, s < n → S.1 (q + 1) s = nI (on s)) ∧ (∀ s, s < n → S.1 (q + 2) s = nI (ot s)) ∧ (∀ p, p < c → S.1 (q + 5) p = nI (wn p)) ∧ (∀ s, s < n → S.1 (q + 6) s = nI (wi s))
theorem becomeP_eq (F : Nat) {S : ST} {q Y n c : Nat} {on ot wn : Nat → Nat} (hq : IsP q) (h15 : 15 ≤ q) (h9 : n ≤ 9) (h6 : c ≤ 6) (kt : KT S Y n c on ot wn) : ∃ S', fX7_become_P F (hp S) q 9 = some (hp S') ∧ Fr q (q + 7) S S' ∧ S'.2.1 q 0 = nI Y ∧ S'.2.1 q 1 = nI n ∧ S'.2.1 q 2 = nI c ∧ (∀ s, s < n → S'.1 (q + 1) s = nI (on s)) ∧ (∀ s, s < n → S'.1 (q + 2) s = nI (ot s)) ∧ (∀ p, p < c → S'.1 (q + 5) p = nI (wn p)) := by
  obtain ⟨q0, q1, q2, q3, q4, q5, q6⟩ := hq
  obtain ⟨k1, k2, k3, k4, k5, k6⟩ := kt
  have c9 : ∀ (S : ST) (a b : Nat), kd a = (0, 9) → kd b = (0, 9) → o_cp (hp S) a 0 b 0 9 = some (hp (cp1 S a b 9)) := fun S a b ha hb => cp1_o ha hb
  have c6 : ∀ (S : ST) (a b : Nat), kd a = (0, 6) → kd b = (0, 6) → o_cp (hp S) a 0 b 0 6 = some (hp (cp1 S a b 6)) := fun S a b ha hb => cp1_o ha hb
  have n1 : (stJ S q 0 (nI Y)).2.1 9 1 = nI n := by rw [stJ_n _ _ (by omega)]; exact k2
  have n2 : (stJ (stJ S q 0 (nI Y)) q 1 (nI n)).2.1 9 2 = nI c := by rw [stJ_n _ _ (by omega), stJ_n _ _ (by omega)]; exact k3
  refine ⟨cp1 (cp1 (cp1 (cp1 (cp1 (stJ (stJ (stJ S q 0 (nI Y)) q 1 (nI n)) q 2 (nI c)) 10 (q + 1) 9) 11 (q + 2) 9) 12 (q + 3) 9) 13 (q + 4) 6) 14 (q + 5) 6, ?_, ?_, ?_, ?_, ?_, ?_, ?_, ?_⟩
  · unfold fX7_become_P
    simp only [Option.bind_some, Nat.reduceAdd, ob6 kd_9, g6_0 kd_9, g6_1 kd_9, g6_2 kd_9, g6_3 kd_9, g6_4 kd_9, g6_5 kd_9, g6_6 kd_9, g6_7 kd_9, p6_0 kd_9, p6_1 kd_9, p6_2 kd_9, ob4 q0, p4_0 q0, p4_1 q0, p4_2 q0, g4_3 q0, g4_4 q0, g4_5 q0, g4_6 q0, g4_7 q0, k1, n1, n2, c9 _ _ _ kd_10 q1, c9 _ _ _ kd_11 q2, c9 _ _ _ kd_12 q3, c6 _ _ _ kd_13 q4, c6 _ _ _ kd_14 q5]
  · exact Fr.tr (Fr.tr (Fr.tr (Fr.tr (Fr.tr (Fr.tr (Fr.tr (Fr.stJ (by omega) (by omega)) (Fr.stJ (by omega) (by omega))) (Fr.stJ (by omega) (by omega))) (Fr.cp1 (by omega) (by omega))) (Fr.cp1 (by omega) (by omega))) (Fr.cp1 (by omega) (by omega))) (Fr.cp1 (by omega) (by omega))) (Fr.cp1 (by omega) (by omega))
  · rw [cp1_2, cp1_2, cp1_2, cp1_2, cp1_2, stJ_k _ _ (by decide), stJ_k _ _ (by decide), stJ_s]
  · rw [cp1_2, cp1_2, cp1_2, cp1_2, cp1_2, stJ_k _ _ (by decide), stJ_s]
  · rw [cp1_2, cp1_2, cp1_2, cp1_2, cp1_2, stJ_s]
  · intro s hs
    rw [cp1_n _ (by omega), cp1_n _ (by omega), cp1_n _ (by omega), cp1_n _ (by omega), cp1_s _ (by omega), stJ_1, stJ_1, stJ_1]
    exact k4 s hs
  · intro s hs
    rw [cp1_n _ (by omega), cp1_n _ (by omega), cp1_n _ (by omega), cp1_s _ (by omega), cp1_n _ (by omega), stJ_1, stJ_1, stJ_1]
    exact k5 s hs
  · intro s hs
    rw [cp1_s _ (by omega), cp1_n _ (by omega), cp1_n _ (by omega), cp1_n _ (by omega), cp1_n _ (by omega), stJ_1, stJ_1, stJ_1]
    exact k6 s hs
theorem draw_eq (F : Nat) (hF : 4000 ≤ F) {S : ST} {q Y n c : Nat} {on ot wn : Nat → Nat} {μ : Mo} (hq : IsP q) (h72 : 72 ≤ q) (h9 : n ≤ 9) (h6 : c ≤ 6) (kt : KT S Y n c on ot wn) (km : MomAt S n c 16 μ) (wm : WM n c μ) : ∃ S', fX4_draw F (hp S) q 9 16 = some (hp S') ∧ Fr q (q + 7) S S' ∧ PL S' q Y n c on ot wn (wd μ) := by
  obtain ⟨S1, e1, f1, r1, r2, r3, r4, r5, r6⟩ := becomeP_eq F hq (by omega) h9 h6 kt
  have kt1 := kt.fr f1 (by omega)
  have km1 := km.fr f1 (by omega)
  obtain ⟨q0, q1, q2, q3, q4, q5, q6⟩ := hq
  refine ⟨stI S1 (q + 6) (fun j => if j < n then nI (wd μ j) else S1.1 (q + 6) j), ?_, Fr.tr f1 (Fr.stI (by omega) (by omega)), ?_⟩
  · unfold fX4_draw
    simp only [Option.bind_some, Nat.reduceAdd, ob4 q0, e1]
    have := loopA (fun k i st => fX4_draw_b7 F k q 9 16 (nI i) (hp st)) n (fun i => stI S1 (q + 6) (fun j => if j < i then nI (wd μ j) else S1.1 (q + 6) j)) (some (hp (stI S1 (q + 6) (fun j => if j < n then nI (wd μ j) else S1.1 (q + 6) j)))) ?_ ?_ F 0 (by omega) (by omega)
    · refine Eq.trans ?_ this
      have e : stI S1 (q + 6) (fun j => if j < 0 then nI (wd μ j) else S1.1 (q + 6) j) = S1 := stI_id (fun j => if_neg (by omega))
      rw [e]
      rfl
    · intro k
      show fX4_draw_b7c F _ q 9 16 (nI n) (hp _) = _
      unfold fX4_draw_b7c
      have e : (stI S1 (q + 6) (fun j => if j < n then nI (wd μ j) else S1.1 (q + 6) j)).2.1 9 1 = nI n := kt1.2.1
      simp only [Option.bind_some, Nat.reduceAdd, ob6 kd_9, g6_0 kd_9, g6_1 kd_9, g6_2 kd_9, g6_3 kd_9, g6_4 kd_9, g6_5 kd_9, g6_6 kd_9, g6_7 kd_9, p6_0 kd_9, p6_1 kd_9, p6_2 kd_9, e]
      rw [if_pos (nI_le (Nat.le_refl _) (by omega))]
    · intro k i hi
      show fX4_draw_b7c F _ q 9 16 (nI i) (hp (stI S1 (q + 6) (fun j => if j < i then nI (wd μ j) else S1.1 (q + 6) j))) = fX4_draw_b7 F k q 9 16 (nI (i + 1)) (hp (stI S1 (q + 6) (fun j => if j < i + 1 then nI (wd μ j) else S1.1 (q + 6) j)))
      unfold fX4_draw_b7c
      have fr : Fr (q + 6) (q + 7) S1 (stI S1 (q + 6) (fun j => if j < i then nI (wd μ j) else S1.1 (q + 6) j)) := Fr.stI (by omega) (by omega)
      have e := kt1.fr fr (by omega)
      have m := km1.fr fr (by omega)
      simp only [Option.bind_some, Nat.reduceAdd, ob6 kd_9, g6_0 kd_9, g6_1 kd_9, g6_2 kd_9, g6_3 kd_9, g6_4 kd_9, g6_5 kd_9, g6_6 kd_9, g6_7 kd_9, p6_0 kd_9, p6_1 kd_9, p6_2 kd_9, e.2.1]
      rw [if_neg (nI_ge hi (by omega))]
      simp only [Option.bind_some, Nat.reduceAdd, g4_8 q0, widthOf_mu F IsM_16 m wm h9 hi]
      rw [wa (by rw [q6]) (by decide) (by rw [q6]; show i < 9; omega)]
      simp only [Option.bind_some, Nat.reduceAdd, stI_stI, nI_1, stI_s]
      congr 3
      funext j
      rw [upd_at]
      by_cases hj : j = i
      · rw [if_pos hj, if_pos (by omega), hj]
      · rw [if_neg hj]
        by_cases hj2 : j < i
        · rw [if_pos hj2, if_pos (by omega)]
        · rw [if_neg hj2, if_neg (by omega)]
  · refine ⟨r1, r2, r3, fun s hs => ?_, fun s hs => ?_, fun p hp' => ?_, fun s hs => ?_⟩
    · rw [stI_n _ _ (by omega)]; exact r4 s hs
    · rw [stI_n _ _ (by omega)]; exact r5 s hs
    · rw [stI_n _ _ (by omega)]; exact r6 p hp'
    · rw [stI_s, if_pos hs]
theorem waysNow_eq (F : Nat) (hF : 4000 ≤ F) {S : ST} {Y n c : Nat} {on ot wn : Nat → Nat} {μ : Mo} (h9 : n ≤ 9) (h6 : c ≤ 6) (kt : KT S Y n c on ot wn) (km : MomAt S n c 16 μ) (wm : WM n c μ) : ∃ S', fX9_waysNow F (hp S) 0 = some (187, hp S') ∧ Fr 188 195 S S' ∧ PL S' 188 Y n c on ot wn (wd μ) := by
  obtain ⟨S', e, f, p⟩ := draw_eq F hF IsP_188 (by omega) h9 h6 kt km wm
  refine ⟨S', ?_, f, p⟩
  unfold fX9_waysNow
  simp only [Option.bind_some, Nat.reduceAdd, ob8 kd_0, g8_0 kd_0, g8_1 kd_0, g8_2 kd_0, g8_3 kd_0, g8_4 kd_0, g8_5 kd_0, g8_6 kd_0, g8_7 kd_0, g8_8 kd_0, g8_9 kd_0, p8_5 kd_0, p8_9 kd_0, ob7 kd_187, g7_0 kd_187, g7_1 kd_187, ob3 kd_15, g3_0 kd_15, g3_1 kd_15, g3_2 kd_15, p3_2 kd_15, e]
theorem yards_eq (F : Nat) {S : ST} {Y : Nat} (hY : S.2.1 9 0 = nI Y) (a b : Int32) : fX9_areUnlikeYards F (hp S) 0 a b = some (if (0 ≤ a ∧ a ≤ nI Y - 1) ∧ (0 ≤ b ∧ b ≤ nI Y - 1) ∧ ¬ a = b then 1 else 0, hp S) := by
  unfold fX9_areUnlikeYards fX9_areUnlikeYards_b43
  simp only [Option.bind_some, Nat.reduceAdd, ob8 kd_0, g8_0 kd_0, g8_1 kd_0, g8_2 kd_0, g8_3 kd_0, g8_4 kd_0, g8_5 kd_0, g8_6 kd_0, g8_7 kd_0, g8_8 kd_0, g8_9 kd_0, p8_5 kd_0, p8_9 kd_0, ob6 kd_9, g6_0 kd_9, g6_1 kd_9, g6_2 kd_9, g6_3 kd_9, g6_4 kd_9, g6_5 kd_9, g6_6 kd_9, g6_7 kd_9, p6_0 kd_9, p6_1 kd_9, p6_2 kd_9, hY, within_eq]
  by_cases h1 : 0 ≤ a ∧ a ≤ nI Y - 1
  · rw [if_pos h1, if_neg (by decide)]
    by_cases h2 : 0 ≤ b ∧ b ≤ nI Y - 1
    · rw [if_pos h2, if_neg (by decide)]
      by_cases h3 : a = b
      · rw [if_pos h3, if_neg (fun h => h.2.2 h3)]
      · rw [if_neg h3, if_pos ⟨h1, h2, h3⟩]
    · rw [if_neg h2, if_pos rfl, if_neg (fun h => h2 h.2.1)]
  · rw [if_neg h1, if_pos rfl, if_neg (fun h => h1 h.1)]
theorem areTwo_eq (F : Nat) {S : ST} {Y : Nat} (hY : S.1 211 0 = nI Y) (a b : Int32) : fX10_areTwo F (hp S) 209 a b = some (if (0 ≤ a ∧ a ≤ nI Y - 1) ∧ (0 ≤ b ∧ b ≤ nI Y - 1) ∧ ¬ a = b then 1 else 0, hp S) := by
  unfold fX10_areTwo fX10_areTwo_b25
  simp only [Option.bind_some, Nat.reduceAdd, ob9 kd_209, g9_0 kd_209, g9_1 kd_209, g9_2 kd_209, g9_3 kd_209, g9_4 kd_209, g9_5 kd_209, g9_6 kd_209, g9_7 kd_209, g9_8 kd_209, g9_9 kd_209, g9_10 kd_209, g9_11 kd_209, g9_12 kd_209, g9_13 kd_209, g9_14 kd_209, g9_15 kd_209, g9_16 kd_209, g9_17 kd_209, g9_18 kd_209, g9_19 kd_209, g9_20 kd_209, g9_21 kd_209, g9_22 kd_209, g9_23 kd_209, g9_24 kd_209, g9_25 kd_209, p9_1 kd_209, p9_10 kd_209, p9_11 kd_209, p9_12 kd_209, p9_13 kd_209, p9_14 kd_209, p9_15 kd_209, p9_24 kd_209, p9_25 kd_209, mIsYard_eq F hY]
  by_cases h1 : 0 ≤ a ∧ a ≤ nI Y - 1
  · rw [if_pos h1, if_neg (by decide)]
    by_cases h2 : 0 ≤ b ∧ b ≤ nI Y - 1
    · rw [if_pos h2, if_neg (by decide)]
      by_cases h3 : a = b
      · rw [if_pos h3, if_neg (fun h => h.2.2 h3)]
      · rw [if_neg h3, if_pos ⟨h1, h2, h3⟩]
    · rw [if_neg h2, if_pos rfl, if_neg (fun h => h2 h.2.1)]
  · rw [if_neg h1, if_pos rfl, if_neg (fun h => h1 h.1)]
/-- two yards, or not -/
theorem twoc (x y : Int32) {Y : Nat} (hY : Y ≤ 8) : (∃ a b, a < Y ∧ b < Y ∧ a ≠ b ∧ x = nI a ∧ y = nI b ∧ ((0 ≤ x ∧ x ≤ nI Y - 1) ∧ (0 ≤ y ∧ y ≤ nI Y - 1) ∧ ¬ x = y)) ∨ ¬ ((0 ≤ x ∧ x ≤ nI Y - 1) ∧ (0 ≤ y ∧ y ≤ nI Y - 1) ∧ ¬ x = y) := by
  by_cases h : (0 ≤ x ∧ x ≤ nI Y - 1) ∧ (0 ≤ y ∧ y ≤ nI Y - 1) ∧ ¬ x = y
  · obtain ⟨a, a1, a2⟩ := (isIn x Y (by omega)).mp h.1
    obtain ⟨b, b1, b2⟩ := (isIn y Y (by omega)).mp h.2.1
    refine Or.inl ⟨a, b, a1, b1, ?_, a2, b2, h⟩
    intro e
    apply h.2.2
    rw [a2, b2, e]
  · exact Or.inr h

/-! a town is told: both settle -/
def mu0 (d : Mo) : Mo := fun f s => if f = 0 then d 5 s else if f = 3 then d 6 s else 0
theorem cp_4_10 {S : ST} : o_cp (hp S) 4 0 10 0 9 = some (hp (cp1 S 4 10 9)) := cp1_o (n := 9) rfl rfl
theorem cp_5_11 {S : ST} : o_cp (hp S) 5 0 11 0 9 = some (hp (cp1 S 5 11 9)) := cp1_o (n := 9) rfl rfl
theorem cp_6_12 {S : ST} : o_cp (hp S) 6 0 12 0 9 = some (hp (cp1 S 6 12 9)) := cp1_o (n := 9) rfl rfl
theorem cp_7_13 {S : ST} : o_cp (hp S) 7 0 13 0 6 = some (hp (cp1 S 7 13 6)) := cp1_o (n := 6) rfl rfl
theorem cp_8_14 {S : ST} : o_cp (hp S) 8 0 14 0 6 = some (hp (cp1 S 8 14 6)) := cp1_o (n := 6) rfl rfl
theorem cp_12_17 {S : ST} : o_cp (hp S) 12 0 17 0 9 = some (hp (cp1 S 12 17 9)) := cp1_o (n := 9) rfl rfl
theorem cp_13_20 {S : ST} : o_cp (hp S) 13 0 20 0 6 = some (hp (cp1 S 13 20 6)) := cp1_o (n := 6) rfl rfl
theorem k_become (F : Nat) {S : ST} {d : Mo} (hd : DK S d) (hw : DW d) : ∃ S', fX7_become_T F (hp S) 9 3 = some (hp S') ∧ Fr 9 15 S S' ∧ S'.2.2 = S.2.2 ∧ KT S' (d 0 0) (d 1 0) (d 2 0) (d 3) (d 4) (d 7) ∧ (∀ s, s < 9 → S'.1 12 s = S.1 6 s) ∧ ∀ p, p < 6 → S'.1 13 p = S.1 7 p := by
  obtain ⟨d1, d2, d3, d4, d5⟩ := hd
  have h9 := hw.2.1
  have h6 := hw.2.2.1
  have q1 : ∀ x, (stJ S 9 0 x).2.1 3 1 = nI (d 1 0) := fun x => by rw [stJ_n _ _ (by decide)]; exact d2
  have q2 : ∀ x y, (stJ (stJ S 9 0 x) 9 1 y).2.1 3 2 = nI (d 2 0) := fun x y => by rw [stJ_n _ _ (by decide), stJ_n _ _ (by decide)]; exact d3
  refine ⟨cp1 (cp1 (cp1 (cp1 (cp1 (stJ (stJ (stJ S 9 0 (nI (d 0 0))) 9 1 (nI (d 1 0))) 9 2 (nI (d 2 0))) 4 10 9) 5 11 9) 6 12 9) 7 13 6) 8 14 6, ?_, ?_, rfl, ⟨?_, ?_, ?_, fun s hs => ?_, fun s hs => ?_, fun p hp' => ?_⟩, fun s hs => ?_, fun p hp' => ?_⟩
  · unfold fX7_become_T
    simp only [ob6 kd_9, g6_0 kd_9, g6_1 kd_9, g6_2 kd_9, g6_3 kd_9, g6_4 kd_9, g6_5 kd_9, g6_6 kd_9, g6_7 kd_9, p6_0 kd_9, p6_1 kd_9, p6_2 kd_9, ob6 kd_3, g6_0 kd_3, g6_1 kd_3, g6_2 kd_3, g6_3 kd_3, g6_4 kd_3, g6_5 kd_3, g6_6 kd_3, g6_7 kd_3, p6_0 kd_3, p6_1 kd_3, p6_2 kd_3, Option.bind_some, Nat.reduceAdd, d1, q1, q2, cp_4_10, cp_5_11, cp_6_12, cp_7_13, cp_8_14]
  · exact ((((((((Fr.rf (S := S)).tr (Fr.stJ (by omega) (by omega))).tr (Fr.stJ (by omega) (by omega))).tr (Fr.stJ (by omega) (by omega))).tr (Fr.cp1 (by omega) (by omega))).tr (Fr.cp1 (by omega) (by omega))).tr (Fr.cp1 (by omega) (by omega))).tr (Fr.cp1 (by omega) (by omega))).tr (Fr.cp1 (by omega) (by omega))
  · show (stJ (stJ (stJ S 9 0 (nI (d 0 0))) 9 1 (nI (d 1 0))) 9 2 (nI (d 2 0))).2.1 9 0 = _
    rw [stJ_k _ _ (by decide), stJ_k _ _ (by decide), stJ_s]
  · show (stJ (stJ (stJ S 9 0 (nI (d 0 0))) 9 1 (nI (d 1 0))) 9 2 (nI (d 2 0))).2.1 9 1 = _
    rw [stJ_k _ _ (by decide), stJ_s]
  · show (stJ (stJ (stJ S 9 0 (nI (d 0 0))) 9 1 (nI (d 1 0))) 9 2 (nI (d 2 0))).2.1 9 2 = _
    rw [stJ_s]
  · rw [cp1_n _ (by decide), cp1_n _ (by decide), cp1_n _ (by decide), cp1_n _ (by decide), cp1_s _ (by omega)]
    exact (d4 s hs).1
  · rw [cp1_n _ (by decide), cp1_n _ (by decide), cp1_n _ (by decide), cp1_s _ (by omega), cp1_n _ (by decide)]
    exact (d4 s hs).2.1
  · rw [cp1_s _ (by omega), cp1_n _ (by decide), cp1_n _ (by decide), cp1_n _ (by decide), cp1_n _ (by decide)]
    exact (d5 p hp').2
  · rw [cp1_n _ (by decide), cp1_n _ (by decide), cp1_s _ hs, cp1_n _ (by decide), cp1_n _ (by decide)]
    rfl
  · rw [cp1_n _ (by decide), cp1_s _ hp', cp1_n _ (by decide), cp1_n _ (by decide), cp1_n _ (by decide)]
    rfl
theorem k_begin (F : Nat) (hF : 4000 ≤ F) {S : ST} : ∃ S', fX3_begin F (hp S) 15 9 = some (hp S') ∧ Fr 15 21 S S' ∧ S'.2.2 = S.2.2 ∧ S'.2.1 15 2 = 0 ∧ S'.2.1 16 4 = 0 ∧ (∀ s, s < 9 → S'.1 17 s = S.1 12 s ∧ S'.1 18 s = 0 ∧ S'.1 19 s = 0) ∧ ∀ p, p < 6 → S'.1 20 p = S.1 13 p := by
  have f18 := fun S' : ST => fill_eq F hF (q := 18) (n := 9) rfl 0 S'
  have f19 := fun S' : ST => fill_eq F hF (q := 19) (n := 9) rfl 0 S'
  unfold fX3_begin fX2_begin
  simp only [ob6 kd_9, g6_0 kd_9, g6_1 kd_9, g6_2 kd_9, g6_3 kd_9, g6_4 kd_9, g6_5 kd_9, g6_6 kd_9, g6_7 kd_9, p6_0 kd_9, p6_1 kd_9, p6_2 kd_9, ob3 kd_15, g3_0 kd_15, g3_1 kd_15, g3_2 kd_15, p3_2 kd_15, ob2 kd_16, g2_0 kd_16, g2_1 kd_16, g2_2 kd_16, g2_3 kd_16, g2_4 kd_16, p2_4 kd_16, Option.bind_some, Nat.reduceAdd, cp_12_17, f18, f19, cp_13_20]
  refine ⟨_, rfl, ?_, rfl, stJ_s _ _ _ _, ?_, fun s hs => ⟨?_, ?_, ?_⟩, fun p hp' => ?_⟩
  · exact (((((Fr.cp1 (S := S) (by omega) (by omega)).tr (Fr.stI (by omega) (by omega))).tr (Fr.stI (by omega) (by omega))).tr (Fr.cp1 (by omega) (by omega))).tr (Fr.stJ (by omega) (by omega))).tr (Fr.stJ (by omega) (by omega))
  · rw [stJ_n _ _ (by decide), stJ_s]
  · rw [stJ_1, stJ_1, cp1_n _ (by decide), stI_n _ _ (by decide), stI_n _ _ (by decide), cp1_s _ hs]
  · rw [stJ_1, stJ_1, cp1_n _ (by decide), stI_n _ _ (by decide), stI_s, if_pos hs]
  · rw [stJ_1, stJ_1, cp1_n _ (by decide), stI_s, if_pos hs]
  · rw [stJ_1, stJ_1, cp1_s _ hp', stI_n _ _ (by decide), stI_n _ _ (by decide), cp1_n _ (by decide)]
def I57 (S : ST) (i : Nat) (S' : ST) : Prop := S'.2 = S.2 ∧ (∀ q, q ≠ 219 → S'.1 q = S.1 q) ∧ ∀ j, j < i → S'.1 219 j = 0
def I78 (S : ST) (n i : Nat) (S' : ST) : Prop := S'.2 = S.2 ∧ (∀ q j, ((q ≠ 213 ∧ q ≠ 214 ∧ q ≠ 219) ∨ ((q = 213 ∨ q = 214) ∧ 9 ≤ j) ∨ (q = 219 ∧ (j < 1 ∨ 10 ≤ j))) → S'.1 q j = S.1 q j) ∧ ∀ s, s < i → S'.1 213 s = S.1 213 (9 + s) ∧ S'.1 214 s = S.1 214 (9 + s) ∧ (s < n → S'.1 219 (1 + s) = S.1 215 (9 + s))
def I153 (S : ST) (c i : Nat) (S' : ST) : Prop := S'.2 = S.2 ∧ (∀ q j, ((q ≠ 218 ∧ q ≠ 219) ∨ (q = 218 ∧ 6 ≤ j) ∨ (q = 219 ∧ j < 28)) → S'.1 q j = S.1 q j) ∧ ∀ p, p < i → S'.1 218 p = S.1 218 (6 + p) ∧ (p < c → S'.1 219 (28 + p) = S.1 217 (6 + p))
theorem pu_2 (S : ST) (q j : Nat) (v : Int32) : (pu S q j v).2 = S.2 := rfl
theorem m_b57 (F : Nat) (hF : 4000 ≤ F) {S : ST} {g : Nat → Int32} : ∃ S', I57 S 34 S' ∧ fX10_town_b57 F F 209 0 (hp (jS S g)) = fX10_town_b78 F F 209 0 (hp (jS S' g)) := by
  have := loopI (fun k i st => fX10_town_b57 F k 209 (nI i) (hp (jS st g))) 34 (fun i S' => I57 S i S') (fun r => ∃ S', I57 S 34 S' ∧ r = fX10_town_b78 F F 209 0 (hp (jS S' g))) ?_ ?_ F 0 S (by omega) (by omega) ⟨rfl, fun _ _ => rfl, fun j hj => absurd hj (Nat.not_lt_zero _)⟩
  · exact this
  · intro k st hI
    refine ⟨st, hI, ?_⟩
    show fX10_town_b57c F _ 209 (nI 34) _ = _
    unfold fX10_town_b57c
    rw [if_pos (by decide)]
  · intro k i st hi hI
    obtain ⟨a, b, c⟩ := hI
    refine ⟨pu st 219 i 0, ⟨a, fun q hq => ?_, fun j hj => ?_⟩, ?_⟩
    · rw [show (pu st 219 i 0).1 q = st.1 q from stI_n _ _ hq]; exact b q hq
    · rw [pu_at]
      by_cases h : j = i
      · rw [if_pos ⟨rfl, h⟩]
      · rw [if_neg (fun e => h e.2)]; exact c j (by omega)
    · show fX10_town_b57c F (fX10_town_b57 F k) 209 (nI i) (hp (jS st g)) = _
      unfold fX10_town_b57c
      rw [if_neg (show ¬ (34 : Int32) ≤ nI i from nI_ge (b := 34) hi (by decide))]
      simp only [ob9 kd_209, g9_0 kd_209, g9_1 kd_209, g9_2 kd_209, g9_3 kd_209, g9_4 kd_209, g9_5 kd_209, g9_6 kd_209, g9_7 kd_209, g9_8 kd_209, g9_9 kd_209, g9_10 kd_209, g9_11 kd_209, g9_12 kd_209, g9_13 kd_209, g9_14 kd_209, g9_15 kd_209, g9_16 kd_209, g9_17 kd_209, g9_18 kd_209, g9_19 kd_209, g9_20 kd_209, g9_21 kd_209, g9_22 kd_209, g9_23 kd_209, g9_24 kd_209, g9_25 kd_209, p9_1 kd_209, p9_10 kd_209, p9_11 kd_209, p9_12 kd_209, p9_13 kd_209, p9_14 kd_209, p9_15 kd_209, p9_24 kd_209, p9_25 kd_209, Option.bind_some, Nat.reduceAdd]
      rw [wpu (by rfl) (by rw [kd_219]; exact hi)]
      simp only [Option.bind_some, Nat.reduceAdd, nI_1]
theorem m_b78 (F : Nat) (hF : 4000 ≤ F) {S : ST} {g : Nat → Int32} {n : Nat} (hn : S.1 212 0 = nI n) (h9 : n ≤ 9) : ∃ S', I78 S n 9 S' ∧ fX10_town_b78 F F 209 0 (hp (jS S g)) = fX10_town_b153 F F 209 0 (hp (jS S' g)) := by
  have := loopI (fun k i st => fX10_town_b78 F k 209 (nI i) (hp (jS st g))) 9 (fun i S' => I78 S n i S') (fun r => ∃ S', I78 S n 9 S' ∧ r = fX10_town_b153 F F 209 0 (hp (jS S' g))) ?_ ?_ F 0 S (by omega) (by omega) ⟨rfl, fun _ _ _ => rfl, fun j hj => absurd hj (Nat.not_lt_zero _)⟩
  · exact this
  · intro k st hI
    refine ⟨st, hI, ?_⟩
    show fX10_town_b78c F _ 209 (nI 9) _ = _
    unfold fX10_town_b78c
    rw [if_pos (by decide)]
  · intro k i st hi hI
    obtain ⟨a, b, c⟩ := hI
    have b212 : st.1 212 0 = nI n := by rw [b 212 0 (by omega)]; exact hn
    have b213 : st.1 213 (9 + i) = S.1 213 (9 + i) := b 213 (9 + i) (by omega)
    have b214 : st.1 214 (9 + i) = S.1 214 (9 + i) := b 214 (9 + i) (by omega)
    have b215 : st.1 215 (9 + i) = S.1 215 (9 + i) := b 215 (9 + i) (by omega)
    have fin : ∀ v, (i < n → v = S.1 215 (9 + i)) → I78 S n (i + 1) (pu (pu (pu st 213 i (S.1 213 (9 + i))) 214 i (S.1 214 (9 + i))) 219 (1 + i) v) := by
      intro v hv
      refine ⟨a, fun q j hq => ?_, fun s hs => ?_⟩
      · rw [pu_o _ _ (by omega), pu_o _ _ (by omega), pu_o _ _ (by omega)]; exact b q j hq
      · by_cases h : s = i
        · subst h
          refine ⟨?_, ?_, fun h => ?_⟩
          · rw [pu_o _ _ (by omega), pu_o _ _ (by omega), pu_s]
          · rw [pu_o _ _ (by omega), pu_s]
          · rw [pu_s]; exact hv h
        · obtain ⟨x, y, z⟩ := c s (by omega)
          refine ⟨?_, ?_, fun h => ?_⟩
          · rw [pu_o _ _ (by omega), pu_o _ _ (by omega), pu_o _ _ (by omega)]; exact x
          · rw [pu_o _ _ (by omega), pu_o _ _ (by omega), pu_o _ _ (by omega)]; exact y
          · rw [pu_o _ _ (by omega), pu_o _ _ (by omega), pu_o _ _ (by omega)]; exact z h
    have q214 : (pu st 213 i (S.1 213 (9 + i))).1 214 (9 + i) = S.1 214 (9 + i) := by rw [pu_o _ _ (by omega)]; exact b214
    have q212 : (pu (pu st 213 i (S.1 213 (9 + i))) 214 i (S.1 214 (9 + i))).1 212 0 = nI n := by rw [pu_o _ _ (by omega), pu_o _ _ (by omega)]; exact b212
    have q215 : (pu (pu st 213 i (S.1 213 (9 + i))) 214 i (S.1 214 (9 + i))).1 215 (9 + i) = S.1 215 (9 + i) := by rw [pu_o _ _ (by omega), pu_o _ _ (by omega)]; exact b215
    have step : fX10_town_b78 F (k + 1) 209 (nI i) (hp (jS st g)) = fX10_town_b78 F k 209 (nI (i + 1)) (hp (jS (pu (pu (pu st 213 i (S.1 213 (9 + i))) 214 i (S.1 214 (9 + i))) 219 (1 + i) (if n ≤ i then 0 else S.1 215 (9 + i))) g)) := by
      show fX10_town_b78c F (fX10_town_b78 F k) 209 (nI i) (hp (jS st g)) = _
      unfold fX10_town_b78c fX10_town_b144
      rw [if_neg (show ¬ (9 : Int32) ≤ nI i from nI_ge (b := 9) hi (by decide))]
      simp only [ob9 kd_209, g9_0 kd_209, g9_1 kd_209, g9_2 kd_209, g9_3 kd_209, g9_4 kd_209, g9_5 kd_209, g9_6 kd_209, g9_7 kd_209, g9_8 kd_209, g9_9 kd_209, g9_10 kd_209, g9_11 kd_209, g9_12 kd_209, g9_13 kd_209, g9_14 kd_209, g9_15 kd_209, g9_16 kd_209, g9_17 kd_209, g9_18 kd_209, g9_19 kd_209, g9_20 kd_209, g9_21 kd_209, g9_22 kd_209, g9_23 kd_209, g9_24 kd_209, g9_25 kd_209, p9_1 kd_209, p9_10 kd_209, p9_11 kd_209, p9_12 kd_209, p9_13 kd_209, p9_14 kd_209, p9_15 kd_209, p9_24 kd_209, p9_25 kd_209, Option.bind_some, Nat.reduceAdd, la9, la1]
      rw [ra (by rfl) (by decide) (by rw [kd_213]; show 9 + i < 18; omega)]
      simp only [Option.bind_some, Nat.reduceAdd, jS_1, b213]
      rw [wpu (by rfl) (by rw [kd_213]; show i < 18; omega)]
      simp only [ob9 kd_209, g9_0 kd_209, g9_1 kd_209, g9_2 kd_209, g9_3 kd_209, g9_4 kd_209, g9_5 kd_209, g9_6 kd_209, g9_7 kd_209, g9_8 kd_209, g9_9 kd_209, g9_10 kd_209, g9_11 kd_209, g9_12 kd_209, g9_13 kd_209, g9_14 kd_209, g9_15 kd_209, g9_16 kd_209, g9_17 kd_209, g9_18 kd_209, g9_19 kd_209, g9_20 kd_209, g9_21 kd_209, g9_22 kd_209, g9_23 kd_209, g9_24 kd_209, g9_25 kd_209, p9_1 kd_209, p9_10 kd_209, p9_11 kd_209, p9_12 kd_209, p9_13 kd_209, p9_14 kd_209, p9_15 kd_209, p9_24 kd_209, p9_25 kd_209, Option.bind_some, Nat.reduceAdd]
      rw [ra (by rfl) (by decide) (by rw [kd_214]; show 9 + i < 18; omega)]
      simp only [Option.bind_some, Nat.reduceAdd, jS_1, q214]
      rw [wpu (by rfl) (by rw [kd_214]; show i < 18; omega)]
      simp only [ob9 kd_209, g9_0 kd_209, g9_1 kd_209, g9_2 kd_209, g9_3 kd_209, g9_4 kd_209, g9_5 kd_209, g9_6 kd_209, g9_7 kd_209, g9_8 kd_209, g9_9 kd_209, g9_10 kd_209, g9_11 kd_209, g9_12 kd_209, g9_13 kd_209, g9_14 kd_209, g9_15 kd_209, g9_16 kd_209, g9_17 kd_209, g9_18 kd_209, g9_19 kd_209, g9_20 kd_209, g9_21 kd_209, g9_22 kd_209, g9_23 kd_209, g9_24 kd_209, g9_25 kd_209, p9_1 kd_209, p9_10 kd_209, p9_11 kd_209, p9_12 kd_209, p9_13 kd_209, p9_14 kd_209, p9_15 kd_209, p9_24 kd_209, p9_25 kd_209, Option.bind_some, Nat.reduceAdd, m212_0, jS_1, q212]
      by_cases h : n ≤ i
      · rw [if_pos (nI_le h (by omega)), if_pos h, wpu (by rfl) (by rw [kd_219]; show 1 + i < 34; omega)]
        simp only [Option.bind_some, Nat.reduceAdd, nI_1]
      · rw [if_neg (nI_ge (by omega) (by omega)), if_neg h, ra (by rfl) (by decide) (by rw [kd_215]; show 9 + i < 18; omega)]
        simp only [Option.bind_some, Nat.reduceAdd, jS_1, q215]
        rw [wpu (by rfl) (by rw [kd_219]; show 1 + i < 34; omega)]
        simp only [Option.bind_some, Nat.reduceAdd, nI_1]
    exact ⟨_, fin _ (fun h => if_neg (by omega)), step⟩
theorem w220 {S : ST} {g : Nat → Int32} {x : Int32} : o_sI (hp (jS S g)) 220 0 0 x = some (hp (jS (pu S 220 0 x) g)) := wpu (j := 0) rfl (by decide)
theorem w223_0 {S : ST} {g : Nat → Int32} : o_sI (hp (jS S g)) 223 2 0 (vp_nar .boolean 0) = some (hp (jS (pu S 223 0 0) g)) := wa (S := jS S g) (t := 2) (j := 0) rfl (by decide) (by decide)
theorem w223_1 {S : ST} {g : Nat → Int32} : o_sI (hp (jS S g)) 223 2 1 (vp_nar .boolean 0) = some (hp (jS (pu S 223 1 0) g)) := wa (S := jS S g) (t := 2) (j := 1) rfl (by decide) (by decide)
theorem m_b153 (F : Nat) (hF : 4000 ≤ F) {S : ST} {g : Nat → Int32} {c : Nat} (hc : S.1 216 0 = nI c) (h6 : c ≤ 6) : ∃ S', I153 S c 6 S' ∧ fX10_town_b153 F F 209 0 (hp (jS S g)) = some (g 15, hp (jS (pu (pu (pu S' 220 0 0) 223 0 0) 223 1 0) (upd (upd g 24 0) 1 0))) := by
  have g15 : upd (upd g 24 0) 1 0 15 = g 15 := by rw [upd_n _ _ (by decide), upd_n _ _ (by decide)]
  have := loopI (fun k i st => fX10_town_b153 F k 209 (nI i) (hp (jS st g))) 6 (fun i S' => I153 S c i S') (fun r => ∃ S', I153 S c 6 S' ∧ r = some (g 15, hp (jS (pu (pu (pu S' 220 0 0) 223 0 0) 223 1 0) (upd (upd g 24 0) 1 0)))) ?_ ?_ F 0 S (by omega) (by omega) ⟨rfl, fun _ _ _ => rfl, fun j hj => absurd hj (Nat.not_lt_zero _)⟩
  · exact this
  · intro k st hI
    refine ⟨st, hI, ?_⟩
    show fX10_town_b153c F _ 209 (nI 6) _ = _
    unfold fX10_town_b153c
    rw [if_pos (by decide)]
    simp only [ob9 kd_209, g9_0 kd_209, g9_1 kd_209, g9_2 kd_209, g9_3 kd_209, g9_4 kd_209, g9_5 kd_209, g9_6 kd_209, g9_7 kd_209, g9_8 kd_209, g9_9 kd_209, g9_10 kd_209, g9_11 kd_209, g9_12 kd_209, g9_13 kd_209, g9_14 kd_209, g9_15 kd_209, g9_16 kd_209, g9_17 kd_209, g9_18 kd_209, g9_19 kd_209, g9_20 kd_209, g9_21 kd_209, g9_22 kd_209, g9_23 kd_209, g9_24 kd_209, g9_25 kd_209, p9_1 kd_209, p9_10 kd_209, p9_11 kd_209, p9_12 kd_209, p9_13 kd_209, p9_14 kd_209, p9_15 kd_209, p9_24 kd_209, p9_25 kd_209, Option.bind_some, Nat.reduceAdd, w220, w223_0, w223_1, jS_st, jS_f, g15]
  · intro k i st hi hI
    obtain ⟨a, b, cc⟩ := hI
    have b216 : st.1 216 0 = nI c := by rw [b 216 0 (by omega)]; exact hc
    have b217 : st.1 217 (6 + i) = S.1 217 (6 + i) := b 217 (6 + i) (by omega)
    have b218 : st.1 218 (6 + i) = S.1 218 (6 + i) := b 218 (6 + i) (by omega)
    have fin : ∀ v, (i < c → v = S.1 217 (6 + i)) → I153 S c (i + 1) (pu (pu st 219 (28 + i) v) 218 i (S.1 218 (6 + i))) := by
      intro v hv
      refine ⟨a, fun q j hq => ?_, fun s hs => ?_⟩
      · rw [pu_o _ _ (by omega), pu_o _ _ (by omega)]; exact b q j hq
      · by_cases h : s = i
        · subst h
          refine ⟨?_, fun h => ?_⟩
          · rw [pu_s]
          · rw [pu_o _ _ (by omega), pu_s]; exact hv h
        · obtain ⟨x, y⟩ := cc s (by omega)
          refine ⟨?_, fun h => ?_⟩
          · rw [pu_o _ _ (by omega), pu_o _ _ (by omega)]; exact x
          · rw [pu_o _ _ (by omega), pu_o _ _ (by omega)]; exact y h
    have q218 : ∀ v, (pu st 219 (28 + i) v).1 218 (6 + i) = S.1 218 (6 + i) := fun v => by rw [pu_o _ _ (by omega)]; exact b218
    have tail : ∀ v, fX10_town_b190 F (fX10_town_b153 F k) 209 (nI i) v (nI (28 + i)) 219 (hp (jS st g)) = fX10_town_b153 F k 209 (nI (i + 1)) (hp (jS (pu (pu st 219 (28 + i) v) 218 i (S.1 218 (6 + i))) g)) := by
      intro v
      unfold fX10_town_b190
      rw [wpu (by rfl) (by rw [kd_219]; show 28 + i < 34; omega)]
      simp only [ob9 kd_209, g9_0 kd_209, g9_1 kd_209, g9_2 kd_209, g9_3 kd_209, g9_4 kd_209, g9_5 kd_209, g9_6 kd_209, g9_7 kd_209, g9_8 kd_209, g9_9 kd_209, g9_10 kd_209, g9_11 kd_209, g9_12 kd_209, g9_13 kd_209, g9_14 kd_209, g9_15 kd_209, g9_16 kd_209, g9_17 kd_209, g9_18 kd_209, g9_19 kd_209, g9_20 kd_209, g9_21 kd_209, g9_22 kd_209, g9_23 kd_209, g9_24 kd_209, g9_25 kd_209, p9_1 kd_209, p9_10 kd_209, p9_11 kd_209, p9_12 kd_209, p9_13 kd_209, p9_14 kd_209, p9_15 kd_209, p9_24 kd_209, p9_25 kd_209, Option.bind_some, Nat.reduceAdd, la6]
      rw [ra (by rfl) (by decide) (by rw [kd_218]; show 6 + i < 12; omega)]
      simp only [Option.bind_some, Nat.reduceAdd, jS_1, q218]
      rw [wpu (by rfl) (by rw [kd_218]; show i < 12; omega)]
      simp only [Option.bind_some, Nat.reduceAdd, nI_1]
    have step : fX10_town_b153 F (k + 1) 209 (nI i) (hp (jS st g)) = fX10_town_b153 F k 209 (nI (i + 1)) (hp (jS (pu (pu st 219 (28 + i) (if c ≤ i then 0 else S.1 217 (6 + i))) 218 i (S.1 218 (6 + i))) g)) := by
      show fX10_town_b153c F (fX10_town_b153 F k) 209 (nI i) (hp (jS st g)) = _
      unfold fX10_town_b153c
      rw [if_neg (show ¬ (6 : Int32) ≤ nI i from nI_ge (b := 6) hi (by decide))]
      simp only [ob9 kd_209, g9_0 kd_209, g9_1 kd_209, g9_2 kd_209, g9_3 kd_209, g9_4 kd_209, g9_5 kd_209, g9_6 kd_209, g9_7 kd_209, g9_8 kd_209, g9_9 kd_209, g9_10 kd_209, g9_11 kd_209, g9_12 kd_209, g9_13 kd_209, g9_14 kd_209, g9_15 kd_209, g9_16 kd_209, g9_17 kd_209, g9_18 kd_209, g9_19 kd_209, g9_20 kd_209, g9_21 kd_209, g9_22 kd_209, g9_23 kd_209, g9_24 kd_209, g9_25 kd_209, p9_1 kd_209, p9_10 kd_209, p9_11 kd_209, p9_12 kd_209, p9_13 kd_209, p9_14 kd_209, p9_15 kd_209, p9_24 kd_209, p9_25 kd_209, Option.bind_some, Nat.reduceAdd, m216_0, jS_1, b216, la6, la28]
      by_cases h : c ≤ i
      · rw [if_pos (nI_le h (by omega)), if_pos h, tail]
      · rw [if_neg (nI_ge (by omega) (by omega)), if_neg h, ra (by rfl) (by decide) (by rw [kd_217]; show 6 + i < 12; omega)]
        simp only [Option.bind_some, Nat.reduceAdd, jS_1, b217, tail]
    exact ⟨_, fin _ (fun h => if_neg (by omega)), step⟩
theorem m_settle (F : Nat) (hF : 4000 ≤ F) {S : ST} {g : Nat → Int32} {d : Mo} (hd : DM S d) (hw : DW d) : ∃ S', fX10_town_b57 F F 209 0 (hp (jS (pu (pu (pu S 211 0 (nI (d 0 0))) 212 0 (nI (d 1 0))) 216 0 (nI (d 2 0))) g)) = some (g 15, hp S') ∧ Fr 209 224 (jS S g) S' ∧ S'.2.2 = S.2.2 ∧ MT S' (d 0 0) (d 1 0) (d 2 0) (d 3) (d 4) (d 7) ∧ MM S' (d 1 0) (d 2 0) (mu0 d) ∧ S'.1 220 0 = 0 ∧ (∀ i, i < 2 → S'.1 223 i = 0) ∧ S'.2.1 209 1 = 0 ∧ S'.2.1 209 24 = 0 := by
  obtain ⟨d1, d2, d3, d4, d5⟩ := hd
  have h9 := hw.2.1
  have h6 := hw.2.2.1
  have z1 : (pu (pu (pu S 211 0 (nI (d 0 0))) 212 0 (nI (d 1 0))) 216 0 (nI (d 2 0))).1 211 0 = nI (d 0 0) := by rw [pu_o _ _ (by omega), pu_o _ _ (by omega), pu_s]
  have z2 : (pu (pu (pu S 211 0 (nI (d 0 0))) 212 0 (nI (d 1 0))) 216 0 (nI (d 2 0))).1 212 0 = nI (d 1 0) := by rw [pu_o _ _ (by omega), pu_s]
  have z3 : (pu (pu (pu S 211 0 (nI (d 0 0))) 212 0 (nI (d 1 0))) 216 0 (nI (d 2 0))).1 216 0 = nI (d 2 0) := by rw [pu_s]
  have zo : ∀ q j, q ≠ 211 → q ≠ 212 → q ≠ 216 → (pu (pu (pu S 211 0 (nI (d 0 0))) 212 0 (nI (d 1 0))) 216 0 (nI (d 2 0))).1 q j = S.1 q j := fun q j a b c => by rw [pu_o _ _ (by omega), pu_o _ _ (by omega), pu_o _ _ (by omega)]
  have z22 : (pu (pu (pu S 211 0 (nI (d 0 0))) 212 0 (nI (d 1 0))) 216 0 (nI (d 2 0))).2 = S.2 := rfl
  generalize pu (pu (pu S 211 0 (nI (d 0 0))) 212 0 (nI (d 1 0))) 216 0 (nI (d 2 0)) = S0 at *
  obtain ⟨S1, ⟨a1, a2, a3⟩, e1⟩ := m_b57 F hF (S := S0) (g := g)
  obtain ⟨S2, ⟨b1, b2, b3⟩, e2⟩ := m_b78 F hF (S := S1) (g := g) (n := d 1 0) (by rw [a2 212 (by omega)]; exact z2) h9
  obtain ⟨S3, ⟨c1, c2, c3⟩, e3⟩ := m_b153 F hF (S := S2) (g := g) (c := d 2 0) (by rw [b2 216 0 (by omega), a2 216 (by omega)]; exact z3) h6
  have sf : S3.2 = S.2 := by rw [c1, b1, a1, z22]
  have ao : ∀ q j, (q < 209 ∨ 224 ≤ q) → (pu (pu (pu S3 220 0 0) 223 0 0) 223 1 0).1 q j = S.1 q j := fun q j hq => by
    rw [pu_o _ _ (by omega), pu_o _ _ (by omega), pu_o _ _ (by omega), c2 q j (by omega), b2 q j (by omega), a2 q (by omega)]
    exact zo q j (by omega) (by omega) (by omega)
  have p3 : ∀ q j, q ≠ 220 → q ≠ 223 → (pu (pu (pu S3 220 0 0) 223 0 0) 223 1 0).1 q j = S3.1 q j := fun q j h1 h2 => by rw [pu_o _ _ (by omega), pu_o _ _ (by omega), pu_o _ _ (by omega)]
  refine ⟨_, by rw [e1, e2, e3], ?_, ?_, ⟨?_, ?_, ?_, fun s hs => ?_, fun s hs => ?_, fun p hp' => ?_⟩, ⟨?_, fun s hs => ?_, fun s hs => ?_, fun s hs => ?_, fun p hp' => ?_⟩, ?_, fun i hi => ?_, ?_, ?_⟩
  · intro a ha
    refine ⟨funext (fun j => ao a j ha), ?_, ?_, ?_⟩
    · show va_up S3.2.1 209 _ a = va_up S.2.1 209 _ a
      rw [va_up_ne _ _ (by omega), va_up_ne _ _ (by omega), sf]
    · show S3.2.2.1 a = S.2.2.1 a
      rw [sf]
    · show S3.2.2.2 a = S.2.2.2 a
      rw [sf]
  · show S3.2.2 = S.2.2
    rw [sf]
  · rw [jS_1, p3 _ _ (by omega) (by omega), c2 _ _ (by omega), b2 _ _ (by omega), a2 _ (by omega)]; exact z1
  · rw [jS_1, p3 _ _ (by omega) (by omega), c2 _ _ (by omega), b2 _ _ (by omega), a2 _ (by omega)]; exact z2
  · rw [jS_1, p3 _ _ (by omega) (by omega), c2 _ _ (by omega), b2 _ _ (by omega), a2 _ (by omega)]; exact z3
  · rw [jS_1, p3 _ _ (by omega) (by omega), c2 _ _ (by omega), (b3 s (by omega)).1, a2 _ (by omega), zo _ _ (by omega) (by omega) (by omega)]; exact (d4 s hs).1
  · rw [jS_1, p3 _ _ (by omega) (by omega), c2 _ _ (by omega), (b3 s (by omega)).2.1, a2 _ (by omega), zo _ _ (by omega) (by omega) (by omega)]; exact (d4 s hs).2.1
  · rw [jS_1, p3 _ _ (by omega) (by omega), (c3 p (by omega)).1, b2 _ _ (by omega), a2 _ (by omega), zo _ _ (by omega) (by omega) (by omega)]; exact (d5 p hp').2
  · rw [jS_1, p3 _ _ (by omega) (by omega), c2 _ _ (by omega), b2 _ _ (by omega), a3 _ (by omega)]; rfl
  · rw [jS_1, p3 _ _ (by omega) (by omega), c2 _ _ (by omega), (b3 s (by omega)).2.2 hs, a2 _ (by omega), zo _ _ (by omega) (by omega) (by omega)]; exact (d4 s hs).2.2
  · rw [jS_1, p3 _ _ (by omega) (by omega), c2 _ _ (by omega), b2 _ _ (by omega), a3 _ (by omega)]; rfl
  · rw [jS_1, p3 _ _ (by omega) (by omega), c2 _ _ (by omega), b2 _ _ (by omega), a3 _ (by omega)]; rfl
  · rw [jS_1, p3 _ _ (by omega) (by omega), (c3 p (by omega)).2 hp', b2 _ _ (by omega), a2 _ (by omega), zo _ _ (by omega) (by omega) (by omega)]; exact (d5 p hp').1
  · rw [jS_1, pu_o _ _ (by omega), pu_o _ _ (by omega), pu_s]
  · rw [jS_1]
    rcases (show i = 0 ∨ i = 1 by omega) with rfl | rfl
    · rw [pu_o _ _ (by omega), pu_s]
    · rw [pu_s]
  · rw [jS_f, upd_s]
  · rw [jS_f, upd_n _ _ (by decide), upd_s]
theorem ME0.fr {S S' : ST} {g : Nat → Int32} (h : ME0 S S') : Fr 209 219 S (jS S' g) := by
  intro a ha
  refine ⟨funext (fun j => h.2 a j (by omega)), ?_, ?_, ?_⟩
  · show va_up S'.2.1 209 g a = S.2.1 a
    rw [va_up_ne _ _ (by omega), h.1]
  · show S'.2.2.1 a = S.2.2.1 a
    rw [h.1]
  · show S'.2.2.2 a = S.2.2.2 a
    rw [h.1]
theorem neg_v {v : Nat} (hv : v ≤ 120) : ¬ (0 : Int32) ≤ (-10) - nI v := (by decide +kernel : ∀ v, v < 121 → ¬ (0 : Int32) ≤ (-10) - nI v) v (by omega)

/-! town -/
theorem w211_0 {S : ST} {g : Nat → Int32} {x : Int32} : o_sI (hp (jS S g)) 211 0 0 x = some (hp (jS (pu S 211 0 x) g)) := wpu (j := 0) rfl (by decide)
theorem w212_0 {S : ST} {g : Nat → Int32} {x : Int32} : o_sI (hp (jS S g)) 212 0 0 x = some (hp (jS (pu S 212 0 x) g)) := wpu (j := 0) rfl (by decide)
theorem w216_0 {S : ST} {g : Nat → Int32} {x : Int32} : o_sI (hp (jS S g)) 216 0 0 x = some (hp (jS (pu S 216 0 x) g)) := wpu (j := 0) rfl (by decide)
theorem m_town (F : Nat) {S S' : ST} {g : Nat → Int32} (e : fX10_read F (hp S) 209 = some (hp (jS S' g))) : fX10_town F (hp S) 209 = if g 14 = 0 then fX10_town_b57 F F 209 0 (hp (jS (pu (pu (pu S' 211 0 (S'.1 211 1)) 212 0 (S'.1 212 1)) 216 0 (S'.1 216 1)) g)) else some ((-10) - g 11, hp (jS S' g)) := by
  have q1 : ∀ x, (pu S' 211 0 x).1 212 1 = S'.1 212 1 := fun x => pu_o _ _ (by omega)
  have q2 : ∀ x y, (pu (pu S' 211 0 x) 212 0 y).1 216 1 = S'.1 216 1 := fun x y => by rw [pu_o _ _ (by omega), pu_o _ _ (by omega)]
  unfold fX10_town
  simp only [ob9 kd_209, g9_0 kd_209, g9_1 kd_209, g9_2 kd_209, g9_3 kd_209, g9_4 kd_209, g9_5 kd_209, g9_6 kd_209, g9_7 kd_209, g9_8 kd_209, g9_9 kd_209, g9_10 kd_209, g9_11 kd_209, g9_12 kd_209, g9_13 kd_209, g9_14 kd_209, g9_15 kd_209, g9_16 kd_209, g9_17 kd_209, g9_18 kd_209, g9_19 kd_209, g9_20 kd_209, g9_21 kd_209, g9_22 kd_209, g9_23 kd_209, g9_24 kd_209, g9_25 kd_209, p9_1 kd_209, p9_10 kd_209, p9_11 kd_209, p9_12 kd_209, p9_13 kd_209, p9_14 kd_209, p9_15 kd_209, p9_24 kd_209, p9_25 kd_209, Option.bind_some, Nat.reduceAdd, e, jS_f, m211_1, m212_1, m216_1, jS_1, w211_0, w212_0, w216_0, q1, q2]
theorem k_town_no (F : Nat) {S S1 : ST} {r : Int32} (hr : ¬ (0 : Int32) ≤ r) (a : fX6_readInto F (hp S) 1 3 = some (r, hp S1)) : fX9_town F (hp S) 0 = some (r, hp S1) := by
  unfold fX9_town
  rw [ob8 kd_0, Option.bind_some, g8_0 kd_0, Option.bind_some, g8_1 kd_0, Option.bind_some, a, Option.bind_some, if_neg (show ¬ (0 : Int32) ≤ (r, hp S1).1 from hr)]
theorem k_town_ok (F : Nat) {S S1 S2 S3 : ST} {r : Int32} (hr : (0 : Int32) ≤ r) (a : fX6_readInto F (hp S) 1 3 = some (r, hp S1)) (e2 : fX7_become_T F (hp S1) 9 3 = some (hp S2)) (e3 : fX3_begin F (hp S2) 15 9 = some (hp S3)) : fX9_town F (hp S) 0 = some (r, hp (stJ (stJ (stJ S3 0 5 0) 205 2 0) 1 2 0)) := by
  unfold fX9_town
  rw [ob8 kd_0, Option.bind_some, g8_0 kd_0, Option.bind_some, g8_1 kd_0, Option.bind_some, a, Option.bind_some, if_pos (show (0 : Int32) ≤ (r, hp S1).1 from hr)]
  rw [g8_2 kd_0, Option.bind_some, g8_1 kd_0, Option.bind_some, e2, Option.bind_some, g8_3 kd_0, Option.bind_some, g8_2 kd_0, Option.bind_some, e3, Option.bind_some]
  rw [p8_5 kd_0, Option.bind_some, g8_8 kd_0, Option.bind_some, p1_2 kd_205, Option.bind_some, g8_0 kd_0, Option.bind_some, p5_2 kd_1, Option.bind_some]
theorem bs2_0 : (0 : Int32) = bs 2 (fun _ => false) := by decide

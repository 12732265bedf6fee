/-! the reference's items, one by one -/
theorem ok_vv {T : Nat} {tx : Nat → Nat} {lo h b u : Nat} (hh : h ≤ 11) (hk : okN T tx lo h b u = true) : so T tx u = 2 ∧ vv T tx u = nv T tx u ∧ nx T tx u = u + dg T tx u ∧ nv T tx u < h := by
  have hk := of_decide_eq_true hk
  rcases num_tok (T := T) (tx := tx) u with ⟨a, b', c, e⟩ | ⟨a, b'⟩
  · exact ⟨a, b', e, hk.2.1⟩
  · omega
def pu (S : ST) (q j : Nat) (v : Int32) : ST := stI S q (upd (S.1 q) j v)
theorem pu_at (S : ST) (q j : Nat) (v : Int32) (a i : Nat) : (pu S q j v).1 a i = if a = q ∧ i = j then v else S.1 a i := by
  unfold pu
  by_cases ha : a = q
  · subst ha
    rw [stI_s, upd_at]
    by_cases hi : i = j
    · rw [if_pos hi, if_pos ⟨rfl, hi⟩]
    · rw [if_neg hi, if_neg (fun e => hi e.2)]
  · rw [stI_n _ _ ha, if_neg (fun e => ha e.1)]
theorem pu_s (S : ST) (q j : Nat) (v : Int32) : (pu S q j v).1 q j = v := by rw [pu_at, if_pos ⟨rfl, rfl⟩]
theorem pu_o (S : ST) {q j : Nat} (v : Int32) {a i : Nat} (h : ¬ (a = q ∧ i = j)) : (pu S q j v).1 a i = S.1 a i := by rw [pu_at, if_neg h]
theorem wpu {S : ST} {g : Nat → Int32} {q j : Nat} {x : Int32} (ht : (kd q).1 = 0) (hj : j < (kd q).2) : o_sI (hp (jS S g)) q 0 (nI j) x = some (hp (jS (pu S q j x) g)) := wa (S := jS S g) ht (by decide) hj
theorem w211 {S : ST} {g : Nat → Int32} {x : Int32} : o_sI (hp (jS S g)) 211 0 1 x = some (hp (jS (pu S 211 1 x) g)) := wpu (j := 1) rfl (by decide)
theorem w212 {S : ST} {g : Nat → Int32} {x : Int32} : o_sI (hp (jS S g)) 212 0 1 x = some (hp (jS (pu S 212 1 x) g)) := wpu (j := 1) rfl (by decide)
theorem w216 {S : ST} {g : Nat → Int32} {x : Int32} : o_sI (hp (jS S g)) 216 0 1 x = some (hp (jS (pu S 216 1 x) g)) := wpu (j := 1) rfl (by decide)
def lm (q : Nat) : Nat := if q = 211 ∨ q = 212 ∨ q = 216 then 1 else if q < 216 then 9 else 6
def ME0 (S S' : ST) : Prop := S'.2 = S.2 ∧ ∀ q j, (q < 211 ∨ 219 ≤ q ∨ j < lm q) → S'.1 q j = S.1 q j
theorem ME0.rf {S : ST} : ME0 S S := ⟨rfl, fun _ _ _ => rfl⟩
theorem ME0.tr {S S' S'' : ST} (h : ME0 S S') (h' : ME0 S' S'') : ME0 S S'' := ⟨h'.1.trans h.1, fun q j hq => (h'.2 q j hq).trans (h.2 q j hq)⟩
theorem ME0.st {S S' : ST} {q j : Nat} {v : Int32} (h : ME0 S S') (h1 : 211 ≤ q) (h2 : q < 219) (h3 : lm q ≤ j) : ME0 S (pu S' q j v) := ME0.tr h ⟨rfl, fun a i hq => pu_o _ _ (fun e => by obtain ⟨rfl, rfl⟩ := e; omega)⟩
theorem lm_211 : lm 211 = 1 := rfl
theorem lm_212 : lm 212 = 1 := rfl
theorem lm_213 : lm 213 = 9 := rfl
theorem lm_214 : lm 214 = 9 := rfl
theorem lm_215 : lm 215 = 9 := rfl
theorem lm_216 : lm 216 = 1 := rfl
theorem lm_217 : lm 217 = 6 := rfl
theorem lm_218 : lm 218 = 6 := rfl
theorem TX.me {S S' : ST} {f : Nat → Int32} {T : Nat} {tx : Nat → Nat} (h : TX S f T tx) (hm : ME0 S S') : TX S' f T tx := ⟨h.1, fun j hj => by rw [hm.2 210 j (by omega)]; exact h.2 j hj⟩
def DM (S : ST) (d : Mo) : Prop := S.1 211 1 = nI (d 0 0) ∧ S.1 212 1 = nI (d 1 0) ∧ S.1 216 1 = nI (d 2 0) ∧ (∀ s, s < d 1 0 → S.1 213 (9 + s) = nI (d 3 s) ∧ S.1 214 (9 + s) = nI (d 4 s) ∧ S.1 215 (9 + s) = nI (d 5 s)) ∧ ∀ p, p < d 2 0 → S.1 217 (6 + p) = nI (d 6 p) ∧ S.1 218 (6 + p) = nI (d 7 p)
def fo (f g : Nat → Int32) : Prop := ∀ k, k < 10 ∨ 15 < k → g k = f k
def MR (S : ST) (f : Nat → Int32) (T : Nat) (tx : Nat → Nat) (r : Option HL) (q : Nat ⊕ (Nat × Mo)) : Prop :=
  match q with
  | .inl v => ∃ S' g, r = some (hp (jS S' g)) ∧ ME0 S S' ∧ g 14 = 1 ∧ g 11 = nI v ∧ fo f g
  | .inr x => ∃ S', r = some (hp (jS S' (tk T tx f (sk T tx x.1)))) ∧ ME0 S S' ∧ DM S' x.2
theorem fo_tk {T : Nat} {tx : Nat → Nat} {f : Nat → Int32} {u : Nat} : fo f (tk T tx f u) := fun k hk => tk_o (by omega)
theorem fo_w {T : Nat} {tx : Nat → Nat} {f : Nat → Int32} {u : Nat} : fo f (upd (tk T tx f u) 14 1) := fun k hk => by rw [upd_n _ _ (by omega)]; exact tk_o (by omega)
theorem e121_115 : ((121 : Int32) = 115) = False := by decide
theorem e99_115 : ((99 : Int32) = 115) = False := by decide
theorem e99_121 : ((99 : Int32) = 121) = False := by decide
theorem m_Y (F : Nat) (hF : 4000 ≤ F) {S : ST} {f : Nat → Int32} {T : Nat} {tx : Nat → Nat} (hT : T ≤ 120) (hx : ∀ j, j < T → tx j < 256) (ht : TX S f T tx) {t : Nat} (h3 : t ≤ T) (h14 : f 14 = 0) {d : Mo} (hd : DM S d) : MR S f T tx (fX10_item F (hp (jS S (tk T tx f (sk T tx t)))) 209 121) (pY T tx t d) := by
  have hs := sk_le (tx := tx) h3
  have kn : fX10_number F (hp (jS S (tk T tx f (sk T tx t)))) 209 2 8 = _ := number_eq F hF hT hx ht hs h14 (lo := 2) (h := 9) (by omega) (by omega) (H := 8) (by decide)
  have e14 : ∀ w, tk T tx f w 14 = 0 := fun w => by rw [tk_o (by omega)]; exact h14
  unfold fX10_item fX10_item_b58 pY
  rw [if_neg (by decide), if_pos rfl]
  simp only [ob9 kd_209, g9_0 kd_209, g9_1 kd_209, g9_2 kd_209, g9_3 kd_209, g9_4 kd_209, g9_5 kd_209, g9_6 kd_209, g9_7 kd_209, g9_8 kd_209, g9_9 kd_209, g9_10 kd_209, g9_11 kd_209, g9_12 kd_209, g9_13 kd_209, g9_14 kd_209, g9_15 kd_209, g9_16 kd_209, g9_17 kd_209, g9_18 kd_209, g9_19 kd_209, g9_20 kd_209, g9_21 kd_209, g9_22 kd_209, g9_23 kd_209, g9_24 kd_209, g9_25 kd_209, p9_1 kd_209, p9_10 kd_209, p9_11 kd_209, p9_12 kd_209, p9_13 kd_209, p9_14 kd_209, p9_15 kd_209, p9_24 kd_209, p9_25 kd_209, Option.bind_some, Nat.reduceAdd, kn]
  cases hok : okN T tx 2 9 1000 (sk T tx t) with
  | true =>
    obtain ⟨o1, o2, o3, o4⟩ := ok_vv (by omega) hok
    simp only [if_true, Option.bind_some, Nat.reduceAdd, ob9 kd_209, g9_0 kd_209, g9_1 kd_209, g9_2 kd_209, g9_3 kd_209, g9_4 kd_209, g9_5 kd_209, g9_6 kd_209, g9_7 kd_209, g9_8 kd_209, g9_9 kd_209, g9_10 kd_209, g9_11 kd_209, g9_12 kd_209, g9_13 kd_209, g9_14 kd_209, g9_15 kd_209, g9_16 kd_209, g9_17 kd_209, g9_18 kd_209, g9_19 kd_209, g9_20 kd_209, g9_21 kd_209, g9_22 kd_209, g9_23 kd_209, g9_24 kd_209, g9_25 kd_209, p9_1 kd_209, p9_10 kd_209, p9_11 kd_209, p9_12 kd_209, p9_13 kd_209, p9_14 kd_209, p9_15 kd_209, p9_24 kd_209, p9_25 kd_209, jS_f, e14, w211]
    refine ⟨_, rfl, ME0.rf.st (by omega) (by omega) (by rw [lm_211]; omega), ?_⟩
    show DM _ (muS d 0 0 (nv T tx (sk T tx t)))
    have en : ∀ f s, f ≠ 0 → muS d 0 0 (nv T tx (sk T tx t)) f s = d f s := fun f s hf => muS_n _ (fun e => hf e.1)
    obtain ⟨d1, d2, d3, d4, d5⟩ := hd
    refine ⟨?_, ?_, ?_, fun s hs => ?_, fun p hp' => ?_⟩
    · rw [pu_s, muS_s, o2]
    · rw [pu_o _ _ (by omega), en 1 0 (by omega)]; exact d2
    · rw [pu_o _ _ (by omega), en 2 0 (by omega)]; exact d3
    · rw [en 1 0 (by omega)] at hs
      rw [pu_o _ _ (by omega), pu_o _ _ (by omega), pu_o _ _ (by omega), en 3 s (by omega), en 4 s (by omega), en 5 s (by omega)]
      exact d4 s hs
    · rw [en 2 0 (by omega)] at hp'
      rw [pu_o _ _ (by omega), pu_o _ _ (by omega), en 6 p (by omega), en 7 p (by omega)]
      exact d5 p hp'
  | false =>
    have g14 : upd (tk T tx f (sk T tx t)) 14 1 14 = 1 := upd_s _ _ _
    have g11 : upd (tk T tx f (sk T tx t)) 14 1 11 = nI (sk T tx t) := by rw [upd_n _ _ (by decide)]; rfl
    have gf : fo f (upd (tk T tx f (sk T tx t)) 14 1) := fo_w
    simp only [Bool.false_eq_true, if_false, Option.bind_some, Nat.reduceAdd, ob9 kd_209, g9_0 kd_209, g9_1 kd_209, g9_2 kd_209, g9_3 kd_209, g9_4 kd_209, g9_5 kd_209, g9_6 kd_209, g9_7 kd_209, g9_8 kd_209, g9_9 kd_209, g9_10 kd_209, g9_11 kd_209, g9_12 kd_209, g9_13 kd_209, g9_14 kd_209, g9_15 kd_209, g9_16 kd_209, g9_17 kd_209, g9_18 kd_209, g9_19 kd_209, g9_20 kd_209, g9_21 kd_209, g9_22 kd_209, g9_23 kd_209, g9_24 kd_209, g9_25 kd_209, p9_1 kd_209, p9_10 kd_209, p9_11 kd_209, p9_12 kd_209, p9_13 kd_209, p9_14 kd_209, p9_15 kd_209, p9_24 kd_209, p9_25 kd_209, jS_f, g14, e10, m211_1, jS_1, w211]
    exact ⟨_, _, rfl, ME0.rf.st (by omega) (by omega) (by rw [lm_211]; omega), g14, g11, gf⟩
theorem tail_w (F : Nat) {S : ST} {g : Nat → Int32} (h14 : g 14 = 1) {n : Nat} (hn : n < 9) (hs : S.1 212 1 = nI n) (y : Int32) : fX10_item_b141 F 209 (nI (9 + n)) y 209 (hp (jS S g)) = some (hp (jS (pu (pu S 215 (9 + n) (g 13)) 212 1 (nI (n + 1))) g)) := by
  have e : (pu S 215 (9 + n) (g 13)).1 212 1 = nI n := by rw [pu_o _ _ (by omega)]; exact hs
  unfold fX10_item_b141
  simp only [due_w F h14, number_w F h14, Option.bind_some, Nat.reduceAdd, ob9 kd_209, g9_0 kd_209, g9_1 kd_209, g9_2 kd_209, g9_3 kd_209, g9_4 kd_209, g9_5 kd_209, g9_6 kd_209, g9_7 kd_209, g9_8 kd_209, g9_9 kd_209, g9_10 kd_209, g9_11 kd_209, g9_12 kd_209, g9_13 kd_209, g9_14 kd_209, g9_15 kd_209, g9_16 kd_209, g9_17 kd_209, g9_18 kd_209, g9_19 kd_209, g9_20 kd_209, g9_21 kd_209, g9_22 kd_209, g9_23 kd_209, g9_24 kd_209, g9_25 kd_209, p9_1 kd_209, p9_10 kd_209, p9_11 kd_209, p9_12 kd_209, p9_13 kd_209, p9_14 kd_209, p9_15 kd_209, p9_24 kd_209, p9_25 kd_209]
  rw [wpu (by rfl) (by rw [kd_215]; show 9 + n < 18; omega)]
  simp only [Option.bind_some, Nat.reduceAdd, ob9 kd_209, g9_0 kd_209, g9_1 kd_209, g9_2 kd_209, g9_3 kd_209, g9_4 kd_209, g9_5 kd_209, g9_6 kd_209, g9_7 kd_209, g9_8 kd_209, g9_9 kd_209, g9_10 kd_209, g9_11 kd_209, g9_12 kd_209, g9_13 kd_209, g9_14 kd_209, g9_15 kd_209, g9_16 kd_209, g9_17 kd_209, g9_18 kd_209, g9_19 kd_209, g9_20 kd_209, g9_21 kd_209, g9_22 kd_209, g9_23 kd_209, g9_24 kd_209, g9_25 kd_209, p9_1 kd_209, p9_10 kd_209, p9_11 kd_209, p9_12 kd_209, p9_13 kd_209, p9_14 kd_209, p9_15 kd_209, p9_24 kd_209, p9_25 kd_209, m212_1, jS_1, e, w212, nI_1]
theorem tail_0 (F : Nat) {S : ST} {g : Nat → Int32} (h14 : g 14 = 0) {n : Nat} (hn : n < 9) (hs : S.1 212 1 = nI n) : fX10_item_b141 F 209 (nI (9 + n)) 0 209 (hp (jS S g)) = some (hp (jS (pu (pu S 215 (9 + n) (g 13)) 212 1 (nI (n + 1))) (upd g 14 1))) := by
  have g14 : upd g 14 1 14 = 1 := upd_s _ _ _
  have g13 : upd g 14 1 13 = g 13 := upd_n _ _ (by decide)
  have e : (pu S 215 (9 + n) (g 13)).1 212 1 = nI n := by rw [pu_o _ _ (by omega)]; exact hs
  unfold fX10_item_b141
  simp only [due_no F h14, number_w F g14, g13, Option.bind_some, Nat.reduceAdd, ob9 kd_209, g9_0 kd_209, g9_1 kd_209, g9_2 kd_209, g9_3 kd_209, g9_4 kd_209, g9_5 kd_209, g9_6 kd_209, g9_7 kd_209, g9_8 kd_209, g9_9 kd_209, g9_10 kd_209, g9_11 kd_209, g9_12 kd_209, g9_13 kd_209, g9_14 kd_209, g9_15 kd_209, g9_16 kd_209, g9_17 kd_209, g9_18 kd_209, g9_19 kd_209, g9_20 kd_209, g9_21 kd_209, g9_22 kd_209, g9_23 kd_209, g9_24 kd_209, g9_25 kd_209, p9_1 kd_209, p9_10 kd_209, p9_11 kd_209, p9_12 kd_209, p9_13 kd_209, p9_14 kd_209, p9_15 kd_209, p9_24 kd_209, p9_25 kd_209]
  rw [wpu (by rfl) (by rw [kd_215]; show 9 + n < 18; omega)]
  simp only [Option.bind_some, Nat.reduceAdd, ob9 kd_209, g9_0 kd_209, g9_1 kd_209, g9_2 kd_209, g9_3 kd_209, g9_4 kd_209, g9_5 kd_209, g9_6 kd_209, g9_7 kd_209, g9_8 kd_209, g9_9 kd_209, g9_10 kd_209, g9_11 kd_209, g9_12 kd_209, g9_13 kd_209, g9_14 kd_209, g9_15 kd_209, g9_16 kd_209, g9_17 kd_209, g9_18 kd_209, g9_19 kd_209, g9_20 kd_209, g9_21 kd_209, g9_22 kd_209, g9_23 kd_209, g9_24 kd_209, g9_25 kd_209, p9_1 kd_209, p9_10 kd_209, p9_11 kd_209, p9_12 kd_209, p9_13 kd_209, p9_14 kd_209, p9_15 kd_209, p9_24 kd_209, p9_25 kd_209, m212_1, jS_1, e, w212, nI_1]
theorem tail_1 (F : Nat) (hF : 4000 ≤ F) {S : ST} {f : Nat → Int32} {T : Nat} {tx : Nat → Nat} (hT : T ≤ 120) (hx : ∀ j, j < T → tx j < 256) (ht : TX S f T tx) {u w : Nat} (hu : u ≤ T) (h14 : f 14 = 0) (hw : sk T tx (nx T tx u) = w) {n : Nat} (hn : n < 9) (hs : S.1 212 1 = nI n) : fX10_item_b141 F 209 (nI (9 + n)) 1 209 (hp (jS S (tk T tx f u))) = if okN T tx 0 10 1000 w then some (hp (jS (pu (pu S 215 (9 + n) (nI (vv T tx w))) 212 1 (nI (n + 1))) (tk T tx f (sk T tx (w + dg T tx w))))) else some (hp (jS (pu (pu S 215 (9 + n) (nI (vv T tx w))) 212 1 (nI (n + 1))) (upd (tk T tx f w) 14 1))) := by
  have hwT : w ≤ T := by rw [← hw]; exact sk_le (nx_le hu)
  have kn : fX10_number F (hp (jS S (tk T tx f w))) 209 0 9 = _ := number_eq F hF hT hx ht hwT h14 (lo := 0) (h := 10) (by omega) (by omega) (H := 9) (by decide)
  have e : (pu S 215 (9 + n) (nI (vv T tx w))).1 212 1 = nI n := by rw [pu_o _ _ (by omega)]; exact hs
  unfold fX10_item_b141
  simp only [due_ok F hF hT hx ht hu h14, hw, kn, Option.bind_some, Nat.reduceAdd, ob9 kd_209, g9_0 kd_209, g9_1 kd_209, g9_2 kd_209, g9_3 kd_209, g9_4 kd_209, g9_5 kd_209, g9_6 kd_209, g9_7 kd_209, g9_8 kd_209, g9_9 kd_209, g9_10 kd_209, g9_11 kd_209, g9_12 kd_209, g9_13 kd_209, g9_14 kd_209, g9_15 kd_209, g9_16 kd_209, g9_17 kd_209, g9_18 kd_209, g9_19 kd_209, g9_20 kd_209, g9_21 kd_209, g9_22 kd_209, g9_23 kd_209, g9_24 kd_209, g9_25 kd_209, p9_1 kd_209, p9_10 kd_209, p9_11 kd_209, p9_12 kd_209, p9_13 kd_209, p9_14 kd_209, p9_15 kd_209, p9_24 kd_209, p9_25 kd_209]
  cases okN T tx 0 10 1000 w with
  | true =>
    simp only [if_true, Option.bind_some, Nat.reduceAdd]
    rw [wpu (by rfl) (by rw [kd_215]; show 9 + n < 18; omega)]
    simp only [Option.bind_some, Nat.reduceAdd, ob9 kd_209, g9_0 kd_209, g9_1 kd_209, g9_2 kd_209, g9_3 kd_209, g9_4 kd_209, g9_5 kd_209, g9_6 kd_209, g9_7 kd_209, g9_8 kd_209, g9_9 kd_209, g9_10 kd_209, g9_11 kd_209, g9_12 kd_209, g9_13 kd_209, g9_14 kd_209, g9_15 kd_209, g9_16 kd_209, g9_17 kd_209, g9_18 kd_209, g9_19 kd_209, g9_20 kd_209, g9_21 kd_209, g9_22 kd_209, g9_23 kd_209, g9_24 kd_209, g9_25 kd_209, p9_1 kd_209, p9_10 kd_209, p9_11 kd_209, p9_12 kd_209, p9_13 kd_209, p9_14 kd_209, p9_15 kd_209, p9_24 kd_209, p9_25 kd_209, m212_1, jS_1, e, w212, nI_1]
  | false =>
    simp only [Bool.false_eq_true, if_false, Option.bind_some, Nat.reduceAdd]
    rw [wpu (by rfl) (by rw [kd_215]; show 9 + n < 18; omega)]
    simp only [Option.bind_some, Nat.reduceAdd, ob9 kd_209, g9_0 kd_209, g9_1 kd_209, g9_2 kd_209, g9_3 kd_209, g9_4 kd_209, g9_5 kd_209, g9_6 kd_209, g9_7 kd_209, g9_8 kd_209, g9_9 kd_209, g9_10 kd_209, g9_11 kd_209, g9_12 kd_209, g9_13 kd_209, g9_14 kd_209, g9_15 kd_209, g9_16 kd_209, g9_17 kd_209, g9_18 kd_209, g9_19 kd_209, g9_20 kd_209, g9_21 kd_209, g9_22 kd_209, g9_23 kd_209, g9_24 kd_209, g9_25 kd_209, p9_1 kd_209, p9_10 kd_209, p9_11 kd_209, p9_12 kd_209, p9_13 kd_209, p9_14 kd_209, p9_15 kd_209, p9_24 kd_209, p9_25 kd_209, m212_1, jS_1, e, w212, nI_1]
theorem m_S (F : Nat) (hF : 4000 ≤ F) {S : ST} {f : Nat → Int32} {T : Nat} {tx : Nat → Nat} (hT : T ≤ 120) (hx : ∀ j, j < T → tx j < 256) (ht : TX S f T tx) {t : Nat} (h3 : t ≤ T) (h14 : f 14 = 0) {d : Mo} (hd : DM S d) (hw : DW d) (hn9 : d 1 0 < 9) : MR S f T tx (fX10_item F (hp (jS S (tk T tx f (sk T tx t)))) 209 115) (pS T tx t d) := by
  have hs := sk_le (tx := tx) h3
  have hY := hw.1
  obtain ⟨d1, d2, d3, d4, d5⟩ := hd
  have kn : fX10_number F (hp (jS S (tk T tx f (sk T tx t)))) 209 0 (nI (d 0 0) - 1) = _ := number_eq F hF hT hx ht hs h14 (lo := 0) (h := d 0 0) (by omega) (by omega) (H := nI (d 0 0) - 1) rfl
  have e14 : ∀ w, tk T tx f w 14 = 0 := fun w => by rw [tk_o (by omega)]; exact h14
  unfold fX10_item pS
  simp only [eq_self, if_true, ob9 kd_209, g9_0 kd_209, g9_1 kd_209, g9_2 kd_209, g9_3 kd_209, g9_4 kd_209, g9_5 kd_209, g9_6 kd_209, g9_7 kd_209, g9_8 kd_209, g9_9 kd_209, g9_10 kd_209, g9_11 kd_209, g9_12 kd_209, g9_13 kd_209, g9_14 kd_209, g9_15 kd_209, g9_16 kd_209, g9_17 kd_209, g9_18 kd_209, g9_19 kd_209, g9_20 kd_209, g9_21 kd_209, g9_22 kd_209, g9_23 kd_209, g9_24 kd_209, g9_25 kd_209, p9_1 kd_209, p9_10 kd_209, p9_11 kd_209, p9_12 kd_209, p9_13 kd_209, p9_14 kd_209, p9_15 kd_209, p9_24 kd_209, p9_25 kd_209, Option.bind_some, Nat.reduceAdd, m212_1, m211_1, jS_1, d1, d2, la9, kn]
  generalize sk T tx t = u at *
  have me : ∀ a b o, ME0 S (pu (pu (pu (pu S 213 (9 + d 1 0) a) 214 (9 + d 1 0) b) 215 (9 + d 1 0) o) 212 1 (nI (d 1 0 + 1))) := fun a b o => (((ME0.rf.st (by omega) (by omega) (by rw [lm_213]; omega)).st (by omega) (by omega) (by rw [lm_214]; omega)).st (by omega) (by omega) (by rw [lm_215]; omega)).st (by omega) (by omega) (by rw [lm_212]; omega)
  have me2 : ∀ a b, ME0 S (pu (pu S 213 (9 + d 1 0) a) 214 (9 + d 1 0) b) := fun a b => (ME0.rf.st (by omega) (by omega) (by rw [lm_213]; omega)).st (by omega) (by omega) (by rw [lm_214]; omega)
  have q213 : ∀ a b, (pu (pu S 213 (9 + d 1 0) a) 214 (9 + d 1 0) b).1 213 (9 + d 1 0) = a := fun a b => by rw [pu_o _ _ (by omega), pu_s]
  have q211 : ∀ a b, (pu (pu S 213 (9 + d 1 0) a) 214 (9 + d 1 0) b).1 211 1 = nI (d 0 0) := fun a b => by rw [pu_o _ _ (by omega), pu_o _ _ (by omega)]; exact d1
  have q212 : ∀ a b, (pu (pu S 213 (9 + d 1 0) a) 214 (9 + d 1 0) b).1 212 1 = nI (d 1 0) := fun a b => by rw [pu_o _ _ (by omega), pu_o _ _ (by omega)]; exact d2
  cases hok : okN T tx 0 (d 0 0) 1000 u with
  | false =>
    have g14 : upd (tk T tx f u) 14 1 14 = 1 := upd_s _ _ _
    have g11 : upd (tk T tx f u) 14 1 11 = nI u := by rw [upd_n _ _ (by decide)]; rfl
    have gf : fo f (upd (tk T tx f u) 14 1) := fo_w
    generalize upd (tk T tx f u) 14 1 = g at *
    simp only [Bool.false_eq_true, if_false, Option.bind_some, Nat.reduceAdd]
    rw [wpu (by rfl) (by rw [kd_213]; show 9 + d 1 0 < 18; omega)]
    simp only [Option.bind_some, Nat.reduceAdd, ob9 kd_209, g9_0 kd_209, g9_1 kd_209, g9_2 kd_209, g9_3 kd_209, g9_4 kd_209, g9_5 kd_209, g9_6 kd_209, g9_7 kd_209, g9_8 kd_209, g9_9 kd_209, g9_10 kd_209, g9_11 kd_209, g9_12 kd_209, g9_13 kd_209, g9_14 kd_209, g9_15 kd_209, g9_16 kd_209, g9_17 kd_209, g9_18 kd_209, g9_19 kd_209, g9_20 kd_209, g9_21 kd_209, g9_22 kd_209, g9_23 kd_209, g9_24 kd_209, g9_25 kd_209, p9_1 kd_209, p9_10 kd_209, p9_11 kd_209, p9_12 kd_209, p9_13 kd_209, p9_14 kd_209, p9_15 kd_209, p9_24 kd_209, p9_25 kd_209, jS_f]
    rw [wpu (by rfl) (by rw [kd_214]; show 9 + d 1 0 < 18; omega)]
    unfold fX10_item_b140
    simp only [Option.bind_some, Nat.reduceAdd, ob9 kd_209, g9_0 kd_209, g9_1 kd_209, g9_2 kd_209, g9_3 kd_209, g9_4 kd_209, g9_5 kd_209, g9_6 kd_209, g9_7 kd_209, g9_8 kd_209, g9_9 kd_209, g9_10 kd_209, g9_11 kd_209, g9_12 kd_209, g9_13 kd_209, g9_14 kd_209, g9_15 kd_209, g9_16 kd_209, g9_17 kd_209, g9_18 kd_209, g9_19 kd_209, g9_20 kd_209, g9_21 kd_209, g9_22 kd_209, g9_23 kd_209, g9_24 kd_209, g9_25 kd_209, p9_1 kd_209, p9_10 kd_209, p9_11 kd_209, p9_12 kd_209, p9_13 kd_209, p9_14 kd_209, p9_15 kd_209, p9_24 kd_209, p9_25 kd_209, jS_f, m211_1, jS_1, ra (q := 213) (t := 0) (j := 9 + d 1 0) rfl (by decide) (by rw [kd_213]; show 9 + d 1 0 < 18; omega), tail_w F g14 hn9 (q212 _ _), ite_self]
    exact ⟨_, _, rfl, me _ _ _, g14, g11, gf⟩
  | true =>
    obtain ⟨o1, o2, o3, o4⟩ := ok_vv (by omega) hok
    have hu1 : sk T tx (u + dg T tx u) ≤ T := sk_le (dg_le hs)
    simp only [if_true, Option.bind_some, Nat.reduceAdd, o2]
    unfold pS2
    generalize sk T tx (u + dg T tx u) = u1 at *
    generalize nv T tx u = A at *
    rw [wpu (by rfl) (by rw [kd_213]; show 9 + d 1 0 < 18; omega)]
    simp only [Option.bind_some, Nat.reduceAdd, ob9 kd_209, g9_0 kd_209, g9_1 kd_209, g9_2 kd_209, g9_3 kd_209, g9_4 kd_209, g9_5 kd_209, g9_6 kd_209, g9_7 kd_209, g9_8 kd_209, g9_9 kd_209, g9_10 kd_209, g9_11 kd_209, g9_12 kd_209, g9_13 kd_209, g9_14 kd_209, g9_15 kd_209, g9_16 kd_209, g9_17 kd_209, g9_18 kd_209, g9_19 kd_209, g9_20 kd_209, g9_21 kd_209, g9_22 kd_209, g9_23 kd_209, g9_24 kd_209, g9_25 kd_209, p9_1 kd_209, p9_10 kd_209, p9_11 kd_209, p9_12 kd_209, p9_13 kd_209, p9_14 kd_209, p9_15 kd_209, p9_24 kd_209, p9_25 kd_209, jS_f]
    rw [wpu (by rfl) (by rw [kd_214]; show 9 + d 1 0 < 18; omega)]
    have e12 : tk T tx f u1 12 = nI (so T tx u1) := rfl
    have e13 : tk T tx f u1 13 = nI (vv T tx u1) := rfl
    have hv := vv_le hx u1
    have h5 := (so_4 (T := T) (tx := tx) u1).2
    unfold fX10_item_b140
    simp only [Option.bind_some, Nat.reduceAdd, ob9 kd_209, g9_0 kd_209, g9_1 kd_209, g9_2 kd_209, g9_3 kd_209, g9_4 kd_209, g9_5 kd_209, g9_6 kd_209, g9_7 kd_209, g9_8 kd_209, g9_9 kd_209, g9_10 kd_209, g9_11 kd_209, g9_12 kd_209, g9_13 kd_209, g9_14 kd_209, g9_15 kd_209, g9_16 kd_209, g9_17 kd_209, g9_18 kd_209, g9_19 kd_209, g9_20 kd_209, g9_21 kd_209, g9_22 kd_209, g9_23 kd_209, g9_24 kd_209, g9_25 kd_209, p9_1 kd_209, p9_10 kd_209, p9_11 kd_209, p9_12 kd_209, p9_13 kd_209, p9_14 kd_209, p9_15 kd_209, p9_24 kd_209, p9_25 kd_209, jS_f, m211_1, jS_1, ra (q := 213) (t := 0) (j := 9 + d 1 0) rfl (by decide) (by rw [kd_213]; show 9 + d 1 0 < 18; omega), q213, q211, e12, e13]
    have t0 := tail_0 F (S := pu (pu S 213 (9 + d 1 0) (nI A)) 214 (9 + d 1 0) (nI (vv T tx u1))) (e14 u1) hn9 (q212 _ _)
    rw [e13] at t0
    have g14 : upd (tk T tx f u1) 14 1 14 = 1 := upd_s _ _ _
    have g11 : upd (tk T tx f u1) 14 1 11 = nI u1 := by rw [upd_n _ _ (by decide)]; rfl
    have gf : fo f (upd (tk T tx f u1) 14 1) := fo_w
    cases hok2 : okN T tx 0 (d 0 0) A u1 with
    | false =>
      have fin : MR S f T tx (fX10_item_b141 F 209 (nI (9 + d 1 0)) 0 209 (hp (jS (pu (pu S 213 (9 + d 1 0) (nI A)) 214 (9 + d 1 0) (nI (vv T tx u1))) (tk T tx f u1)))) (.inl u1) := by
        rw [t0]
        exact ⟨_, _, rfl, me _ _ _, g14, g11, gf⟩
      simp only [Bool.false_eq_true, if_false]
      by_cases c1 : nI (so T tx u1) = 2
      · rw [if_pos c1]
        by_cases c2 : nI (d 0 0) ≤ nI (vv T tx u1)
        · rw [if_pos c2]; exact fin
        · rw [if_neg c2]
          by_cases c3 : nI (vv T tx u1) = nI A
          · rw [if_pos c3]; exact fin
          · exfalso
            have n1 : so T tx u1 = 2 := (nI_eq (b := 2) (by omega) (by decide)).mp c1
            rcases num_tok (T := T) (tx := tx) u1 with ⟨a, b', c, e⟩ | ⟨a, b'⟩
            · have n2 : ¬ (d 0 0 ≤ vv T tx u1) := fun q => c2 (nI_le q (by omega))
              have n3 : ¬ (vv T tx u1 = A) := fun q => c3 (by rw [q])
              have : okN T tx 0 (d 0 0) A u1 = true := decide_eq_true ⟨by omega, by omega, by omega⟩
              rw [this] at hok2
              cases hok2
            · exact a n1
      · rw [if_neg c1]; exact fin
    | true =>
      obtain ⟨p1, p2, p3, p4⟩ := ok_vv (by omega) hok2
      have hok2' := of_decide_eq_true hok2
      have t1 := tail_1 F hF hT hx (ht.me (me2 (nI A) (nI (vv T tx u1)))) hu1 h14 (w := sk T tx (u1 + dg T tx u1)) (by rw [p3]) hn9 (q212 _ _)
      rw [if_pos (show nI (so T tx u1) = 2 by rw [p1]; rfl), if_neg (show ¬ nI (d 0 0) ≤ nI (vv T tx u1) from nI_ge (by omega) (by omega)), if_neg (show ¬ nI (vv T tx u1) = nI A from fun q => by have := (nI_eq (by omega) (by omega)).mp q; omega), t1]
      simp only [if_true]
      unfold pS3
      have hu2 : sk T tx (u1 + dg T tx u1) ≤ T := sk_le (dg_le hu1)
      rw [p2]
      generalize sk T tx (u1 + dg T tx u1) = u2 at *
      cases hok3 : okN T tx 0 10 1000 u2 with
      | false =>
        simp only [Bool.false_eq_true, if_false]
        exact ⟨_, _, rfl, me _ _ _, upd_s _ _ _, by rw [upd_n _ _ (by decide)]; rfl, fo_w⟩
      | true =>
        obtain ⟨r1, r2, r3, r4⟩ := ok_vv (by omega) hok3
        simp only [if_true, r2]
        refine ⟨_, rfl, me _ _ _, ?_⟩
        generalize nv T tx u1 = B at *
        generalize nv T tx u2 = O at *
        show DM _ (addS d A B O)
        refine ⟨?_, ?_, ?_, fun s hs' => ?_, fun p hp' => ?_⟩
        · rw [pu_o _ _ (by omega), pu_o _ _ (by omega), pu_o _ _ (by omega), pu_o _ _ (by omega)]; exact d1
        · exact pu_s _ _ _ _
        · rw [pu_o _ _ (by omega), pu_o _ _ (by omega), pu_o _ _ (by omega), pu_o _ _ (by omega)]; exact d3
        · have hs2 : s < d 1 0 + 1 := hs'
          have e3 : addS d A B O 3 s = if s = d 1 0 then A else d 3 s := by rw [addS_at]; simp
          have e4 : addS d A B O 4 s = if s = d 1 0 then B else d 4 s := by rw [addS_at]; simp
          have e5 : addS d A B O 5 s = if s = d 1 0 then O else d 5 s := by rw [addS_at]; simp
          rw [e3, e4, e5]
          by_cases c : s = d 1 0
          · subst c
            rw [if_pos rfl, if_pos rfl, if_pos rfl]
            refine ⟨?_, ?_, ?_⟩
            · rw [pu_o _ _ (by omega), pu_o _ _ (by omega), pu_o _ _ (by omega), pu_s]
            · rw [pu_o _ _ (by omega), pu_o _ _ (by omega), pu_s]
            · rw [pu_o _ _ (by omega), pu_s]
          · rw [if_neg c, if_neg c, if_neg c]
            obtain ⟨x1, x2, x3⟩ := d4 s (by omega)
            refine ⟨?_, ?_, ?_⟩
            · rw [pu_o _ _ (by omega), pu_o _ _ (by omega), pu_o _ _ (by omega), pu_o _ _ (by omega)]; exact x1
            · rw [pu_o _ _ (by omega), pu_o _ _ (by omega), pu_o _ _ (by omega), pu_o _ _ (by omega)]; exact x2
            · rw [pu_o _ _ (by omega), pu_o _ _ (by omega), pu_o _ _ (by omega), pu_o _ _ (by omega)]; exact x3
        · obtain ⟨x1, x2⟩ := d5 p hp'
          refine ⟨?_, ?_⟩
          · rw [pu_o _ _ (by omega), pu_o _ _ (by omega), pu_o _ _ (by omega), pu_o _ _ (by omega)]; exact x1
          · rw [pu_o _ _ (by omega), pu_o _ _ (by omega), pu_o _ _ (by omega), pu_o _ _ (by omega)]; exact x2
theorem m_C (F : Nat) (hF : 4000 ≤ F) {S : ST} {f : Nat → Int32} {T : Nat} {tx : Nat → Nat} (hT : T ≤ 120) (hx : ∀ j, j < T → tx j < 256) (ht : TX S f T tx) {t : Nat} (h3 : t ≤ T) (h14 : f 14 = 0) {d : Mo} (hd : DM S d) (hw : DW d) (hn6 : d 2 0 < 6) : MR S f T tx (fX10_item F (hp (jS S (tk T tx f (sk T tx t)))) 209 99) (pC T tx t d) := by
  have hs := sk_le (tx := tx) h3
  have hN := hw.2.1
  obtain ⟨d1, d2, d3, d4, d5⟩ := hd
  have kn : fX10_number F (hp (jS S (tk T tx f (sk T tx t)))) 209 0 (nI (d 1 0) - 1) = _ := number_eq F hF hT hx ht hs h14 (lo := 0) (h := d 1 0) (by omega) (by omega) (H := nI (d 1 0) - 1) rfl
  unfold fX10_item pC
  rw [if_neg (by decide), if_neg (by decide)]
  simp only [ob9 kd_209, g9_0 kd_209, g9_1 kd_209, g9_2 kd_209, g9_3 kd_209, g9_4 kd_209, g9_5 kd_209, g9_6 kd_209, g9_7 kd_209, g9_8 kd_209, g9_9 kd_209, g9_10 kd_209, g9_11 kd_209, g9_12 kd_209, g9_13 kd_209, g9_14 kd_209, g9_15 kd_209, g9_16 kd_209, g9_17 kd_209, g9_18 kd_209, g9_19 kd_209, g9_20 kd_209, g9_21 kd_209, g9_22 kd_209, g9_23 kd_209, g9_24 kd_209, g9_25 kd_209, p9_1 kd_209, p9_10 kd_209, p9_11 kd_209, p9_12 kd_209, p9_13 kd_209, p9_14 kd_209, p9_15 kd_209, p9_24 kd_209, p9_25 kd_209, Option.bind_some, Nat.reduceAdd, m212_1, m216_1, jS_1, d2, d3, la6, kn]
  generalize sk T tx t = u at *
  have me : ∀ a b, ME0 S (pu (pu (pu S 217 (6 + d 2 0) a) 218 (6 + d 2 0) b) 216 1 (nI (d 2 0 + 1))) := fun a b => ((ME0.rf.st (by omega) (by omega) (by rw [lm_217]; omega)).st (by omega) (by omega) (by rw [lm_218]; omega)).st (by omega) (by omega) (by rw [lm_216]; omega)
  have me1 : ∀ a, ME0 S (pu S 217 (6 + d 2 0) a) := fun a => ME0.rf.st (by omega) (by omega) (by rw [lm_217]; omega)
  have q1 : ∀ a, (pu S 217 (6 + d 2 0) a).1 216 1 = nI (d 2 0) := fun a => by rw [pu_o _ _ (by omega)]; exact d3
  have q2 : ∀ a b, (pu (pu S 217 (6 + d 2 0) a) 218 (6 + d 2 0) b).1 216 1 = nI (d 2 0) := fun a b => by rw [pu_o _ _ (by omega), pu_o _ _ (by omega)]; exact d3
  cases hok : okN T tx 0 (d 1 0) 1000 u with
  | false =>
    have g14 : upd (tk T tx f u) 14 1 14 = 1 := upd_s _ _ _
    have g11 : upd (tk T tx f u) 14 1 11 = nI u := by rw [upd_n _ _ (by decide)]; rfl
    have gf : fo f (upd (tk T tx f u) 14 1) := fo_w
    generalize upd (tk T tx f u) 14 1 = g at *
    simp only [Bool.false_eq_true, if_false, Option.bind_some, Nat.reduceAdd]
    rw [wpu (by rfl) (by rw [kd_217]; show 6 + d 2 0 < 12; omega)]
    simp only [Option.bind_some, Nat.reduceAdd, ob9 kd_209, g9_0 kd_209, g9_1 kd_209, g9_2 kd_209, g9_3 kd_209, g9_4 kd_209, g9_5 kd_209, g9_6 kd_209, g9_7 kd_209, g9_8 kd_209, g9_9 kd_209, g9_10 kd_209, g9_11 kd_209, g9_12 kd_209, g9_13 kd_209, g9_14 kd_209, g9_15 kd_209, g9_16 kd_209, g9_17 kd_209, g9_18 kd_209, g9_19 kd_209, g9_20 kd_209, g9_21 kd_209, g9_22 kd_209, g9_23 kd_209, g9_24 kd_209, g9_25 kd_209, p9_1 kd_209, p9_10 kd_209, p9_11 kd_209, p9_12 kd_209, p9_13 kd_209, p9_14 kd_209, p9_15 kd_209, p9_24 kd_209, p9_25 kd_209, m216_1, jS_1, q1, la6, number_w F g14]
    rw [wpu (by rfl) (by rw [kd_218]; show 6 + d 2 0 < 12; omega)]
    simp only [Option.bind_some, Nat.reduceAdd, ob9 kd_209, g9_0 kd_209, g9_1 kd_209, g9_2 kd_209, g9_3 kd_209, g9_4 kd_209, g9_5 kd_209, g9_6 kd_209, g9_7 kd_209, g9_8 kd_209, g9_9 kd_209, g9_10 kd_209, g9_11 kd_209, g9_12 kd_209, g9_13 kd_209, g9_14 kd_209, g9_15 kd_209, g9_16 kd_209, g9_17 kd_209, g9_18 kd_209, g9_19 kd_209, g9_20 kd_209, g9_21 kd_209, g9_22 kd_209, g9_23 kd_209, g9_24 kd_209, g9_25 kd_209, p9_1 kd_209, p9_10 kd_209, p9_11 kd_209, p9_12 kd_209, p9_13 kd_209, p9_14 kd_209, p9_15 kd_209, p9_24 kd_209, p9_25 kd_209, m216_1, jS_1, q2, w216, nI_1]
    exact ⟨_, _, rfl, me _ _, g14, g11, gf⟩
  | true =>
    obtain ⟨o1, o2, o3, o4⟩ := ok_vv (by omega) hok
    have hu1 : sk T tx (u + dg T tx u) ≤ T := sk_le (dg_le hs)
    simp only [if_true, Option.bind_some, Nat.reduceAdd, o2]
    unfold pC2
    generalize sk T tx (u + dg T tx u) = u1 at *
    generalize nv T tx u = A at *
    have kn2 : fX10_number F (hp (jS (pu S 217 (6 + d 2 0) (nI A)) (tk T tx f u1))) 209 1 10 = _ := number_eq F hF hT hx (ht.me (me1 (nI A))) hu1 h14 (lo := 1) (h := 11) (by omega) (by omega) (H := 10) (by decide)
    rw [wpu (by rfl) (by rw [kd_217]; show 6 + d 2 0 < 12; omega)]
    simp only [Option.bind_some, Nat.reduceAdd, ob9 kd_209, g9_0 kd_209, g9_1 kd_209, g9_2 kd_209, g9_3 kd_209, g9_4 kd_209, g9_5 kd_209, g9_6 kd_209, g9_7 kd_209, g9_8 kd_209, g9_9 kd_209, g9_10 kd_209, g9_11 kd_209, g9_12 kd_209, g9_13 kd_209, g9_14 kd_209, g9_15 kd_209, g9_16 kd_209, g9_17 kd_209, g9_18 kd_209, g9_19 kd_209, g9_20 kd_209, g9_21 kd_209, g9_22 kd_209, g9_23 kd_209, g9_24 kd_209, g9_25 kd_209, p9_1 kd_209, p9_10 kd_209, p9_11 kd_209, p9_12 kd_209, p9_13 kd_209, p9_14 kd_209, p9_15 kd_209, p9_24 kd_209, p9_25 kd_209, m216_1, jS_1, q1, la6, kn2]
    cases hok2 : okN T tx 1 11 1000 u1 with
    | false =>
      simp only [Bool.false_eq_true, if_false, Option.bind_some, Nat.reduceAdd]
      rw [wpu (by rfl) (by rw [kd_218]; show 6 + d 2 0 < 12; omega)]
      simp only [Option.bind_some, Nat.reduceAdd, ob9 kd_209, g9_0 kd_209, g9_1 kd_209, g9_2 kd_209, g9_3 kd_209, g9_4 kd_209, g9_5 kd_209, g9_6 kd_209, g9_7 kd_209, g9_8 kd_209, g9_9 kd_209, g9_10 kd_209, g9_11 kd_209, g9_12 kd_209, g9_13 kd_209, g9_14 kd_209, g9_15 kd_209, g9_16 kd_209, g9_17 kd_209, g9_18 kd_209, g9_19 kd_209, g9_20 kd_209, g9_21 kd_209, g9_22 kd_209, g9_23 kd_209, g9_24 kd_209, g9_25 kd_209, p9_1 kd_209, p9_10 kd_209, p9_11 kd_209, p9_12 kd_209, p9_13 kd_209, p9_14 kd_209, p9_15 kd_209, p9_24 kd_209, p9_25 kd_209, m216_1, jS_1, q2, w216, nI_1]
      exact ⟨_, _, rfl, me _ _, upd_s _ _ _, by rw [upd_n _ _ (by decide)]; rfl, fo_w⟩
    | true =>
      obtain ⟨p1, p2, p3, p4⟩ := ok_vv (by omega) hok2
      simp only [if_true, Option.bind_some, Nat.reduceAdd, p2]
      rw [wpu (by rfl) (by rw [kd_218]; show 6 + d 2 0 < 12; omega)]
      simp only [Option.bind_some, Nat.reduceAdd, ob9 kd_209, g9_0 kd_209, g9_1 kd_209, g9_2 kd_209, g9_3 kd_209, g9_4 kd_209, g9_5 kd_209, g9_6 kd_209, g9_7 kd_209, g9_8 kd_209, g9_9 kd_209, g9_10 kd_209, g9_11 kd_209, g9_12 kd_209, g9_13 kd_209, g9_14 kd_209, g9_15 kd_209, g9_16 kd_209, g9_17 kd_209, g9_18 kd_209, g9_19 kd_209, g9_20 kd_209, g9_21 kd_209, g9_22 kd_209, g9_23 kd_209, g9_24 kd_209, g9_25 kd_209, p9_1 kd_209, p9_10 kd_209, p9_11 kd_209, p9_12 kd_209, p9_13 kd_209, p9_14 kd_209, p9_15 kd_209, p9_24 kd_209, p9_25 kd_209, m216_1, jS_1, q2, w216, nI_1]
      refine ⟨_, rfl, me _ _, ?_⟩
      generalize nv T tx u1 = O at *
      show DM _ (addC d A O)
      refine ⟨?_, ?_, ?_, fun s hs' => ?_, fun p hp' => ?_⟩
      · rw [pu_o _ _ (by omega), pu_o _ _ (by omega), pu_o _ _ (by omega)]; exact d1
      · rw [pu_o _ _ (by omega), pu_o _ _ (by omega), pu_o _ _ (by omega)]; exact d2
      · exact pu_s _ _ _ _
      · obtain ⟨x1, x2, x3⟩ := d4 s hs'
        refine ⟨?_, ?_, ?_⟩
        · rw [pu_o _ _ (by omega), pu_o _ _ (by omega), pu_o _ _ (by omega)]; exact x1
        · rw [pu_o _ _ (by omega), pu_o _ _ (by omega), pu_o _ _ (by omega)]; exact x2
        · rw [pu_o _ _ (by omega), pu_o _ _ (by omega), pu_o _ _ (by omega)]; exact x3
      · have hp2 : p < d 2 0 + 1 := hp'
        have e6 : addC d A O 6 p = if p = d 2 0 then A else d 6 p := by rw [addC_at]; simp
        have e7 : addC d A O 7 p = if p = d 2 0 then O else d 7 p := by rw [addC_at]; simp
        rw [e6, e7]
        by_cases c : p = d 2 0
        · subst c
          rw [if_pos rfl, if_pos rfl]
          refine ⟨?_, ?_⟩
          · rw [pu_o _ _ (by omega), pu_o _ _ (by omega), pu_s]
          · rw [pu_o _ _ (by omega), pu_s]
        · rw [if_neg c, if_neg c]
          obtain ⟨x1, x2⟩ := d5 p (by omega)
          refine ⟨?_, ?_⟩
          · rw [pu_o _ _ (by omega), pu_o _ _ (by omega), pu_o _ _ (by omega)]; exact x1
          · rw [pu_o _ _ (by omega), pu_o _ _ (by omega), pu_o _ _ (by omega)]; exact x2

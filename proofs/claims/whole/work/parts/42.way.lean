/-! ways: widest, way -/
theorem endsOf_P (F : Nat) {S : ST} {q Y n c : Nat} {on ot wn wi : Nat → Nat} (hq : IsP q) (hp' : PL S q Y n c on ot wn wi) (hw : TW Y n c on ot wn) {s : Nat} (hs : s < n) : fX7_endsOf_P F (hp S) q (nI s) = some (bs 8 (en on ot s), hp S) := by
  obtain ⟨q0, q1, q2, q3, q4, q5, q6⟩ := hq
  obtain ⟨k1, k2, k3, k4, k5, k6, k7⟩ := hp'
  obtain ⟨⟨y1, y2⟩, hn, hc, w1, w2⟩ := hw
  obtain ⟨a1, a2, a3⟩ := w1 s hs
  unfold fX7_endsOf_P
  simp only [Option.bind_some, Nat.reduceAdd, ob4 q0, g4_3 q0, g4_4 q0]
  rw [ra (by rw [q1]) (by decide) (by rw [q1]; show s < 9; omega), ra (by rw [q2]) (by decide) (by rw [q2]; show s < 9; omega)]
  simp only [Option.bind_some, Nat.reduceAdd]
  rw [k4 s hs, k5 s hs, bs_one (k := 8) (by omega) (by omega), bs_one (k := 8) (by omega) (by omega), bs_or]
  rfl
theorem on_lt {Y n c : Nat} {on ot wn : Nat → Nat} (hw : TW Y n c on ot wn) : ∀ s, s < n → on s < Y ∧ ot s < Y := fun s hs => ⟨(hw.2.2.2.1 s hs).1, (hw.2.2.2.1 s hs).2.1⟩
theorem on_8 {Y n c : Nat} {on ot wn : Nat → Nat} (hw : TW Y n c on ot wn) : ∀ s, s < n → on s < 8 ∧ ot s < 8 := fun s hs => by
  have := on_lt hw s hs
  have := hw.1.2
  omega
theorem touch {on ot : Nat → Nat} {R : Nat → Bool} {s : Nat} (h1 : on s < 8) (h2 : ot s < 8) : (bs 8 R &&& bs 8 (en on ot s) = 0) ↔ (R (on s) || R (ot s)) = false := by
  rw [bs_and, bs_zero (by omega)]
  constructor
  · intro h
    have e1 := h (on s) h1
    have e2 := h (ot s) h2
    simp only [en, beq_self_eq_true, Bool.true_or, Bool.or_true, Bool.and_true] at e1 e2
    rw [e1, e2]
    rfl
  · intro h i hi
    rw [Bool.or_eq_false_iff] at h
    unfold en
    by_cases hi1 : i = on s
    · rw [hi1, h.1]; rfl
    · by_cases hi2 : i = ot s
      · rw [hi2, h.2]; rfl
      · simp [hi1, hi2]
theorem oneOn_eq (F : Nat) (hF : 4000 ≤ F) {S : ST} {Y n c : Nat} {on ot wn wi : Nat → Nat} (hp' : PL S 188 Y n c on ot wn wi) (hw : TW Y n c on ot wn) (hwi : ∀ s, s < n → wi s ≤ 10) (R : Nat → Bool) {w : Nat} (hw10 : w ≤ 10) : fX8_oneStreetOn F (hp S) 187 (bs 8 R) (nI w) = some (bs 8 (stp n on ot (fun s => decide (w ≤ wi s)) R), hp S) := by
  have hPL := hp'
  have hTW := hw
  obtain ⟨k1, k2, k3, k4, k5, k6, k7⟩ := hp'
  obtain ⟨⟨y1, y2⟩, hn, hc, w1, w2⟩ := hw
  unfold fX8_oneStreetOn
  simp only [Option.bind_some, Nat.reduceAdd, ob7 kd_187, g7_0 kd_187, g7_1 kd_187]
  have := loopA (fun k i st => fX8_oneStreetOn_b5 F k 187 (bs 8 R) (nI w) st (nI i) (hp S)) n (fun i => bs 8 (stp i on ot (fun s => decide (w ≤ wi s)) R)) (some (bs 8 (stp n on ot (fun s => decide (w ≤ wi s)) R), hp S)) ?_ ?_ F 0 (by omega) (by omega)
  · refine Eq.trans ?_ this
    have e : stp 0 on ot (fun s => decide (w ≤ wi s)) R = R := by
      funext y
      simp [stp, anyN]
    rw [e]
    rfl
  · intro k
    show fX8_oneStreetOn_b5c F _ 187 (bs 8 R) (nI w) _ (nI n) (hp S) = _
    unfold fX8_oneStreetOn_b5c
    simp only [Option.bind_some, Nat.reduceAdd, ob7 kd_187, g7_0 kd_187, g7_1 kd_187, ob4 kd_188, g4_0 kd_188, g4_1 kd_188, g4_2 kd_188, g4_3 kd_188, g4_4 kd_188, g4_5 kd_188, g4_6 kd_188, g4_7 kd_188, g4_8 kd_188, p4_0 kd_188, p4_1 kd_188, p4_2 kd_188, k2]
    rw [if_pos (nI_le (Nat.le_refl _) (by omega))]
  · intro k i hi
    have hwii := hwi i hi
    have hon := on_8 hTW i hi
    show fX8_oneStreetOn_b5c F _ 187 (bs 8 R) (nI w) _ (nI i) (hp S) = _
    unfold fX8_oneStreetOn_b5c fX8_oneStreetOn_b57
    simp only [Option.bind_some, Nat.reduceAdd, ob7 kd_187, g7_0 kd_187, g7_1 kd_187, ob4 kd_188, g4_0 kd_188, g4_1 kd_188, g4_2 kd_188, g4_3 kd_188, g4_4 kd_188, g4_5 kd_188, g4_6 kd_188, g4_7 kd_188, g4_8 kd_188, p4_0 kd_188, p4_1 kd_188, p4_2 kd_188, k2]
    rw [if_neg (nI_ge hi (by omega)), ra (by rfl) (by decide) (by rw [kd_194]; show i < 9; omega), k7 i hi]
    simp only [Option.bind_some, Nat.reduceAdd, ob7 kd_187, g7_0 kd_187, g7_1 kd_187, endsOf_P F IsP_188 hPL hTW hi, nI_1]
    by_cases h1 : w ≤ wi i
    · rw [if_neg (nI_nlt h1 (by omega))]
      cases hR : (R (on i) || R (ot i)) with
      | false =>
        rw [if_pos ((touch hon.1 hon.2).mpr hR)]
        congr 1
        apply bs_ext
        intro y _
        simp only [stp, anyN, hR, Bool.false_and, Bool.and_false, Bool.or_false]
      | true =>
        rw [if_neg (fun e => by rw [(touch hon.1 hon.2).mp e] at hR; cases hR), bs_or]
        congr 1
        apply bs_ext
        intro y _
        simp only [stp, anyN, hR, h1, decide_true, Bool.true_and, Bool.or_assoc]
    · rw [if_pos (nI_lt (by omega) (by omega))]
      congr 1
      apply bs_ext
      intro y _
      simp only [stp, anyN, h1, decide_false, Bool.false_and, Bool.or_false]
def opn (wi : Nat → Nat) (w : Nat) : Nat → Bool := fun s => decide (w ≤ wi s)
theorem fewest_eq (F : Nat) (hF : 4000 ≤ F) {S : ST} {Y n c : Nat} {on ot wn wi : Nat → Nat} (hp' : PL S 188 Y n c on ot wn wi) (hw : TW Y n c on ot wn) (hwi : ∀ s, s < n → wi s ≤ 10) {a b w : Nat} (ha : a < Y) (hb : b < Y) (hab : a ≠ b) (hw10 : w ≤ 10) : fX8_fewestStreets F (hp S) 187 (nI a) (nI b) (nI w) = some (ffI 8 (fun t => rch n on ot (opn wi w) a t b), hp S) := by
  have y2 := hw.1.2
  have y1 := hw.1.1
  have e0 : (1 : Int32) <<< (nI a &&& 31) = bs 8 (rch n on ot (opn wi w) a 0) := bs_one (k := 8) (by omega) (by omega)
  unfold fX8_fewestStreets
  simp only [Option.bind_some, Nat.reduceAdd, ob7 kd_187, g7_0 kd_187, g7_1 kd_187]
  rw [e0, ← way_two y2 ha hb hab (on_lt hw)]
  have := loopF (fun k i => fX8_fewestStreets_b8 F k 187 (nI b) (nI w) (bs 8 (rch n on ot (opn wi w) a i)) (nI (i + 1)) (hp S)) (Y - 1) (fun i => rch n on ot (opn wi w) a (i + 1) b) (fun m => some (if m < Y - 1 then nI (m + 1) else -9, hp S)) ?_ ?_ F (by omega)
  · exact this
  · intro k
    show fX8_fewestStreets_b8c F _ 187 (nI b) (nI w) _ (nI (Y - 1 + 1)) (hp S) = _
    unfold fX8_fewestStreets_b8c
    simp only [Option.bind_some, Nat.reduceAdd, ob7 kd_187, g7_0 kd_187, g7_1 kd_187, ob4 kd_188, g4_0 kd_188, g4_1 kd_188, g4_2 kd_188, g4_3 kd_188, g4_4 kd_188, g4_5 kd_188, g4_6 kd_188, g4_7 kd_188, g4_8 kd_188, p4_0 kd_188, p4_1 kd_188, p4_2 kd_188, hp'.1]
    rw [if_pos (nI_le (by omega) (by omega)), if_neg (Nat.lt_irrefl _)]
  · intro k i hi
    show fX8_fewestStreets_b8c F _ 187 (nI b) (nI w) _ (nI (i + 1)) (hp S) = _
    unfold fX8_fewestStreets_b8c
    simp only [Option.bind_some, Nat.reduceAdd, ob7 kd_187, g7_0 kd_187, g7_1 kd_187, ob4 kd_188, g4_0 kd_188, g4_1 kd_188, g4_2 kd_188, g4_3 kd_188, g4_4 kd_188, g4_5 kd_188, g4_6 kd_188, g4_7 kd_188, g4_8 kd_188, p4_0 kd_188, p4_1 kd_188, p4_2 kd_188, hp'.1]
    rw [if_neg (nI_ge (by omega) (by omega)), oneOn_eq F hF hp' hw hwi _ hw10]
    simp only [Option.bind_some, Nat.reduceAdd]
    rw [show stp n on ot (fun s => decide (w ≤ wi s)) (rch n on ot (opn wi w) a i) = rch n on ot (opn wi w) a (i + 1) from rfl, has_eq F _ _ (by omega) (by omega)]
    simp only [Option.bind_some, Nat.reduceAdd, nI_1]
    cases rch n on ot (opn wi w) a (i + 1) b
    · simp
    · simp [hi]
theorem widestWay_eq (F : Nat) (hF : 4000 ≤ F) {S : ST} {Y n c : Nat} {on ot wn wi : Nat → Nat} (hp' : PL S 188 Y n c on ot wn wi) (hw : TW Y n c on ot wn) (hwi : ∀ s, s < n → wi s ≤ 10) {a b : Nat} (ha : a < Y) (hb : b < Y) (hab : a ≠ b) : fX8_widestWay F (hp S) 187 (nI a) (nI b) = some (if dn 10 (fun w => con n on ot (opn wi w) a b) = 0 then -9 else nI (dn 10 (fun w => con n on ot (opn wi w) a b)), hp S) := by
  unfold fX8_widestWay
  simp only [Option.bind_some, Nat.reduceAdd, ob7 kd_187, g7_0 kd_187, g7_1 kd_187]
  have := loopG (fun k i => fX8_widestWay_b3 F k 187 (nI a) (nI b) (nI i) (hp S)) 10 (fun w => con n on ot (opn wi w) a b) (fun m => some (if m = 0 then -9 else nI m, hp S)) ?_ ?_ F 10 (by omega) (by omega)
  · exact this
  · intro k
    show fX8_widestWay_b3c F _ 187 (nI a) (nI b) (nI 0) (hp S) = _
    unfold fX8_widestWay_b3c
    rw [if_pos (by decide)]
    rfl
  · intro k i hi
    show fX8_widestWay_b3c F _ 187 (nI a) (nI b) (nI (i + 1)) (hp S) = _
    unfold fX8_widestWay_b3c
    rw [if_neg (show ¬ nI (i + 1) < (1 : Int32) from nI_nlt (b := 1) (by omega) (by omega)), fewest_eq F hF hp' hw hwi ha hb hab (by omega)]
    simp only [Option.bind_some, Nat.reduceAdd, pk_m1]
    cases hc : con n on ot (opn wi (i + 1)) a b
    · rw [if_pos (ffI_con.mpr hc)]
      simp
    · rw [if_neg (fun e => by rw [ffI_con.mp e] at hc; cases hc)]
      simp
theorem openBy_eq (F : Nat) (hF : 4000 ≤ F) {S : ST} {n c : Nat} {μ : Mo} (hn : S.1 212 0 = nI n) (h9 : n ≤ 9) (hm : MM S n c μ) (hw : WM n c μ) {w : Nat} (hw10 : w ≤ 10) : fX10_openBy F (hp S) 209 (nI w) = some (bs 9 (fun s => decide (s < n) && opn (wd μ) w s), hp S) := by
  unfold fX10_openBy
  simp only [Option.bind_some, Nat.reduceAdd, ob9 kd_209, g9_0 kd_209, g9_1 kd_209, g9_2 kd_209, g9_3 kd_209, g9_4 kd_209, g9_5 kd_209, g9_6 kd_209, g9_7 kd_209, g9_8 kd_209, g9_9 kd_209, g9_10 kd_209, g9_11 kd_209, g9_12 kd_209, g9_13 kd_209, g9_14 kd_209, g9_15 kd_209, g9_16 kd_209, g9_17 kd_209, g9_18 kd_209, g9_19 kd_209, g9_20 kd_209, g9_21 kd_209, g9_22 kd_209, g9_23 kd_209, g9_24 kd_209, g9_25 kd_209, p9_1 kd_209, p9_10 kd_209, p9_11 kd_209, p9_12 kd_209, p9_13 kd_209, p9_14 kd_209, p9_15 kd_209, p9_24 kd_209, p9_25 kd_209]
  have := loopA (fun k i st => fX10_openBy_b4 F k 209 (nI w) st (nI i) (hp S)) n (fun i => bs 9 (fun s => decide (s < i) && opn (wd μ) w s)) (some (bs 9 (fun s => decide (s < n) && opn (wd μ) w s), hp S)) ?_ ?_ F 0 (by omega) (by omega)
  · refine Eq.trans ?_ this
    show _ = fX10_openBy_b4 F F 209 (nI w) (bs 9 _) (nI 0) (hp S)
    rw [bs_init]
    rfl
  · intro k
    show fX10_openBy_b4c F _ 209 (nI w) _ (nI n) (hp S) = _
    unfold fX10_openBy_b4c
    simp only [Option.bind_some, Nat.reduceAdd, ob9 kd_209, g9_0 kd_209, g9_1 kd_209, g9_2 kd_209, g9_3 kd_209, g9_4 kd_209, g9_5 kd_209, g9_6 kd_209, g9_7 kd_209, g9_8 kd_209, g9_9 kd_209, g9_10 kd_209, g9_11 kd_209, g9_12 kd_209, g9_13 kd_209, g9_14 kd_209, g9_15 kd_209, g9_16 kd_209, g9_17 kd_209, g9_18 kd_209, g9_19 kd_209, g9_20 kd_209, g9_21 kd_209, g9_22 kd_209, g9_23 kd_209, g9_24 kd_209, g9_25 kd_209, p9_1 kd_209, p9_10 kd_209, p9_11 kd_209, p9_12 kd_209, p9_13 kd_209, p9_14 kd_209, p9_15 kd_209, p9_24 kd_209, p9_25 kd_209, m212_0, hn]
    rw [if_pos (nI_le (Nat.le_refl _) (by omega))]
  · intro k i hi
    have hwd := wd_le hw hi
    show fX10_openBy_b4c F _ 209 (nI w) _ (nI i) (hp S) = _
    unfold fX10_openBy_b4c fX10_openBy_b31
    simp only [Option.bind_some, Nat.reduceAdd, ob9 kd_209, g9_0 kd_209, g9_1 kd_209, g9_2 kd_209, g9_3 kd_209, g9_4 kd_209, g9_5 kd_209, g9_6 kd_209, g9_7 kd_209, g9_8 kd_209, g9_9 kd_209, g9_10 kd_209, g9_11 kd_209, g9_12 kd_209, g9_13 kd_209, g9_14 kd_209, g9_15 kd_209, g9_16 kd_209, g9_17 kd_209, g9_18 kd_209, g9_19 kd_209, g9_20 kd_209, g9_21 kd_209, g9_22 kd_209, g9_23 kd_209, g9_24 kd_209, g9_25 kd_209, p9_1 kd_209, p9_10 kd_209, p9_11 kd_209, p9_12 kd_209, p9_13 kd_209, p9_14 kd_209, p9_15 kd_209, p9_24 kd_209, p9_25 kd_209, m212_0, hn]
    rw [if_neg (nI_ge hi (by omega)), mWidthOf_eq F hm hw h9 hi, ← bs_step (opn (wd μ) w) (show i < 9 by omega) (by omega)]
    simp only [Option.bind_some, Nat.reduceAdd, nI_1]
    by_cases h : w ≤ wd μ i
    · rw [if_neg (nI_nlt h (by omega)), if_pos (show opn (wd μ) w i = true from decide_eq_true h)]
    · rw [if_pos (nI_lt (by omega) (by omega)), if_neg (show ¬ opn (wd μ) w i = true from fun e => h (of_decide_eq_true e))]
theorem wayBy_inner (F : Nat) (hF : 4000 ≤ F) {S : ST} {Y n c : Nat} {on ot wn : Nat → Nat} (mt0 : MT S Y n c on ot wn) (hw : TW Y n c on ot wn) (K : Nat → Int32 → Int32 → Int32 → Int32 → HL → Option (Int32 × HL)) (O R : Nat → Bool) (b x : Int32) : fX10_wayBy_b34 F K F 209 b (bs 9 O) (bs 8 R) x (bs 8 R) 0 (hp S) = K 209 b (bs 9 O) (bs 8 (stp n on ot O R)) (x + 1) (hp S) := by
  obtain ⟨k1, k2, k3, k4, k5, k6⟩ := mt0
  have hTW := hw
  obtain ⟨⟨y1, y2⟩, hn, hc, w1, w2⟩ := hw
  have := loopA (fun k i st => fX10_wayBy_b34 F K k 209 b (bs 9 O) (bs 8 R) x st (nI i) (hp S)) n (fun i => bs 8 (stp i on ot O R)) (K 209 b (bs 9 O) (bs 8 (stp n on ot O R)) (x + 1) (hp S)) ?_ ?_ F 0 (by omega) (by omega)
  · refine Eq.trans ?_ this
    have e : stp 0 on ot O R = R := by
      funext y
      simp [stp, anyN]
    rw [e]
    rfl
  · intro k
    show fX10_wayBy_b34c F K _ 209 b (bs 9 O) (bs 8 R) x _ (nI n) (hp S) = _
    unfold fX10_wayBy_b34c
    simp only [Option.bind_some, Nat.reduceAdd, ob9 kd_209, g9_0 kd_209, g9_1 kd_209, g9_2 kd_209, g9_3 kd_209, g9_4 kd_209, g9_5 kd_209, g9_6 kd_209, g9_7 kd_209, g9_8 kd_209, g9_9 kd_209, g9_10 kd_209, g9_11 kd_209, g9_12 kd_209, g9_13 kd_209, g9_14 kd_209, g9_15 kd_209, g9_16 kd_209, g9_17 kd_209, g9_18 kd_209, g9_19 kd_209, g9_20 kd_209, g9_21 kd_209, g9_22 kd_209, g9_23 kd_209, g9_24 kd_209, g9_25 kd_209, p9_1 kd_209, p9_10 kd_209, p9_11 kd_209, p9_12 kd_209, p9_13 kd_209, p9_14 kd_209, p9_15 kd_209, p9_24 kd_209, p9_25 kd_209, m212_0, k2]
    rw [if_pos (nI_le (Nat.le_refl _) (by omega))]
  · intro k i hi
    have hon := on_8 hTW i hi
    have r3 : o_aI (hp S) 213 0 (nI i) = some (nI (on i)) := by rw [ra (by rfl) (by decide) (by rw [kd_213]; show i < 18; omega), k4 i hi]
    have r4 : o_aI (hp S) 214 0 (nI i) = some (nI (ot i)) := by rw [ra (by rfl) (by decide) (by rw [kd_214]; show i < 18; omega), k5 i hi]
    have b80 : ∀ y0 : Bool, fX10_wayBy_b80 F (fX10_wayBy_b34 F K k) 209 b (bs 9 O) (bs 8 R) x (bs 8 (stp i on ot O R)) (nI i) (if y0 then 1 else 0) (hp S) = fX10_wayBy_b34 F K k 209 b (bs 9 O) (bs 8 R) x (bs 8 (fun y => stp i on ot O R y || (O i && (y0 && en on ot i y)))) (nI (i + 1)) (hp S) := by
      intro y0
      unfold fX10_wayBy_b80 fX10_wayBy_b120 fX10_wayBy_b121
      rw [mHas_eq F _ O (by omega) (by omega)]
      simp only [Option.bind_some, Nat.reduceAdd, ob9 kd_209, g9_0 kd_209, g9_1 kd_209, g9_2 kd_209, g9_3 kd_209, g9_4 kd_209, g9_5 kd_209, g9_6 kd_209, g9_7 kd_209, g9_8 kd_209, g9_9 kd_209, g9_10 kd_209, g9_11 kd_209, g9_12 kd_209, g9_13 kd_209, g9_14 kd_209, g9_15 kd_209, g9_16 kd_209, g9_17 kd_209, g9_18 kd_209, g9_19 kd_209, g9_20 kd_209, g9_21 kd_209, g9_22 kd_209, g9_23 kd_209, g9_24 kd_209, g9_25 kd_209, p9_1 kd_209, p9_10 kd_209, p9_11 kd_209, p9_12 kd_209, p9_13 kd_209, p9_14 kd_209, p9_15 kd_209, p9_24 kd_209, p9_25 kd_209, r3, r4, nI_1]
      cases hO : O i
      · simp
      · cases y0
        · simp
        · simp only [if_true, e10, if_false, Bool.true_and]
          rw [bs_one (k := 8) hon.1 (by omega), bs_one (k := 8) hon.2 (by omega), bs_or, bs_or]
          rfl
    show fX10_wayBy_b34c F K _ 209 b (bs 9 O) (bs 8 R) x _ (nI i) (hp S) = _
    unfold fX10_wayBy_b34c fX10_wayBy_b75
    simp only [Option.bind_some, Nat.reduceAdd, ob9 kd_209, g9_0 kd_209, g9_1 kd_209, g9_2 kd_209, g9_3 kd_209, g9_4 kd_209, g9_5 kd_209, g9_6 kd_209, g9_7 kd_209, g9_8 kd_209, g9_9 kd_209, g9_10 kd_209, g9_11 kd_209, g9_12 kd_209, g9_13 kd_209, g9_14 kd_209, g9_15 kd_209, g9_16 kd_209, g9_17 kd_209, g9_18 kd_209, g9_19 kd_209, g9_20 kd_209, g9_21 kd_209, g9_22 kd_209, g9_23 kd_209, g9_24 kd_209, g9_25 kd_209, p9_1 kd_209, p9_10 kd_209, p9_11 kd_209, p9_12 kd_209, p9_13 kd_209, p9_14 kd_209, p9_15 kd_209, p9_24 kd_209, p9_25 kd_209, m212_0, k2]
    rw [if_neg (nI_ge hi (by omega))]
    simp only [Option.bind_some, Nat.reduceAdd, r3, r4, mHas_eq F _ R (show 8 ≤ 31 by omega) hon.1, mHas_eq F _ R (show 8 ≤ 31 by omega) hon.2, ob9 kd_209, g9_0 kd_209, g9_1 kd_209, g9_2 kd_209, g9_3 kd_209, g9_4 kd_209, g9_5 kd_209, g9_6 kd_209, g9_7 kd_209, g9_8 kd_209, g9_9 kd_209, g9_10 kd_209, g9_11 kd_209, g9_12 kd_209, g9_13 kd_209, g9_14 kd_209, g9_15 kd_209, g9_16 kd_209, g9_17 kd_209, g9_18 kd_209, g9_19 kd_209, g9_20 kd_209, g9_21 kd_209, g9_22 kd_209, g9_23 kd_209, g9_24 kd_209, g9_25 kd_209, p9_1 kd_209, p9_10 kd_209, p9_11 kd_209, p9_12 kd_209, p9_13 kd_209, p9_14 kd_209, p9_15 kd_209, p9_24 kd_209, p9_25 kd_209]
    have e1 : bs 8 (stp (i + 1) on ot O R) = bs 8 (fun y => stp i on ot O R y || (O i && ((R (on i) || R (ot i)) && en on ot i y))) := by
      apply bs_ext
      intro y _
      simp only [stp, anyN, Bool.or_assoc]
    rw [e1, ← b80]
    cases R (on i)
    · cases R (ot i)
      · simp
      · simp
    · simp
theorem wayBy_eq (F : Nat) (hF : 4000 ≤ F) {S : ST} {Y n c : Nat} {on ot wn : Nat → Nat} (mt0 : MT S Y n c on ot wn) (hw : TW Y n c on ot wn) (O : Nat → Bool) {a b : Nat} (ha : a < Y) (hb : b < Y) : fX10_wayBy F (hp S) 209 (nI a) (nI b) (bs 9 O) = some (ffI 8 (fun t => rch n on ot O a t b), hp S) := by
  have y2 := hw.1.2
  have e0 : (1 : Int32) <<< (nI a &&& 31) = bs 8 (rch n on ot O a 0) := bs_one (k := 8) (by omega) (by omega)
  unfold fX10_wayBy
  simp only [Option.bind_some, Nat.reduceAdd, ob9 kd_209, g9_0 kd_209, g9_1 kd_209, g9_2 kd_209, g9_3 kd_209, g9_4 kd_209, g9_5 kd_209, g9_6 kd_209, g9_7 kd_209, g9_8 kd_209, g9_9 kd_209, g9_10 kd_209, g9_11 kd_209, g9_12 kd_209, g9_13 kd_209, g9_14 kd_209, g9_15 kd_209, g9_16 kd_209, g9_17 kd_209, g9_18 kd_209, g9_19 kd_209, g9_20 kd_209, g9_21 kd_209, g9_22 kd_209, g9_23 kd_209, g9_24 kd_209, g9_25 kd_209, p9_1 kd_209, p9_10 kd_209, p9_11 kd_209, p9_12 kd_209, p9_13 kd_209, p9_14 kd_209, p9_15 kd_209, p9_24 kd_209, p9_25 kd_209]
  rw [e0]
  have := loopF (fun k i => fX10_wayBy_b8 F k 209 (nI b) (bs 9 O) (bs 8 (rch n on ot O a i)) (nI i) (hp S)) 8 (fun i => rch n on ot O a i b) (fun m => some (if m < 8 then nI m else -9, hp S)) ?_ ?_ F (by omega)
  · exact this
  · intro k
    show fX10_wayBy_b8c F _ 209 (nI b) (bs 9 O) _ (nI 8) (hp S) = _
    unfold fX10_wayBy_b8c
    rw [if_pos (by decide)]
    rfl
  · intro k i hi
    show fX10_wayBy_b8c F _ 209 (nI b) (bs 9 O) _ (nI i) (hp S) = _
    unfold fX10_wayBy_b8c
    rw [if_neg (show ¬ (8 : Int32) ≤ nI i from nI_ge (b := 8) hi (by decide)), mHas_eq F _ _ (by omega) (by omega)]
    simp only [Option.bind_some, Nat.reduceAdd, wayBy_inner F hF mt0 hw, nI_1]
    cases rch n on ot O a i b
    · simp [rch]
    · simp [hi]
theorem wd_10 {n c : Nat} {μ : Mo} (h : WM n c μ) : ∀ s, s < n → wd μ s ≤ 10 := fun s hs => (wd_le h hs).2
theorem c_way (F : Nat) (hF : 4000 ≤ F) {S : ST} (h : Inv S) (x y z : Int32) : Ok S (fun L => fX9_way F L 0 x y z) (fun L => fX10_way F L 209 x y z) := by
  have hI := h
  obtain ⟨Y, n, c, on, ot, wn, μ, k, ms, T, tx, f, mw, mn, kp, im, ik, ims, htw, hwa, hk, hm, htr⟩ := h
  have h9 := htw.2.1
  have h6 := htw.2.2.1
  have kt := hk.1
  have km := hk.2.1.1
  have wm := hwa.1
  rcases twoc x y htw.1.2 with ⟨a, b, ha, hb, hab, rfl, rfl, hx⟩ | hx
  · rcases rng1_10 z with ⟨w, w1, w2, rfl, hz⟩ | hz
    · obtain ⟨S1, e1, f1, p1⟩ := waysNow_eq F hF h9 h6 kt km wm
      obtain ⟨m1, m2, m3, m4, m5⟩ := M_fr hm f1 (by omega)
      refine ⟨ffI 8 (fun t => rch n on ot (opn (wd μ) w) a t b), S1, S1, ?_, ?_, hI.scr f1 (by omega)⟩
      · show fX9_way F (hp S) 0 _ _ _ = _
        unfold fX9_way
        simp only [Option.bind_some, Nat.reduceAdd, ob8 kd_0, g8_0 kd_0, g8_1 kd_0, g8_2 kd_0, g8_3 kd_0, g8_4 kd_0, g8_5 kd_0, g8_6 kd_0, g8_7 kd_0, g8_8 kd_0, g8_9 kd_0, p8_5 kd_0, p8_9 kd_0, yards_eq F kt.1, if_pos hx, e10, if_false, within_eq, if_pos hz, e1, fewest_eq F hF p1 htw (wd_10 wm) ha hb hab w2]
      · show fX10_way F (hp S1) 209 _ _ _ = _
        unfold fX10_way
        simp only [Option.bind_some, Nat.reduceAdd, ob9 kd_209, g9_0 kd_209, g9_1 kd_209, g9_2 kd_209, g9_3 kd_209, g9_4 kd_209, g9_5 kd_209, g9_6 kd_209, g9_7 kd_209, g9_8 kd_209, g9_9 kd_209, g9_10 kd_209, g9_11 kd_209, g9_12 kd_209, g9_13 kd_209, g9_14 kd_209, g9_15 kd_209, g9_16 kd_209, g9_17 kd_209, g9_18 kd_209, g9_19 kd_209, g9_20 kd_209, g9_21 kd_209, g9_22 kd_209, g9_23 kd_209, g9_24 kd_209, g9_25 kd_209, p9_1 kd_209, p9_10 kd_209, p9_11 kd_209, p9_12 kd_209, p9_13 kd_209, p9_14 kd_209, p9_15 kd_209, p9_24 kd_209, p9_25 kd_209, areTwo_eq F m1.1, if_pos hx, e10, if_false, in_eq, if_pos hz, openBy_eq F hF m1.2.1 h9 m2.1 wm w2, wayBy_eq F hF m1 htw _ ha hb]
        rw [show (fun t => rch n on ot (fun s => decide (s < n) && opn (wd μ) w s) a t b) = fun t => rch n on ot (opn (wd μ) w) a t b from funext fun t => by rw [rch_congr a (op := fun s => decide (s < n) && opn (wd μ) w s) (op' := opn (wd μ) w) (fun s hs => by simp [hs]) t]]
    · refine Ok.of hI ⟨-1, ?_, ?_⟩
      · unfold fX9_way fX9_way_b19
        simp only [Option.bind_some, Nat.reduceAdd, ob8 kd_0, g8_0 kd_0, g8_1 kd_0, g8_2 kd_0, g8_3 kd_0, g8_4 kd_0, g8_5 kd_0, g8_6 kd_0, g8_7 kd_0, g8_8 kd_0, g8_9 kd_0, p8_5 kd_0, p8_9 kd_0, yards_eq F kt.1, if_pos hx, e10, if_false, within_eq, if_neg hz, if_true]
      · unfold fX10_way fX10_way_b19
        simp only [Option.bind_some, Nat.reduceAdd, ob9 kd_209, g9_0 kd_209, g9_1 kd_209, g9_2 kd_209, g9_3 kd_209, g9_4 kd_209, g9_5 kd_209, g9_6 kd_209, g9_7 kd_209, g9_8 kd_209, g9_9 kd_209, g9_10 kd_209, g9_11 kd_209, g9_12 kd_209, g9_13 kd_209, g9_14 kd_209, g9_15 kd_209, g9_16 kd_209, g9_17 kd_209, g9_18 kd_209, g9_19 kd_209, g9_20 kd_209, g9_21 kd_209, g9_22 kd_209, g9_23 kd_209, g9_24 kd_209, g9_25 kd_209, p9_1 kd_209, p9_10 kd_209, p9_11 kd_209, p9_12 kd_209, p9_13 kd_209, p9_14 kd_209, p9_15 kd_209, p9_24 kd_209, p9_25 kd_209, areTwo_eq F hm.1.1, if_pos hx, e10, if_false, in_eq, if_neg hz, if_true]
  · refine Ok.of hI ⟨-1, ?_, ?_⟩
    · unfold fX9_way fX9_way_b19
      simp only [Option.bind_some, Nat.reduceAdd, ob8 kd_0, g8_0 kd_0, g8_1 kd_0, g8_2 kd_0, g8_3 kd_0, g8_4 kd_0, g8_5 kd_0, g8_6 kd_0, g8_7 kd_0, g8_8 kd_0, g8_9 kd_0, p8_5 kd_0, p8_9 kd_0, yards_eq F kt.1, if_neg hx, if_true]
    · unfold fX10_way fX10_way_b19
      simp only [Option.bind_some, Nat.reduceAdd, ob9 kd_209, g9_0 kd_209, g9_1 kd_209, g9_2 kd_209, g9_3 kd_209, g9_4 kd_209, g9_5 kd_209, g9_6 kd_209, g9_7 kd_209, g9_8 kd_209, g9_9 kd_209, g9_10 kd_209, g9_11 kd_209, g9_12 kd_209, g9_13 kd_209, g9_14 kd_209, g9_15 kd_209, g9_16 kd_209, g9_17 kd_209, g9_18 kd_209, g9_19 kd_209, g9_20 kd_209, g9_21 kd_209, g9_22 kd_209, g9_23 kd_209, g9_24 kd_209, g9_25 kd_209, p9_1 kd_209, p9_10 kd_209, p9_11 kd_209, p9_12 kd_209, p9_13 kd_209, p9_14 kd_209, p9_15 kd_209, p9_24 kd_209, p9_25 kd_209, areTwo_eq F hm.1.1, if_neg hx, if_true]
theorem c_widest (F : Nat) (hF : 4000 ≤ F) {S : ST} (h : Inv S) (x y : Int32) : Ok S (fun L => fX9_widest F L 0 x y) (fun L => fX10_widest F L 209 x y) := by
  have hI := h
  obtain ⟨Y, n, c, on, ot, wn, μ, k, ms, T, tx, f, mw, mn, kp, im, ik, ims, htw, hwa, hk, hm, htr⟩ := h
  have h9 := htw.2.1
  have h6 := htw.2.2.1
  have kt := hk.1
  have km := hk.2.1.1
  have wm := hwa.1
  rcases twoc x y htw.1.2 with ⟨a, b, ha, hb, hab, rfl, rfl, hx⟩ | hx
  · obtain ⟨S1, e1, f1, p1⟩ := waysNow_eq F hF h9 h6 kt km wm
    obtain ⟨m1, m2, m3, m4, m5⟩ := M_fr hm f1 (by omega)
    refine ⟨if dn 10 (fun w => con n on ot (opn (wd μ) w) a b) = 0 then -9 else nI (dn 10 (fun w => con n on ot (opn (wd μ) w) a b)), S1, S1, ?_, ?_, hI.scr f1 (by omega)⟩
    · show fX9_widest F (hp S) 0 _ _ = _
      unfold fX9_widest
      simp only [Option.bind_some, Nat.reduceAdd, ob8 kd_0, g8_0 kd_0, g8_1 kd_0, g8_2 kd_0, g8_3 kd_0, g8_4 kd_0, g8_5 kd_0, g8_6 kd_0, g8_7 kd_0, g8_8 kd_0, g8_9 kd_0, p8_5 kd_0, p8_9 kd_0, yards_eq F kt.1, if_pos hx, e10, if_false, e1, widestWay_eq F hF p1 htw (wd_10 wm) ha hb hab]
    · show fX10_widest F (hp S1) 209 _ _ = _
      unfold fX10_widest
      simp only [Option.bind_some, Nat.reduceAdd, ob9 kd_209, g9_0 kd_209, g9_1 kd_209, g9_2 kd_209, g9_3 kd_209, g9_4 kd_209, g9_5 kd_209, g9_6 kd_209, g9_7 kd_209, g9_8 kd_209, g9_9 kd_209, g9_10 kd_209, g9_11 kd_209, g9_12 kd_209, g9_13 kd_209, g9_14 kd_209, g9_15 kd_209, g9_16 kd_209, g9_17 kd_209, g9_18 kd_209, g9_19 kd_209, g9_20 kd_209, g9_21 kd_209, g9_22 kd_209, g9_23 kd_209, g9_24 kd_209, g9_25 kd_209, p9_1 kd_209, p9_10 kd_209, p9_11 kd_209, p9_12 kd_209, p9_13 kd_209, p9_14 kd_209, p9_15 kd_209, p9_24 kd_209, p9_25 kd_209, areTwo_eq F m1.1, if_pos hx, e10, if_false]
      have := loopG (fun k i => fX10_widest_b14 F k 209 (nI a) (nI b) (nI i) (hp S1)) 10 (fun w => con n on ot (opn (wd μ) w) a b) (fun m => some (if m = 0 then -9 else nI m, hp S1)) ?_ ?_ F 10 (by omega) (by omega)
      · exact this
      · intro k
        show fX10_widest_b14c F _ 209 (nI a) (nI b) (nI 0) (hp S1) = _
        unfold fX10_widest_b14c
        rw [if_pos (by decide)]
        rfl
      · intro k i hi
        show fX10_widest_b14c F _ 209 (nI a) (nI b) (nI (i + 1)) (hp S1) = _
        unfold fX10_widest_b14c
        rw [if_neg (show ¬ nI (i + 1) < (1 : Int32) from nI_nlt (b := 1) (by omega) (by omega))]
        simp only [Option.bind_some, Nat.reduceAdd, openBy_eq F hF m1.2.1 h9 m2.1 wm (show i + 1 ≤ 10 by omega), wayBy_eq F hF m1 htw _ ha hb, pk_m1]
        rw [show (fun t => rch n on ot (fun s => decide (s < n) && opn (wd μ) (i + 1) s) a t b) = fun t => rch n on ot (opn (wd μ) (i + 1)) a t b from funext fun t => by rw [rch_congr a (op := fun s => decide (s < n) && opn (wd μ) (i + 1) s) (op' := opn (wd μ) (i + 1)) (fun s hs => by simp [hs]) t]]
        cases hc : con n on ot (opn (wd μ) (i + 1)) a b
        · rw [if_pos (ffI_con.mpr hc)]
          simp
        · rw [if_neg (fun e => by rw [ffI_con.mp e] at hc; cases hc)]
          simp
  · refine Ok.of hI ⟨-1, ?_, ?_⟩
    · unfold fX9_widest
      simp only [Option.bind_some, Nat.reduceAdd, ob8 kd_0, g8_0 kd_0, g8_1 kd_0, g8_2 kd_0, g8_3 kd_0, g8_4 kd_0, g8_5 kd_0, g8_6 kd_0, g8_7 kd_0, g8_8 kd_0, g8_9 kd_0, p8_5 kd_0, p8_9 kd_0, yards_eq F kt.1, if_neg hx, if_true]
    · unfold fX10_widest
      simp only [Option.bind_some, Nat.reduceAdd, ob9 kd_209, g9_0 kd_209, g9_1 kd_209, g9_2 kd_209, g9_3 kd_209, g9_4 kd_209, g9_5 kd_209, g9_6 kd_209, g9_7 kd_209, g9_8 kd_209, g9_9 kd_209, g9_10 kd_209, g9_11 kd_209, g9_12 kd_209, g9_13 kd_209, g9_14 kd_209, g9_15 kd_209, g9_16 kd_209, g9_17 kd_209, g9_18 kd_209, g9_19 kd_209, g9_20 kd_209, g9_21 kd_209, g9_22 kd_209, g9_23 kd_209, g9_24 kd_209, g9_25 kd_209, p9_1 kd_209, p9_10 kd_209, p9_11 kd_209, p9_12 kd_209, p9_13 kd_209, p9_14 kd_209, p9_15 kd_209, p9_24 kd_209, p9_25 kd_209, areTwo_eq F hm.1.1, if_neg hx, if_true]

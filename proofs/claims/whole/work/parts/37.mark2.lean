theorem Inv.trace {S : ST} (h : Inv S) (v : Int64) : Inv (stT (stT S 0 v) 209 v) := by
  obtain ⟨Y, n, c, on, ot, wn, μ, k, ms, T, tx, f, mw, mn, kp, im, ik, ims, htw, hwa, hk, hm, htr⟩ := h
  exact ⟨Y, n, c, on, ot, wn, μ, k, ms, T, tx, f, mw, mn, kp, im, ik, ims, htw, hwa, hk, hm, by rw [stT_n _ _ (by decide), stT_s, stT_s]⟩
theorem markStreet_eq (F : Nat) {S : ST} {n c s : Nat} {μ : Mo} (hm : MomAt S n c 16 μ) (wm : WM n c μ) (h9 : n ≤ 9) (hs : s < n) : fX9_markAsStreet F (hp S) 0 (nI s) = some (nI (wd μ s), hp (stT S 0 (S.2.2.1 0 + 1))) := by
  unfold fX9_markAsStreet
  simp only [Option.bind_some, Nat.reduceAdd, ob8 kd_0, g8_0 kd_0, g8_1 kd_0, g8_2 kd_0, g8_3 kd_0, g8_4 kd_0, g8_5 kd_0, g8_6 kd_0, g8_7 kd_0, g8_8 kd_0, g8_9 kd_0, p8_5 kd_0, p8_9 kd_0, ob3 kd_15, g3_0 kd_15, g3_1 kd_15, g3_2 kd_15, p3_2 kd_15]
  rw [widthOf_mu F IsM_16 (S := stT S 0 (S.2.2.1 0 + 1)) hm wm h9 hs]
  rfl
theorem markCross_eq (F : Nat) (hF : 4000 ≤ F) {S : ST} {n c s : Nat} {μ : Mo} (hcc : S.2.1 9 2 = nI c) (h6 : c ≤ 6) (hm : MomAt S n c 16 μ) (wm : WM n c μ) (h9 : n ≤ 9) (hs : s < n) : fX9_markAsCross F (hp S) 0 (nI s) = some (nI (wd μ s) + nI (cnt 6 (fun p => decide (p < c) && (μ 3 p == s))), hp (stT S 0 (S.2.2.1 0 + 10 + 1))) := by
  have h1 := markStreet_eq F (S := stT S 0 (S.2.2.1 0 + 10)) hm wm h9 hs
  rw [stT_stT, stT_s] at h1
  have h2 := livingIn_eq F hF (S := stT S 0 (S.2.2.1 0 + 10 + 1)) hcc h6 h9 hm wm hs
  have hb := bc_eq F (hp (stT S 0 (S.2.2.1 0 + 10 + 1))) (fun p => decide (p < c) && (μ 3 p == s)) (show 6 ≤ 9 by omega)
  unfold fX9_markAsCross
  generalize fJ6_bitCount_0f7a4 F = bc at hb ⊢
  simp only [Option.bind_some, Nat.reduceAdd, ob8 kd_0, g8_0 kd_0, g8_1 kd_0, g8_2 kd_0, g8_3 kd_0, g8_4 kd_0, g8_5 kd_0, g8_6 kd_0, g8_7 kd_0, g8_8 kd_0, g8_9 kd_0, p8_5 kd_0, p8_9 kd_0]
  rw [h1]
  simp only [Option.bind_some, Nat.reduceAdd]
  rw [h2]
  simp only [Option.bind_some, Nat.reduceAdd]
  rw [hb]
  rfl
theorem markLane_eq (F : Nat) {S : ST} {n c s : Nat} {μ : Mo} (hm : MomAt S n c 16 μ) (wm : WM n c μ) (h9 : n ≤ 9) (hs : s < n) : fX9_markAsLane F (hp S) 0 (nI s) = some (nI (wd μ s) - nI (μ 1 s), hp (stT S 0 (S.2.2.1 0 + 100 + 1))) := by
  have h1 := markStreet_eq F (S := stT S 0 (S.2.2.1 0 + 100)) hm wm h9 hs
  rw [stT_stT, stT_s] at h1
  unfold fX9_markAsLane
  simp only [Option.bind_some, Nat.reduceAdd, ob8 kd_0, g8_0 kd_0, g8_1 kd_0, g8_2 kd_0, g8_3 kd_0, g8_4 kd_0, g8_5 kd_0, g8_6 kd_0, g8_7 kd_0, g8_8 kd_0, g8_9 kd_0, p8_5 kd_0, p8_9 kd_0]
  rw [h1]
  simp only [Option.bind_some, Nat.reduceAdd, ob8 kd_0, g8_0 kd_0, g8_1 kd_0, g8_2 kd_0, g8_3 kd_0, g8_4 kd_0, g8_5 kd_0, g8_6 kd_0, g8_7 kd_0, g8_8 kd_0, g8_9 kd_0, p8_5 kd_0, p8_9 kd_0, ob3 kd_15, g3_0 kd_15, g3_1 kd_15, g3_2 kd_15, p3_2 kd_15, ob2 kd_16, g2_0 kd_16, g2_1 kd_16, g2_2 kd_16, g2_3 kd_16, g2_4 kd_16, p2_4 kd_16]
  rw [ra (by rfl) (by decide) (by rw [kd_18]; show s < 9; omega)]
  simp only [Option.bind_some, Nat.reduceAdd]
  rw [stT_1]
  exact congrArg (fun z => some (nI (wd μ s) - z, hp (stT S 0 (S.2.2.1 0 + 100 + 1)))) (hm.2.1 s hs)
theorem markAlley_eq (F : Nat) (hF : 4000 ≤ F) {S : ST} {Y n c s : Nat} {on ot wn : Nat → Nat} {μ : Mo} (kt : KT S Y n c on ot wn) (htw : TW Y n c on ot wn) (hm : MomAt S n c 16 μ) (wm : WM n c μ) (hs : s < n) : fX9_markAsAlley F (hp S) 0 (nI s) = some (nI (wd μ s) + nI (cnt 9 (fun t => decide (t < n) && mt on ot s t)), hp (stT S 0 (S.2.2.1 0 + 100000 + 1))) := by
  have h1 := markStreet_eq F (S := stT S 0 (S.2.2.1 0 + 100000)) hm wm htw.2.1 hs
  rw [stT_stT, stT_s] at h1
  have h2 := streetsAt_eq F hF (S := stT S 0 (S.2.2.1 0 + 100000 + 1)) kt htw hs
  have hb := bc_eq F (hp (stT S 0 (S.2.2.1 0 + 100000 + 1))) (fun t => decide (t < n) && mt on ot s t) (show 9 ≤ 9 by omega)
  unfold fX9_markAsAlley
  generalize fJ6_bitCount_0f7a4 F = bc at hb ⊢
  simp only [Option.bind_some, Nat.reduceAdd, ob8 kd_0, g8_0 kd_0, g8_1 kd_0, g8_2 kd_0, g8_3 kd_0, g8_4 kd_0, g8_5 kd_0, g8_6 kd_0, g8_7 kd_0, g8_8 kd_0, g8_9 kd_0, p8_5 kd_0, p8_9 kd_0]
  rw [h1]
  simp only [Option.bind_some, Nat.reduceAdd]
  rw [h2]
  simp only [Option.bind_some, Nat.reduceAdd]
  rw [hb]
  rfl
theorem ts_1 : tsum 1 6 = 1 := by decide
theorem ts_3 : tsum 3 6 = 11 := by decide
theorem ts_5 : tsum 5 6 = 101 := by decide
theorem ts_11 : tsum 11 6 = 1011 := by decide
theorem ts_21 : tsum 21 6 = 10101 := by decide
theorem ts_33 : tsum 33 6 = 100001 := by decide
theorem cnt_false (k : Nat) : cnt k (fun _ => false) = 0 := by
  induction k with
  | zero => rfl
  | succ k ih => simp [cnt, ih]
/-- one kind: what both answer, and THE TRACE of both -/
theorem mark_kind (F : Nat) (hF : 4000 ≤ F) {S : ST} (hI : Inv S) {Y n c : Nat} {on ot wn : Nat → Nat} {μ : Mo} (mt0 : MT S Y n c on ot wn) (htw : TW Y n c on ot wn) (mm : MM S n c μ) (wm : WM n c μ) {s B : Nat} (hs : s < n) (hB : B < 64) (htr : S.2.2.1 0 = S.2.2.1 209) (r : Int32) (a : Int64) (ha : a = S.2.2.1 0 + tsum B 6) (hr : r = mkv (B.testBit 1) (B.testBit 2) (B.testBit 3) (B.testBit 4) (nI (wd μ s)) (nI (cnt 6 (fun p => decide (p < c) && (μ 3 p == s)))) (nI (μ 1 s)) (nI s) + nI (cnt n (fun o => B.testBit 5 && mt on ot s o))) (fk fm : HL → Option (Int32 × HL)) (hk : fk (hp S) = some (r, hp (stT S 0 a))) (hf : fm (hp (stT S 0 a)) = fX10_mark_b31 F F 209 (nI s) (nI B) 1 0 (hp (stT S 0 a))) : Ok S fk fm := by
  have hfr : Fr 0 1 S (stT S 0 a) := Fr.stT (by omega) (by omega)
  have h := mark_model F hF (mt0.fr hfr (by omega)) htw (MM_o.mpr ((MM_o.mp mm).fr hfr (by omega))) wm hs hB
  have e : (stT S 0 a).2.2.1 209 + tsum B 6 = a := by
    rw [stT_n _ _ (by decide), ← htr, ha]
  rw [e] at h
  refine ⟨r, _, _, hk, ?_, hI.trace a⟩
  rw [hf, h, hr]
theorem c_mark (F : Nat) (hF : 4000 ≤ F) {S : ST} (h : Inv S) (x y : Int32) : Ok S (fun L => fX9_mark F L 0 x y) (fun L => fX10_mark F L 209 x y) := by
  have hI := h
  obtain ⟨Y, n, c, on, ot, wn, μ, k, ms, T, tx, f, mw, mn, kp, im, ik, ims, htw, hwa, hk, hm, htr⟩ := h
  have h9 := htw.2.1
  have h6 := htw.2.2.1
  have kt := hk.1
  have km := hk.2.1.1
  have mt0 := hm.1
  have mm := hm.2.1.1
  have wm := hwa.1
  have hcl : ∀ S : ST, S.2.1 9 1 = nI n → fX9_mark F (hp S) 0 x y = (if (if (0 : Int32) ≤ y ∧ y ≤ nI n - 1 then (1 : Int32) else 0) = 0 then (some ((-1000000 : Int32), hp S)) else (if x = 0 then fX9_markAsStreet F (hp S) 0 y else if x = 1 then fX9_markAsCross F (hp S) 0 y else if x = 2 then fX9_markAsLane F (hp S) 0 y else if x = 3 then (fX9_markAsBoulevard F (hp S) 0 y) else if x = 4 then fX9_markAsCourt F (hp S) 0 y else if x = 5 then fX9_markAsAlley F (hp S) 0 y else some ((-1000000), hp S))) := by
    intro S hn
    have ep : ∀ o : Option (Int32 × HL), (o.bind fun z => some (z.1, z.2)) = o := fun o => by cases o <;> rfl
    unfold fX9_mark
    simp only [Option.bind_some, Nat.reduceAdd, ob8 kd_0, g8_0 kd_0, g8_1 kd_0, g8_2 kd_0, g8_3 kd_0, g8_4 kd_0, g8_5 kd_0, g8_6 kd_0, g8_7 kd_0, g8_8 kd_0, g8_9 kd_0, p8_5 kd_0, p8_9 kd_0, isStreet_eq F hn h9, ep]
  have hmd : ∀ S : ST, S.1 212 0 = nI n → fX10_mark F (hp S) 209 x y = (if (if (0 : Int32) ≤ x ∧ x ≤ 5 then (1 : Int32) else 0) = 0 then (some ((-1000000 : Int32), hp S)) else (if (if (0 : Int32) ≤ y ∧ y ≤ nI n - 1 then (1 : Int32) else 0) = 0 then (some ((-1000000 : Int32), hp S)) else ((fX10_bodiesOf F (hp S) x).bind fun z5 => fX10_mark_b31 F F 209 y z5.1 1 0 z5.2))) := by
    intro S hn
    unfold fX10_mark fX10_mark_b17
    simp only [Option.bind_some, Nat.reduceAdd, ob9 kd_209, g9_0 kd_209, g9_1 kd_209, g9_2 kd_209, g9_3 kd_209, g9_4 kd_209, g9_5 kd_209, g9_6 kd_209, g9_7 kd_209, g9_8 kd_209, g9_9 kd_209, g9_10 kd_209, g9_11 kd_209, g9_12 kd_209, g9_13 kd_209, g9_14 kd_209, g9_15 kd_209, g9_16 kd_209, g9_17 kd_209, g9_18 kd_209, g9_19 kd_209, g9_20 kd_209, g9_21 kd_209, g9_22 kd_209, g9_23 kd_209, g9_24 kd_209, g9_25 kd_209, p9_1 kd_209, p9_10 kd_209, p9_11 kd_209, p9_12 kd_209, p9_13 kd_209, p9_14 kd_209, p9_15 kd_209, p9_24 kd_209, p9_25 kd_209, in_eq, mIsStreet_eq F hn]
  rcases rowc y (show n < 2 ^ 30 by omega) with ⟨s, hs, rfl, hy⟩ | hy
  · have hcn : ∀ a, (stT S 0 a).1 212 0 = nI n := fun a => mt0.2.1
    rcases (show (∃ j, 0 ≤ j ∧ j ≤ 5 ∧ x = nI j ∧ ((0 : Int32) ≤ x ∧ x ≤ 5)) ∨ ¬ ((0 : Int32) ≤ x ∧ x ≤ 5) from rngc x 0 5 (by decide) (by decide)) with ⟨j, j0, j5, rfl, hx⟩ | hx
    · rcases (show j = 0 ∨ j = 1 ∨ j = 2 ∨ j = 3 ∨ j = 4 ∨ j = 5 by omega) with rfl | rfl | rfl | rfl | rfl | rfl
      · refine mark_kind F hF hI mt0 htw mm wm hs (B := 1) (by decide) htr (nI (wd μ s)) (S.2.2.1 0 + 1) (by rw [ts_1]) ?_ _ _ ?_ ?_
        · simp [mkv, Nat.testBit, cnt_false]
          rfl
        · show fX9_mark F (hp S) 0 (nI 0) (nI s) = _
          rw [hcl S kt.2.1, if_pos hy, if_neg (by decide), if_pos (by decide), markStreet_eq F km wm h9 hs]
        · show fX10_mark F (hp _) 209 (nI 0) (nI s) = _
          rw [hmd _ (hcn _), if_pos hx, if_neg (by decide), if_pos hy, if_neg (by decide)]
          rfl
      · refine mark_kind F hF hI mt0 htw mm wm hs (B := 3) (by decide) htr (nI (wd μ s) + nI (cnt 6 (fun p => decide (p < c) && (μ 3 p == s)))) (S.2.2.1 0 + 10 + 1) (by rw [ts_3, Int64.add_assoc]; rfl) ?_ _ _ ?_ ?_
        · simp [mkv, Nat.testBit, cnt_false]
          rfl
        · show fX9_mark F (hp S) 0 (nI 1) (nI s) = _
          rw [hcl S kt.2.1, if_pos hy, if_neg (by decide), if_neg (by decide), if_pos (by decide), markCross_eq F hF kt.2.2.1 h6 km wm h9 hs]
        · show fX10_mark F (hp _) 209 (nI 1) (nI s) = _
          rw [hmd _ (hcn _), if_pos hx, if_neg (by decide), if_pos hy, if_neg (by decide)]
          rfl
      · refine mark_kind F hF hI mt0 htw mm wm hs (B := 5) (by decide) htr (nI (wd μ s) - nI (μ 1 s)) (S.2.2.1 0 + 100 + 1) (by rw [ts_5, Int64.add_assoc]; rfl) ?_ _ _ ?_ ?_
        · simp [mkv, Nat.testBit, cnt_false]
          rfl
        · show fX9_mark F (hp S) 0 (nI 2) (nI s) = _
          rw [hcl S kt.2.1, if_pos hy, if_neg (by decide), if_neg (by decide), if_neg (by decide), if_pos (by decide), markLane_eq F km wm h9 hs]
        · show fX10_mark F (hp _) 209 (nI 2) (nI s) = _
          rw [hmd _ (hcn _), if_pos hx, if_neg (by decide), if_pos hy, if_neg (by decide)]
          rfl
      · refine mark_kind F hF hI mt0 htw mm wm hs (B := 11) (by decide) htr ((nI (wd μ s) + nI (cnt 6 (fun p => decide (p < c) && (μ 3 p == s)))) * 2) (S.2.2.1 0 + 1000 + 10 + 1) (by rw [ts_11, Int64.add_assoc, Int64.add_assoc]; rfl) ?_ _ _ ?_ ?_
        · simp [mkv, Nat.testBit, cnt_false, Int32.mul_comm]
          rfl
        · show fX9_mark F (hp S) 0 (nI 3) (nI s) = _
          rw [hcl S kt.2.1, if_pos hy, if_neg (by decide), if_neg (by decide), if_neg (by decide), if_neg (by decide), if_pos (by decide)]
          unfold fX9_markAsBoulevard
          simp only [Option.bind_some, Nat.reduceAdd, ob8 kd_0, g8_0 kd_0, g8_1 kd_0, g8_2 kd_0, g8_3 kd_0, g8_4 kd_0, g8_5 kd_0, g8_6 kd_0, g8_7 kd_0, g8_8 kd_0, g8_9 kd_0, p8_5 kd_0, p8_9 kd_0]
          have hx := markCross_eq F hF (S := stT S 0 (S.2.2.1 0 + 1000)) kt.2.2.1 h6 km wm h9 hs
          rw [stT_stT, stT_s] at hx
          rw [hx]
          rfl
        · show fX10_mark F (hp _) 209 (nI 3) (nI s) = _
          rw [hmd _ (hcn _), if_pos hx, if_neg (by decide), if_pos hy, if_neg (by decide)]
          rfl
      · refine mark_kind F hF hI mt0 htw mm wm hs (B := 21) (by decide) htr (nI (wd μ s) - nI (μ 1 s) + nI s) (S.2.2.1 0 + 10000 + 100 + 1) (by rw [ts_21, Int64.add_assoc, Int64.add_assoc]; rfl) ?_ _ _ ?_ ?_
        · simp [mkv, Nat.testBit, cnt_false]
          rfl
        · show fX9_mark F (hp S) 0 (nI 4) (nI s) = _
          rw [hcl S kt.2.1, if_pos hy, if_neg (by decide), if_neg (by decide), if_neg (by decide), if_neg (by decide), if_neg (by decide), if_pos (by decide)]
          unfold fX9_markAsCourt
          simp only [Option.bind_some, Nat.reduceAdd, ob8 kd_0, g8_0 kd_0, g8_1 kd_0, g8_2 kd_0, g8_3 kd_0, g8_4 kd_0, g8_5 kd_0, g8_6 kd_0, g8_7 kd_0, g8_8 kd_0, g8_9 kd_0, p8_5 kd_0, p8_9 kd_0]
          have hx := markLane_eq F (S := stT S 0 (S.2.2.1 0 + 10000)) km wm h9 hs
          rw [stT_stT, stT_s] at hx
          rw [hx]
          rfl
        · show fX10_mark F (hp _) 209 (nI 4) (nI s) = _
          rw [hmd _ (hcn _), if_pos hx, if_neg (by decide), if_pos hy, if_neg (by decide)]
          rfl
      · refine mark_kind F hF hI mt0 htw mm wm hs (B := 33) (by decide) htr (nI (wd μ s) + nI (cnt n (fun t => mt on ot s t))) (S.2.2.1 0 + 100000 + 1) (by rw [ts_33, Int64.add_assoc]; rfl) ?_ _ _ ?_ ?_
        · simp [mkv, Nat.testBit]
        · show fX9_mark F (hp S) 0 (nI 5) (nI s) = _
          rw [hcl S kt.2.1, if_pos hy, if_neg (by decide), if_neg (by decide), if_neg (by decide), if_neg (by decide), if_neg (by decide), if_neg (by decide), if_pos (by decide), markAlley_eq F hF kt htw km wm hs, cnt_up (fun t => mt on ot s t) h9]
        · show fX10_mark F (hp _) 209 (nI 5) (nI s) = _
          rw [hmd _ (hcn _), if_pos hx, if_neg (by decide), if_pos hy, if_neg (by decide)]
          rfl
    · refine Ok.of hI ⟨-1000000, ?_, ?_⟩
      · show fX9_mark F (hp S) 0 x (nI s) = _
        have hne : ∀ k : Nat, k ≤ 5 → ¬ x = nI k := fun k hk e => hx ⟨by rw [e]; exact nI_pos' (by omega), by rw [e]; exact show nI k ≤ nI 5 from nI_le hk (by decide)⟩
        rw [hcl S kt.2.1, if_pos hy, if_neg (by decide), if_neg (show ¬ x = (0 : Int32) from hne 0 (by omega)), if_neg (show ¬ x = (1 : Int32) from hne 1 (by omega)), if_neg (show ¬ x = (2 : Int32) from hne 2 (by omega)), if_neg (show ¬ x = (3 : Int32) from hne 3 (by omega)), if_neg (show ¬ x = (4 : Int32) from hne 4 (by omega)), if_neg (show ¬ x = (5 : Int32) from hne 5 (by omega))]
      · show fX10_mark F (hp S) 209 x (nI s) = _
        rw [hmd S mt0.2.1, if_neg hx, if_pos rfl]
  · refine Ok.of hI ⟨-1000000, ?_, ?_⟩
    · show fX9_mark F (hp S) 0 x y = _
      rw [hcl S kt.2.1, if_neg hy, if_pos rfl]
    · show fX10_mark F (hp S) 209 x y = _
      rw [hmd S mt0.2.1]
      by_cases hx : (0 : Int32) ≤ x ∧ x ≤ 5
      · rw [if_pos hx, if_neg (by decide), if_neg hy, if_pos rfl]
      · rw [if_neg hx, if_pos rfl]

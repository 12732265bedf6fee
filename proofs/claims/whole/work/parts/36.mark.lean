/-! marks -/
def tsum (B : Nat) : Nat → Int64
  | 0 => 0
  | i + 1 => tsum B i + (if B.testBit i then lN (10 ^ i) else 0)
theorem nI_bs {B k : Nat} (h : B < 2 ^ k) : nI B = bs k (fun i => B.testBit i) := by
  unfold bs
  rw [bsum_of k B h]
theorem stT_stT (S : ST) (q : Nat) (a b : Int64) : stT (stT S q a) q b = stT S q b := by
  unfold stT
  simp only [bx_uu]
theorem stT_id {S : ST} {q : Nat} {v : Int64} (h : v = S.2.2.1 q) : stT S q v = S := by
  have : va_up S.2.2.1 q v = S.2.2.1 := by
    funext b
    rw [va_up_at]
    by_cases hb : b = q
    · rw [if_pos hb, hb]; exact h
    · rw [if_neg hb]
  unfold stT
  rw [this]
theorem m_has (F : Nat) (L : HL) {B k : Nat} (hB : B < 64) (hk : k < 6) : fX10_has F L (nI B) (nI k) = some (if B.testBit k then 1 else 0, L) := by
  rw [nI_bs (k := 6) hB]
  exact mHas_eq F L _ (by omega) hk
theorem mark_meets (F : Nat) (hF : 4000 ≤ F) {S : ST} {Y n c : Nat} {on ot wn : Nat → Nat} (mt0 : MT S Y n c on ot wn) (htw : TW Y n c on ot wn) {s B : Nat} (hs : s < n) (hB : B < 64) (v : Int32) : fX10_mark_b174 F F 209 (nI s) (nI B) v 0 (hp S) = some (v + nI (cnt n (fun o => B.testBit 5 && mt on ot s o)), hp S) := by
  have h9 := htw.2.1
  have := loopA (fun k i st => fX10_mark_b174 F k 209 (nI s) (nI B) st (nI i) (hp S)) n (fun i => v + nI (cnt i (fun o => B.testBit 5 && mt on ot s o))) (some (v + nI (cnt n (fun o => B.testBit 5 && mt on ot s o)), hp S)) ?_ ?_ F 0 (by omega) (by omega)
  · have e : v + nI (cnt 0 (fun o => B.testBit 5 && mt on ot s o)) = v := by
      show v + 0 = v
      exact Int32.add_zero v
    rw [e] at this
    exact this
  · intro k
    show fX10_mark_b174c F _ 209 (nI s) (nI B) _ (nI n) (hp S) = _
    unfold fX10_mark_b174c
    simp only [Option.bind_some, Nat.reduceAdd, ob9 kd_209, g9_0 kd_209, g9_1 kd_209, g9_2 kd_209, g9_3 kd_209, g9_4 kd_209, g9_5 kd_209, g9_6 kd_209, g9_7 kd_209, g9_8 kd_209, g9_9 kd_209, g9_10 kd_209, g9_11 kd_209, g9_12 kd_209, g9_13 kd_209, g9_14 kd_209, g9_15 kd_209, g9_16 kd_209, g9_17 kd_209, g9_18 kd_209, g9_19 kd_209, g9_20 kd_209, g9_21 kd_209, g9_22 kd_209, g9_23 kd_209, g9_24 kd_209, g9_25 kd_209, p9_1 kd_209, p9_10 kd_209, p9_11 kd_209, p9_12 kd_209, p9_13 kd_209, p9_14 kd_209, p9_15 kd_209, p9_24 kd_209, p9_25 kd_209, m212_0, mt0.2.1]
    rw [if_pos (nI_le (Nat.le_refl _) (by omega))]
  · intro k i hi
    have hh : fX10_has F (hp S) (nI B) 5 = some (if B.testBit 5 then 1 else 0, hp S) := m_has F _ hB (k := 5) (by omega)
    show fX10_mark_b174c F _ 209 (nI s) (nI B) _ (nI i) (hp S) = _
    unfold fX10_mark_b174c fX10_mark_b209 fX10_mark_b210
    simp only [Option.bind_some, Nat.reduceAdd, ob9 kd_209, g9_0 kd_209, g9_1 kd_209, g9_2 kd_209, g9_3 kd_209, g9_4 kd_209, g9_5 kd_209, g9_6 kd_209, g9_7 kd_209, g9_8 kd_209, g9_9 kd_209, g9_10 kd_209, g9_11 kd_209, g9_12 kd_209, g9_13 kd_209, g9_14 kd_209, g9_15 kd_209, g9_16 kd_209, g9_17 kd_209, g9_18 kd_209, g9_19 kd_209, g9_20 kd_209, g9_21 kd_209, g9_22 kd_209, g9_23 kd_209, g9_24 kd_209, g9_25 kd_209, p9_1 kd_209, p9_10 kd_209, p9_11 kd_209, p9_12 kd_209, p9_13 kd_209, p9_14 kd_209, p9_15 kd_209, p9_24 kd_209, p9_25 kd_209, m212_0, mt0.2.1, hh, doMeet_eq F mt0 htw hs hi, nI_1]
    rw [if_neg (nI_ge hi (by omega))]
    have ea : ∀ d : Nat, v + nI (cnt i (fun o => B.testBit 5 && mt on ot s o)) + nI d = v + nI (cnt i (fun o => B.testBit 5 && mt on ot s o) + d) := fun d => by rw [Int32.add_assoc, nI_add]
    have e0 := ea 0
    have e1 := ea 1
    cases hb : B.testBit 5
    · simp only [hb, Bool.false_and] at e0 ⊢
      simp only [cnt, if_true]
      rw [if_pos (by rfl)]
      exact congrArg (fun z => fX10_mark_b174 F k 209 (nI s) (nI B) z (nI (i + 1)) (hp S)) e0
    · cases hm : mt on ot s i
      · simp only [hb, Bool.true_and, hm, if_true, e10, if_false, cnt] at e0 ⊢
        rw [if_pos (by rfl)]
        exact congrArg (fun z => fX10_mark_b174 F k 209 (nI s) (nI B) z (nI (i + 1)) (hp S)) e0
      · simp only [hb, Bool.true_and, hm, if_true, e10, if_false, cnt] at e1 ⊢
        exact congrArg (fun z => fX10_mark_b174 F k 209 (nI s) (nI B) z (nI (i + 1)) (hp S)) e1
def mkv (b1 b2 b3 b4 : Bool) (w l h s : Int32) : Int32 := (if b3 then 2 * (w + (if b1 then l else 0) - (if b2 then h else 0)) else w + (if b1 then l else 0) - (if b2 then h else 0)) + (if b4 then s else 0)
theorem mark_model (F : Nat) (hF : 4000 ≤ F) {S : ST} {Y n c : Nat} {on ot wn : Nat → Nat} {μ : Mo} (mt0 : MT S Y n c on ot wn) (htw : TW Y n c on ot wn) (mm : MM S n c μ) (wm : WM n c μ) {s B : Nat} (hs : s < n) (hB : B < 64) : fX10_mark_b31 F F 209 (nI s) (nI B) 1 0 (hp S) = some (mkv (B.testBit 1) (B.testBit 2) (B.testBit 3) (B.testBit 4) (nI (wd μ s)) (nI (cnt 6 (fun p => decide (p < c) && (μ 3 p == s)))) (nI (μ 1 s)) (nI s) + nI (cnt n (fun o => B.testBit 5 && mt on ot s o)), hp (stT S 209 (S.2.2.1 209 + tsum B 6))) := by
  have h9 := htw.2.1
  have h6 := htw.2.2.1
  have hfr : ∀ v : Int64, Fr 209 210 S (stT S 209 v) := fun v => Fr.stT (by omega) (by omega)
  have := loopA (fun k i (st : Int64 × ST) => fX10_mark_b31 F k 209 (nI s) (nI B) st.1 (nI i) (hp st.2)) 6 (fun i => (lN (10 ^ i), stT S 209 (S.2.2.1 209 + tsum B i))) (some (mkv (B.testBit 1) (B.testBit 2) (B.testBit 3) (B.testBit 4) (nI (wd μ s)) (nI (cnt 6 (fun p => decide (p < c) && (μ 3 p == s)))) (nI (μ 1 s)) (nI s) + nI (cnt n (fun o => B.testBit 5 && mt on ot s o)), hp (stT S 209 (S.2.2.1 209 + tsum B 6)))) ?_ ?_ F 0 (by omega) (by omega)
  · have e : stT S 209 (S.2.2.1 209 + tsum B 0) = S := stT_id (Int64.add_zero _)
    dsimp only at this
    rw [e] at this
    exact this
  · intro k
    have mt1 := mt0.fr (hfr (S.2.2.1 209 + tsum B 6)) (by omega)
    have mm1 := MM_o.mpr ((MM_o.mp mm).fr (hfr (S.2.2.1 209 + tsum B 6)) (by omega))
    generalize stT S 209 (S.2.2.1 209 + tsum B 6) = S1 at mt1 mm1 ⊢
    have q18 : o_aI (hp S1) 219 0 (nI (10 + s)) = some (nI (μ 1 s)) := by rw [ra (by rfl) (by decide) (by rw [kd_219]; show 10 + s < 34; omega), mm1.2.2.1 s hs]
    have g1 : fX10_has F (hp S1) (nI B) 1 = some (if B.testBit 1 then 1 else 0, hp S1) := m_has F _ hB (k := 1) (by omega)
    have g2 : fX10_has F (hp S1) (nI B) 2 = some (if B.testBit 2 then 1 else 0, hp S1) := m_has F _ hB (k := 2) (by omega)
    have g3 : fX10_has F (hp S1) (nI B) 3 = some (if B.testBit 3 then 1 else 0, hp S1) := m_has F _ hB (k := 3) (by omega)
    have g4 : fX10_has F (hp S1) (nI B) 4 = some (if B.testBit 4 then 1 else 0, hp S1) := m_has F _ hB (k := 4) (by omega)
    show fX10_mark_b31c F _ 209 (nI s) (nI B) _ (nI 6) (hp S1) = _
    unfold fX10_mark_b31c
    rw [if_pos (by decide)]
    unfold fX10_mark_b105 fX10_mark_b131 fX10_mark_b151 fX10_mark_b168
    simp only [Option.bind_some, Nat.reduceAdd, ob9 kd_209, g9_0 kd_209, g9_1 kd_209, g9_2 kd_209, g9_3 kd_209, g9_4 kd_209, g9_5 kd_209, g9_6 kd_209, g9_7 kd_209, g9_8 kd_209, g9_9 kd_209, g9_10 kd_209, g9_11 kd_209, g9_12 kd_209, g9_13 kd_209, g9_14 kd_209, g9_15 kd_209, g9_16 kd_209, g9_17 kd_209, g9_18 kd_209, g9_19 kd_209, g9_20 kd_209, g9_21 kd_209, g9_22 kd_209, g9_23 kd_209, g9_24 kd_209, g9_25 kd_209, p9_1 kd_209, p9_10 kd_209, p9_11 kd_209, p9_12 kd_209, p9_13 kd_209, p9_14 kd_209, p9_15 kd_209, p9_24 kd_209, p9_25 kd_209, mWidthOf_eq F mm1 wm h9 hs, g1, g2, g3, g4, mLivingIn_eq F hF mt1.2.2.1 h6 h9 mm1 wm hs, bitsOf_eq F hF _ (fun p => decide (p < c) && (μ 3 p == s)) (show 6 ≤ 10 by omega), la10, q18, mark_meets F hF mt1 htw hs hB]
    unfold mkv
    cases B.testBit 1 <;> cases B.testBit 2 <;> cases B.testBit 3 <;> cases B.testBit 4 <;> simp only [if_true, e10, if_false, Bool.false_eq_true]
  · intro k i hi
    have hv : (stT S 209 (S.2.2.1 209 + tsum B i)).2.2.1 209 = S.2.2.1 209 + tsum B i := stT_s _ _ _
    show fX10_mark_b31c F _ 209 (nI s) (nI B) (lN (10 ^ i)) (nI i) (hp (stT S 209 (S.2.2.1 209 + tsum B i))) = fX10_mark_b31 F k 209 (nI s) (nI B) (lN (10 ^ (i + 1))) (nI (i + 1)) (hp (stT S 209 (S.2.2.1 209 + tsum B (i + 1))))
    unfold fX10_mark_b31c fX10_mark_b58
    rw [if_neg (show ¬ (6 : Int32) ≤ nI i from nI_ge (b := 6) hi (by decide))]
    simp only [Option.bind_some, Nat.reduceAdd, ob9 kd_209, g9_0 kd_209, g9_1 kd_209, g9_2 kd_209, g9_3 kd_209, g9_4 kd_209, g9_5 kd_209, g9_6 kd_209, g9_7 kd_209, g9_8 kd_209, g9_9 kd_209, g9_10 kd_209, g9_11 kd_209, g9_12 kd_209, g9_13 kd_209, g9_14 kd_209, g9_15 kd_209, g9_16 kd_209, g9_17 kd_209, g9_18 kd_209, g9_19 kd_209, g9_20 kd_209, g9_21 kd_209, g9_22 kd_209, g9_23 kd_209, g9_24 kd_209, g9_25 kd_209, p9_1 kd_209, p9_10 kd_209, p9_11 kd_209, p9_12 kd_209, p9_13 kd_209, p9_14 kd_209, p9_15 kd_209, p9_24 kd_209, p9_25 kd_209, hv, m_has F _ hB hi, nI_1, stT_stT]
    have e1 : lN (10 ^ i) * 10 = lN (10 ^ (i + 1)) := by
      show lN (10 ^ i) * lN 10 = _
      rw [lN_mul, Nat.pow_succ]
    rw [e1]
    simp only [tsum]
    cases B.testBit i
    · simp only [if_true, Bool.false_eq_true, if_false, Int64.add_zero]
    · simp only [e10, if_false, if_true, Int64.add_assoc]

/-! need -/
def prS (S : ST) (pr : Nat → Nat) : ST := stI S 195 (fun j => if j < 8 then nI (pr j) else S.1 195 j)
theorem prS_rd (S : ST) (pr : Nat → Nat) {j : Nat} (hj : j < 8) : o_aI (hp (prS S pr)) 195 0 (nI j) = some (nI (pr j)) := by
  rw [ra (by rfl) (by decide) (by rw [kd_195]; exact hj)]
  unfold prS
  rw [stI_s, if_pos hj]
theorem prS_wr (S : ST) (pr : Nat → Nat) {j v : Nat} (hj : j < 8) : o_sI (hp (prS S pr)) 195 0 (nI j) (nI v) = some (hp (prS S (upN pr j v))) := by
  rw [wa (by rfl) (by decide) (by rw [kd_195]; exact hj)]
  unfold prS
  rw [stI_stI, stI_s]
  congr 3
  funext i
  rw [upd_at]
  by_cases hi : i = j
  · rw [if_pos hi, hi, if_pos hj, upN_s]
  · rw [if_neg hi, upN_n _ hi]
theorem prS_fr (S : ST) (pr : Nat → Nat) : Fr 195 196 S (prS S pr) := Fr.stI (by omega) (by omega)
theorem PL.fr {S S' : ST} {q Y n c lo hi : Nat} {on ot wn wi : Nat → Nat} (h : PL S q Y n c on ot wn wi) (hf : Fr lo hi S S') (hq : q + 7 ≤ lo ∨ hi ≤ q) : PL S' q Y n c on ot wn wi := by
  obtain ⟨k1, k2, k3, k4, k5, k6, k7⟩ := h
  have a0 := (hf q (by omega)).2.1
  exact ⟨by rw [a0]; exact k1, by rw [a0]; exact k2, by rw [a0]; exact k3, fun s hs => by rw [(hf (q + 1) (by omega)).1]; exact k4 s hs, fun s hs => by rw [(hf (q + 2) (by omega)).1]; exact k5 s hs, fun s hs => by rw [(hf (q + 5) (by omega)).1]; exact k6 s hs, fun s hs => by rw [(hf (q + 6) (by omega)).1]; exact k7 s hs⟩
theorem nmin {a b : Nat} (ha : a < 2 ^ 31) (hb : b < 2 ^ 31) : (if nI b < nI a then nI b else nI a) = nI (min a b) := by
  by_cases h : b < a
  · rw [if_pos (nI_lt h ha), Nat.min_eq_right (by omega)]
  · rw [if_neg (nI_nlt (by omega) hb), Nat.min_eq_left (by omega)]
theorem goBoth_eq (F : Nat) {S : ST} {Y n c : Nat} {on ot wn wi pr : Nat → Nat} (hp0 : PL S 188 Y n c on ot wn wi) (hw : TW Y n c on ot wn) (hpr : ∀ y, pr y ≤ FR) {s e : Nat} (hs : s < n) (he : e ≤ 1024) : fX8_goBothWays F (hp (prS S pr)) 187 (nI s) (nI e) = some (hp (prS S (gb on ot s e pr))) := by
  have hFR : FR = 1073741824 := rfl
  have hon := on_8 hw s hs
  have hne := (hw.2.2.2.1 s hs).2.2
  have hn := hw.2.1
  have r1 : o_aI (hp (prS S pr)) 189 0 (nI s) = some (nI (on s)) := by
    rw [ra (by rfl) (by decide) (by rw [kd_189]; show s < 9; omega)]
    exact congrArg some (by rw [(prS_fr S pr 189 (by omega)).1]; exact hp0.2.2.2.1 s hs)
  have r2 : o_aI (hp (prS S pr)) 190 0 (nI s) = some (nI (ot s)) := by
    rw [ra (by rfl) (by decide) (by rw [kd_190]; show s < 9; omega)]
    exact congrArg some (by rw [(prS_fr S pr 190 (by omega)).1]; exact hp0.2.2.2.2.1 s hs)
  have b1 := hpr (on s)
  have b2 := hpr (ot s)
  unfold fX8_goBothWays
  simp only [Option.bind_some, Nat.reduceAdd, ob7 kd_187, g7_0 kd_187, g7_1 kd_187, ob4 kd_188, g4_0 kd_188, g4_1 kd_188, g4_2 kd_188, g4_3 kd_188, g4_4 kd_188, g4_5 kd_188, g4_6 kd_188, g4_7 kd_188, g4_8 kd_188, p4_0 kd_188, p4_1 kd_188, p4_2 kd_188, r1, r2, prS_rd S pr hon.1, prS_rd S pr hon.2, nI_add]
  rw [nmin (by omega) (by omega), prS_wr S pr hon.1]
  simp only [Option.bind_some, Nat.reduceAdd, ob7 kd_187, g7_0 kd_187, g7_1 kd_187, prS_rd S _ hon.1, prS_rd S _ hon.2, nI_add, upN_s]
  rw [upN_n _ (fun e => hne e.symm), nmin (by omega) (by omega), prS_wr S _ hon.2]
  simp only [Option.bind_some, Nat.reduceAdd]
  rfl
theorem ek_le (op : Nat → Bool) {s : Nat} (hs : s < 9) : ek op s ≤ 1024 := by
  unfold ek kw
  have : 2 ^ s ≤ 2 ^ 8 := Nat.pow_le_pow_right (by omega) (by omega)
  show (if op s = true then 0 else 0 * 8192 + 512 + 2 ^ s) ≤ 1024
  split <;> omega
theorem price_round (F : Nat) (hF : 4000 ≤ F) {S : ST} {Y n c : Nat} {on ot wn wi pr : Nat → Nat} {a : Nat} (hp0 : PL S 188 Y n c on ot wn wi) (hw : TW Y n c on ot wn) (hwi : ∀ s, s < n → wi s ≤ 10) {w : Nat} (hw10 : w ≤ 10) (hJ : ∀ k, k ≤ n → ∀ y, rlx on ot (ek (opn wi w)) pr k y ≤ FR) (K : Nat → Int32 → Int32 → Int32 → HL → Option (Int32 × HL)) (b x : Int32) : fX8_leastPrice_b34 F K F 187 b (nI w) x 0 (hp (prS S pr)) = K 187 b (nI w) (x + 1) (hp (prS S (rlx on ot (ek (opn wi w)) pr n))) := by
  have hn := hw.2.1
  have := loopA (fun k i st => fX8_leastPrice_b34 F K k 187 b (nI w) x (nI i) (hp st)) n (fun i => prS S (rlx on ot (ek (opn wi w)) pr i)) (K 187 b (nI w) (x + 1) (hp (prS S (rlx on ot (ek (opn wi w)) pr n)))) ?_ ?_ F 0 (by omega) (by omega)
  · exact this
  · intro k
    have pl := hp0.fr (prS_fr S (rlx on ot (ek (opn wi w)) pr n)) (by omega)
    show fX8_leastPrice_b34c F K _ 187 b (nI w) x (nI n) (hp (prS S _)) = _
    unfold fX8_leastPrice_b34c
    simp only [Option.bind_some, Nat.reduceAdd, ob7 kd_187, g7_0 kd_187, g7_1 kd_187, ob4 kd_188, g4_0 kd_188, g4_1 kd_188, g4_2 kd_188, g4_3 kd_188, g4_4 kd_188, g4_5 kd_188, g4_6 kd_188, g4_7 kd_188, g4_8 kd_188, p4_0 kd_188, p4_1 kd_188, p4_2 kd_188, pl.2.1]
    rw [if_pos (nI_le (Nat.le_refl _) (by omega))]
  · intro k i hi
    have hwii := hwi i hi
    have pl := hp0.fr (prS_fr S (rlx on ot (ek (opn wi w)) pr i)) (by omega)
    have r6 : o_aI (hp (prS S (rlx on ot (ek (opn wi w)) pr i))) 194 0 (nI i) = some (nI (wi i)) := by
      rw [ra (by rfl) (by decide) (by rw [kd_194]; show i < 9; omega)]
      exact congrArg some (pl.2.2.2.2.2.2 i hi)
    have ge := goBoth_eq F hp0 hw (hJ i (by omega)) hi (ek_le (opn wi w) (show i < 9 by omega))
    show fX8_leastPrice_b34c F K _ 187 b (nI w) x (nI i) (hp (prS S _)) = _
    unfold fX8_leastPrice_b34c fX8_leastPrice_b75
    simp only [Option.bind_some, Nat.reduceAdd, ob7 kd_187, g7_0 kd_187, g7_1 kd_187, ob4 kd_188, g4_0 kd_188, g4_1 kd_188, g4_2 kd_188, g4_3 kd_188, g4_4 kd_188, g4_5 kd_188, g4_6 kd_188, g4_7 kd_188, g4_8 kd_188, p4_0 kd_188, p4_1 kd_188, p4_2 kd_188, pl.2.1, r6]
    rw [if_neg (nI_ge hi (by omega))]
    by_cases h : w ≤ wi i
    · have e0 : ek (opn wi w) i = 0 := by unfold ek; rw [if_pos (show opn wi w i = true from decide_eq_true h)]
      rw [e0] at ge
      rw [if_neg (nI_nlt h (by omega)), show (0 : Int32) = nI 0 from rfl, ge]
      simp only [Option.bind_some, Nat.reduceAdd, nI_1]
      show _ = fX8_leastPrice_b34 F K k 187 b (nI w) x (nI (i + 1)) (hp (prS S (gb on ot i (ek (opn wi w) i) (rlx on ot (ek (opn wi w)) pr i))))
      rw [e0]
    · have e0 : ek (opn wi w) i = 512 + 2 ^ i := by
        unfold ek kw
        rw [if_neg (show ¬ opn wi w i = true from fun e => h (of_decide_eq_true e))]
        show 0 * 8192 + 512 + 2 ^ i = 512 + 2 ^ i
        omega
      rw [e0] at ge
      rw [if_pos (nI_lt (by omega) (by omega)), sh1 (by omega), show (512 : Int32) = nI 512 from rfl, nI_add, ge]
      simp only [Option.bind_some, Nat.reduceAdd, nI_1]
      show _ = fX8_leastPrice_b34 F K k 187 b (nI w) x (nI (i + 1)) (hp (prS S (gb on ot i (ek (opn wi w) i) (rlx on ot (ek (opn wi w)) pr i))))
      rw [e0]
theorem leastPrice_eq (F : Nat) (hF : 4000 ≤ F) {S : ST} {Y n c : Nat} {on ot wn wi : Nat → Nat} (hp0 : PL S 188 Y n c on ot wn wi) (hw : TW Y n c on ot wn) (hwi : ∀ s, s < n → wi s ≤ 10) {a b w : Nat} (ha : a < Y) (hb : b < Y) (hw10 : w ≤ 10) : fX8_leastPrice F (hp S) 187 (nI a) (nI b) (nI w) = some (nI (rds n on ot (ek (opn wi w)) a (Y - 1) b), hp (prS S (rds n on ot (ek (opn wi w)) a (Y - 1)))) := by
  have y2 := hw.1.2
  have y1 := hw.1.1
  have hne : ∀ s, s < n → on s ≠ ot s := fun s hs => (hw.2.2.2.1 s hs).2.2
  unfold fX8_leastPrice
  simp only [Option.bind_some, Nat.reduceAdd, ob7 kd_187, g7_0 kd_187, g7_1 kd_187, fill_eq F hF (q := 195) (n := 8) rfl]
  have e0 : stI S 195 (fun j => if j < 8 then (1073741824 : Int32) else S.1 195 j) = prS S (fun _ => FR) := rfl
  rw [e0, show (0 : Int32) = nI 0 from rfl, prS_wr S _ (show a < 8 by omega)]
  simp only [Option.bind_some, Nat.reduceAdd]
  have := loopA (fun k i st => fX8_leastPrice_b19 F k 187 (nI b) (nI w) (nI (i + 1)) (hp st)) (Y - 1) (fun i => prS S (rds n on ot (ek (opn wi w)) a i)) (some (nI (rds n on ot (ek (opn wi w)) a (Y - 1) b), hp (prS S (rds n on ot (ek (opn wi w)) a (Y - 1))))) ?_ ?_ F 0 (by omega) (by omega)
  · exact this
  · intro k
    have pl := hp0.fr (prS_fr S (rds n on ot (ek (opn wi w)) a (Y - 1))) (by omega)
    show fX8_leastPrice_b19c F _ 187 (nI b) (nI w) (nI (Y - 1 + 1)) (hp (prS S _)) = _
    unfold fX8_leastPrice_b19c
    simp only [Option.bind_some, Nat.reduceAdd, ob7 kd_187, g7_0 kd_187, g7_1 kd_187, ob4 kd_188, g4_0 kd_188, g4_1 kd_188, g4_2 kd_188, g4_3 kd_188, g4_4 kd_188, g4_5 kd_188, g4_6 kd_188, g4_7 kd_188, g4_8 kd_188, p4_0 kd_188, p4_1 kd_188, p4_2 kd_188, pl.1]
    rw [if_pos (nI_le (by omega) (by omega)), prS_rd S _ (show b < 8 by omega)]
    simp only [Option.bind_some, Nat.reduceAdd]
  · intro k i hi
    have pl := hp0.fr (prS_fr S (rds n on ot (ek (opn wi w)) a i)) (by omega)
    have hJ := Jp_rds (n := n) (on := on) (ot := ot) (op := opn wi w) (a := a) (by omega) (on_8 hw) hne i
    show fX8_leastPrice_b19c F _ 187 (nI b) (nI w) (nI (i + 1)) (hp (prS S _)) = _
    unfold fX8_leastPrice_b19c
    simp only [Option.bind_some, Nat.reduceAdd, ob7 kd_187, g7_0 kd_187, g7_1 kd_187, ob4 kd_188, g4_0 kd_188, g4_1 kd_188, g4_2 kd_188, g4_3 kd_188, g4_4 kd_188, g4_5 kd_188, g4_6 kd_188, g4_7 kd_188, g4_8 kd_188, p4_0 kd_188, p4_1 kd_188, p4_2 kd_188, pl.1]
    rw [if_neg (nI_ge (by omega) (by omega)), price_round F hF (a := a) hp0 hw hwi hw10 (fun k hk y => (Jp_rlx (by omega) (on_8 hw) hne hJ k hk y).1), nI_1]
    rfl
theorem sset0 (n : Nat) (D : Nat → Bool) : sset n D (fun _ => 0) = 0 := by
  unfold sset
  induction n with
  | zero => rfl
  | succ n ih => simp only [sumN]; rw [ih]; simp
theorem mneed_eq (F : Nat) (hF : 4000 ≤ F) {S : ST} {Y n c : Nat} {on ot wn : Nat → Nat} {μ : Mo} (mt0 : MT S Y n c on ot wn) (hw : TW Y n c on ot wn) {a b : Nat} (ha : a < Y) (hb : b < Y) (op : Nat → Bool) (K : Nat) (hK : K = mnN (2 ^ n) (fun m => if con n on ot (fun s => op s || m.testBit s) a b then sset n (fun s => m.testBit s) (kw (fun _ => 0)) else FR)) : fX10_need_b42 F F 209 (nI a) (nI b) (bs 9 (fun s => decide (s < n) && op s)) (nI (2 ^ n - 1)) (-9) 0 (hp S) = some (if K = FR then -9 else nI (K % 512), hp S) := by
  have h9 := hw.2.1
  have y2 := hw.1.2
  have hn1 : 2 ^ n ≤ 2 ^ 9 := Nat.pow_le_pow_right (by omega) h9
  have hn2 : 1 ≤ 2 ^ n := Nat.one_le_two_pow
  have hFR : FR = 1073741824 := rfl
  generalize hg : (fun m : Nat => if con n on ot (fun s => op s || m.testBit s) a b then sset n (fun s => m.testBit s) (kw (fun _ => 0)) else FR) = g at hK
  have hgi : ∀ i, g i = if con n on ot (fun s => op s || i.testBit s) a b then sset n (fun s => i.testBit s) (kw (fun _ => 0)) else FR := fun i => by rw [← hg]
  generalize hO : bs 9 (fun s => decide (s < n) && op s) = O
  have := loopA (fun k i (st : Int32) => fX10_need_b42 F k 209 (nI a) (nI b) O (nI (2 ^ n - 1)) st (nI i) (hp S)) (2 ^ n) (fun i => if mnN i g = FR then -9 else nI (mnN i g % 512)) (some (if K = FR then -9 else nI (K % 512), hp S)) ?_ ?_ F 0 (by omega) (by omega)
  · exact this
  · intro k
    show fX10_need_b42c F _ 209 (nI a) (nI b) O (nI (2 ^ n - 1)) _ (nI (2 ^ n)) (hp S) = _
    unfold fX10_need_b42c
    rw [if_pos (nI_lt (by omega) (by omega)), ← hK]
  · intro k i hi
    obtain ⟨p1, p2, p3, p4⟩ := key_parts (wi := fun _ => 0) h9 hi (fun s _ => by omega)
    rw [sset0] at p1
    have hi9 : nI i = bs 9 (fun s => i.testBit s) := nI_bs (by omega)
    show fX10_need_b42c F _ 209 (nI a) (nI b) O (nI (2 ^ n - 1)) _ (nI i) (hp S) = _
    have v2 : fX10_bitsOf F (hp S) (nI i) = some (nI (cnt n (fun s => i.testBit s)), hp S) := by rw [hi9, bitsOf_eq F hF _ _ (by omega), cnt_bits hi h9]
    have v3 : fX10_wayBy F (hp S) 209 (nI a) (nI b) (O ||| nI i) = some (ffI 8 (fun t => rch n on ot (fun s => (decide (s < n) && op s) || i.testBit s) a t b), hp S) := by
      rw [← hO, hi9, bs_or, wayBy_eq F hF mt0 hw _ ha hb]
    have v4 : con n on ot (fun s => (decide (s < n) && op s) || i.testBit s) a b = con n on ot (fun s => op s || i.testBit s) a b := con_congr (fun s hs => by simp [hs])
    have yes : ∀ f : Int32, fX10_need_b69 F (fX10_need_b42 F k) 209 (nI a) (nI b) O (nI (2 ^ n - 1)) f (nI i) (hp S) = if con n on ot (fun s => op s || i.testBit s) a b then fX10_need_b42 F k 209 (nI a) (nI b) O (nI (2 ^ n - 1)) (nI i) (nI (i + 1)) (hp S) else fX10_need_b42 F k 209 (nI a) (nI b) O (nI (2 ^ n - 1)) f (nI (i + 1)) (hp S) := by
      intro f
      unfold fX10_need_b69 fX10_need_b89
      simp only [v3, Option.bind_some, Nat.reduceAdd, ffI_dec, v4, nI_1]
    have no : ∀ f : Int32, fX10_need_b89 F (fX10_need_b42 F k) 209 (nI a) (nI b) O (nI (2 ^ n - 1)) f (nI i) (hp S) = fX10_need_b42 F k 209 (nI a) (nI b) O (nI (2 ^ n - 1)) f (nI (i + 1)) (hp S) := by
      intro f
      unfold fX10_need_b89
      simp only [nI_1]
    unfold fX10_need_b42c
    simp only [v2, Option.bind_some, Nat.reduceAdd, yes, no]
    rw [if_neg (nI_nlt (by omega) (by omega))]
    have hM := mnN_at i g
    have hM0 := mnN_le0 i g
    have es : mnN (i + 1) g = min (mnN i g) (g i) := rfl
    rw [es, hgi i]
    rcases hM with hM | ⟨j, hj, hM⟩
    · rw [hM]
      simp only [if_true]
      cases con n on ot (fun s => op s || i.testBit s) a b
      · simp only [Bool.false_eq_true, if_false]
        rw [Nat.min_self, if_pos rfl]
      · simp only [if_true]
        rw [Nat.min_eq_right (by omega), p1, if_neg (by omega)]
        congr 2
        omega
    · rw [hM] at hM0 ⊢
      rw [hgi j] at hM0 ⊢
      cases hcj : con n on ot (fun s => op s || j.testBit s) a b
      · simp only [Bool.false_eq_true, if_false, if_true]
        cases con n on ot (fun s => op s || i.testBit s) a b
        · simp only [Bool.false_eq_true, if_false]
          rw [Nat.min_self, if_pos rfl]
        · simp only [if_true]
          rw [Nat.min_eq_right (by omega), p1, if_neg (by omega)]
          congr 2
          omega
      · simp only [if_true]
        obtain ⟨q1, q2, q3, q4⟩ := key_parts (wi := fun _ => 0) (m := j) h9 (by omega) (fun s _ => by omega)
        rw [sset0] at q1
        have hj9 : nI j = bs 9 (fun s => j.testBit s) := nI_bs (by omega)
        have u2 : fX10_bitsOf F (hp S) (nI j) = some (nI (cnt n (fun s => j.testBit s)), hp S) := by rw [hj9, bitsOf_eq F hF _ _ (by omega), cnt_bits (by omega) h9]
        rw [q1, p1]
        generalize cnt n (fun s => i.testBit s) = A at *
        generalize cnt n (fun s => j.testBit s) = B at *
        have ej1 : (8192 * 0 + 512 * B + j) % 512 = j := by omega
        have ei1 : (8192 * 0 + 512 * A + i) % 512 = i := by omega
        have nf : ¬ 8192 * 0 + 512 * B + j = FR := by omega
        simp only [if_neg nf, ej1, v2, u2, Option.bind_some, Nat.reduceAdd, yes, no]
        rw [if_neg (nI_m9 (by omega))]
        cases con n on ot (fun s => op s || i.testBit s) a b
        · simp only [Bool.false_eq_true, if_false]
          rw [Nat.min_eq_left (by omega), if_neg nf, ej1]
          split <;> rfl
        · simp only [if_true]
          by_cases h3 : B ≤ A
          · rw [if_pos (nI_le h3 (by omega)), Nat.min_eq_left (by omega), if_neg nf, ej1]
          · rw [if_neg (nI_ge (by omega) (by omega)), Nat.min_eq_right (by omega), if_neg (by omega), ei1]
theorem c_need (F : Nat) (hF : 4000 ≤ F) {S : ST} (h : Inv S) (x y z : Int32) : Ok S (fun L => fX9_need F L 0 x y z) (fun L => fX10_need F L 209 x y z) := by
  have hI := h
  obtain ⟨Y, n, c, on, ot, wn, μ, k, ms, T, tx, f, mw, mn, kp, im, ik, ims, htw, hwa, hk, hm, htr⟩ := h
  have h9 := htw.2.1
  have h6 := htw.2.2.1
  have kt := hk.1
  have km := hk.2.1.1
  have wm := hwa.1
  have hFR : FR = 1073741824 := rfl
  rcases twoc x y htw.1.2 with ⟨a, b, ha, hb, hab, rfl, rfl, hx⟩ | hx
  · rcases rng1_10 z with ⟨w, w1, w2, rfl, hz⟩ | hz
    · obtain ⟨S1, e1, f1, p1⟩ := waysNow_eq F hF h9 h6 kt km wm
      have lp := leastPrice_eq F hF p1 htw (wd_10 wm) ha hb w2
      have f2 := prS_fr S1 (rds n on ot (ek (opn (wd μ) w)) a (Y - 1))
      generalize hS2 : prS S1 (rds n on ot (ek (opn (wd μ) w)) a (Y - 1)) = S2 at lp f2
      obtain ⟨m1, m2, m3, m4, m5⟩ := M_fr (M_fr hm f1 (by omega)) f2 (by omega)
      rw [need_two h9 htw.1.2 ha hb (on_lt htw) (fun s hs => (htw.2.2.2.1 s hs).2.2)] at lp
      obtain ⟨K, hK⟩ : ∃ K, K = mnN (2 ^ n) (fun m => if con n on ot (fun s => opn (wd μ) w s || m.testBit s) a b then sset n (fun s => m.testBit s) (kw (fun _ => 0)) else FR) := ⟨_, rfl⟩
      have mf := mneed_eq F hF (μ := μ) m1 htw ha hb (opn (wd μ) w) K hK
      rw [← hK] at lp
      have hKle : K ≤ FR := by rw [hK]; exact mnN_le0 _ _
      refine ⟨if K = FR then -9 else nI (K % 512), S2, S2, ?_, ?_, (hI.scr f1 (by omega)).scr f2 (by omega)⟩
      · show fX9_need F (hp S) 0 _ _ _ = _
        unfold fX9_need fX8_streetsIn
        simp only [Option.bind_some, Nat.reduceAdd, ob8 kd_0, g8_0 kd_0, g8_1 kd_0, g8_2 kd_0, g8_3 kd_0, g8_4 kd_0, g8_5 kd_0, g8_6 kd_0, g8_7 kd_0, g8_8 kd_0, g8_9 kd_0, p8_5 kd_0, p8_9 kd_0, yards_eq F kt.1, if_pos hx, e10, if_false, within_eq, if_pos hz, e1, lp]
        rw [show nI K - nI K / 512 * 512 = nI (K % 512) from pk_rem (d := 512) (by omega) (by decide) (by decide)]
        by_cases hKf : K = FR
        · rw [if_pos hKf, if_pos (show (1073741824 : Int32) ≤ nI K from nI_le (a := 1073741824) (by omega) (by omega))]
        · rw [if_neg hKf, if_neg (show ¬ (1073741824 : Int32) ≤ nI K from nI_ge (b := 1073741824) (by omega) (by omega))]
      · show fX10_need F (hp S2) 209 _ _ _ = _
        unfold fX10_need
        simp only [Option.bind_some, Nat.reduceAdd, ob9 kd_209, g9_0 kd_209, g9_1 kd_209, g9_2 kd_209, g9_3 kd_209, g9_4 kd_209, g9_5 kd_209, g9_6 kd_209, g9_7 kd_209, g9_8 kd_209, g9_9 kd_209, g9_10 kd_209, g9_11 kd_209, g9_12 kd_209, g9_13 kd_209, g9_14 kd_209, g9_15 kd_209, g9_16 kd_209, g9_17 kd_209, g9_18 kd_209, g9_19 kd_209, g9_20 kd_209, g9_21 kd_209, g9_22 kd_209, g9_23 kd_209, g9_24 kd_209, g9_25 kd_209, p9_1 kd_209, p9_10 kd_209, p9_11 kd_209, p9_12 kd_209, p9_13 kd_209, p9_14 kd_209, p9_15 kd_209, p9_24 kd_209, p9_25 kd_209, areTwo_eq F m1.1, if_pos hx, e10, if_false, in_eq, if_pos hz, openBy_eq F hF m1.2.1 h9 m2.1 wm w2]
        rw [show fX10_openBy F (hp S2) 209 0 = _ from openBy_eq F hF m1.2.1 h9 m2.1 wm (w := 0) (by omega)]
        simp only [Option.bind_some, Nat.reduceAdd, allOpen h9 μ, mf]
    · refine Ok.of hI ⟨-1, ?_, ?_⟩
      · unfold fX9_need fX9_need_b19
        simp only [Option.bind_some, Nat.reduceAdd, ob8 kd_0, g8_0 kd_0, g8_1 kd_0, g8_2 kd_0, g8_3 kd_0, g8_4 kd_0, g8_5 kd_0, g8_6 kd_0, g8_7 kd_0, g8_8 kd_0, g8_9 kd_0, p8_5 kd_0, p8_9 kd_0, yards_eq F kt.1, if_pos hx, e10, if_false, within_eq, if_neg hz, if_true]
      · unfold fX10_need fX10_need_b19
        simp only [Option.bind_some, Nat.reduceAdd, ob9 kd_209, g9_0 kd_209, g9_1 kd_209, g9_2 kd_209, g9_3 kd_209, g9_4 kd_209, g9_5 kd_209, g9_6 kd_209, g9_7 kd_209, g9_8 kd_209, g9_9 kd_209, g9_10 kd_209, g9_11 kd_209, g9_12 kd_209, g9_13 kd_209, g9_14 kd_209, g9_15 kd_209, g9_16 kd_209, g9_17 kd_209, g9_18 kd_209, g9_19 kd_209, g9_20 kd_209, g9_21 kd_209, g9_22 kd_209, g9_23 kd_209, g9_24 kd_209, g9_25 kd_209, p9_1 kd_209, p9_10 kd_209, p9_11 kd_209, p9_12 kd_209, p9_13 kd_209, p9_14 kd_209, p9_15 kd_209, p9_24 kd_209, p9_25 kd_209, areTwo_eq F hm.1.1, if_pos hx, e10, if_false, in_eq, if_neg hz, if_true]
  · refine Ok.of hI ⟨-1, ?_, ?_⟩
    · unfold fX9_need fX9_need_b19
      simp only [Option.bind_some, Nat.reduceAdd, ob8 kd_0, g8_0 kd_0, g8_1 kd_0, g8_2 kd_0, g8_3 kd_0, g8_4 kd_0, g8_5 kd_0, g8_6 kd_0, g8_7 kd_0, g8_8 kd_0, g8_9 kd_0, p8_5 kd_0, p8_9 kd_0, yards_eq F kt.1, if_neg hx, if_true]
    · unfold fX10_need fX10_need_b19
      simp only [Option.bind_some, Nat.reduceAdd, ob9 kd_209, g9_0 kd_209, g9_1 kd_209, g9_2 kd_209, g9_3 kd_209, g9_4 kd_209, g9_5 kd_209, g9_6 kd_209, g9_7 kd_209, g9_8 kd_209, g9_9 kd_209, g9_10 kd_209, g9_11 kd_209, g9_12 kd_209, g9_13 kd_209, g9_14 kd_209, g9_15 kd_209, g9_16 kd_209, g9_17 kd_209, g9_18 kd_209, g9_19 kd_209, g9_20 kd_209, g9_21 kd_209, g9_22 kd_209, g9_23 kd_209, g9_24 kd_209, g9_25 kd_209, p9_1 kd_209, p9_10 kd_209, p9_11 kd_209, p9_12 kd_209, p9_13 kd_209, p9_14 kd_209, p9_15 kd_209, p9_24 kd_209, p9_25 kd_209, areTwo_eq F hm.1.1, if_neg hx, if_true]

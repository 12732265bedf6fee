/-! carriage -/
def tkn (c : Nat) (wn : Nat → Nat) (n : Nat) (wi : Nat → Nat) (k : Nat) : Nat := bsum 9 (fun s => decide (s < n) && !frs c wn n wi k s)
theorem tkn_bit {c : Nat} {wn : Nat → Nat} {n : Nat} {wi : Nat → Nat} {k : Nat} (h9 : n ≤ 9) {t : Nat} (ht : t < n) : frs c wn n wi k t = !(tkn c wn n wi k).testBit t := by
  unfold tkn
  have h1 : t < 9 := by omega
  rw [bsum_bit]
  simp [h1, ht]
theorem tkn_lt {c : Nat} {wn : Nat → Nat} {n : Nat} {wi : Nat → Nat} {k : Nat} (h9 : n ≤ 9) : tkn c wn n wi k < 2 ^ n := by
  unfold tkn
  rw [← bsum_up (fun s => !frs c wn n wi k s) h9]
  exact bsum_lt _ _
theorem frs_lt {c : Nat} {wn : Nat → Nat} {n : Nat} {wi : Nat → Nat} (k : Nat) : ∀ s, frs c wn n wi k s = true → s < n := by
  induction k with
  | zero => intro s h; exact of_decide_eq_true h
  | succ k ih =>
    intro s h
    simp only [frs] at h
    rw [Bool.and_eq_true] at h
    exact ih s h.1
theorem Gm_tkn {c : Nat} {wn : Nat → Nat} {n : Nat} {wi : Nat → Nat} {p k : Nat} (h9 : n ≤ 9) : Gm c wn n wi p (tkn c wn n wi k) = gr c wn n wi p (frs c wn n wi k) := gr_congr (fun t ht => (tkn_bit h9 ht).symm)
theorem carr_k (F : Nat) (hF : 4000 ≤ F) {S : ST} {Y n c : Nat} {on ot wn : Nat → Nat} {μ : Mo} (mt0 : MT S Y n c on ot wn) (hw : TW Y n c on ot wn) (hm : MM S n c μ) (wm : WM n c μ) {k : Nat} (hkc : k < c) (K : Nat → Int32 → Int32 → Int32 → Int32 → HL → Option (Int32 × HL)) (x1 : Int32) : fX10_carriage_b58 F K F 209 x1 (nI (tkn c wn n (wd μ) k)) (-9) (nI k) (nI n - 1) (hp (mS S (Gm c wn n (wd μ)) (mE c n 0))) = K 209 x1 (nI (tkn c wn n (wd μ) (k + 1))) (gvn c wn n (wd μ) k) (nI (k + 1)) (hp (mS S (Gm c wn n (wd μ)) (mE c n 0))) := by
  have h9 := hw.2.1
  have h6 := hw.2.2.1
  have hn1 : 2 ^ n ≤ 2 ^ 9 := Nat.pow_le_pow_right (by omega) h9
  have fr := mS_fr S (Gm c wn n (wd μ)) (mE c n 0)
  have mt1 := mt0.fr fr (by omega)
  have hm1 := hm.fr fr (by omega)
  have tl := tkn_lt (c := c) (wn := wn) (n := n) (wi := wd μ) (k := k) h9
  have rdE : ∀ p m, p ≤ c → m < 2 ^ n → o_aI (hp (mS S (Gm c wn n (wd μ)) (mE c n 0))) 224 0 (nI (512 * p + m)) = some (nI (Gm c wn n (wd μ) p m)) := fun p m hp hm => mS_rd S _ _ (by omega) (by omega) (decide_eq_true (by omega))
  have hgle : ∀ q m, Gm c wn n (wd μ) q m ≤ c := fun q m => mo_le _ _ _ _ _ _ _
  have tb : ∀ t, t < n → frs c wn n (wd μ) k t = !(tkn c wn n (wd μ) k).testBit t := fun t ht => tkn_bit h9 ht
  have hend : ∀ (L : HL), (if gvn c wn n (wd μ) k = -9 then fX10_carriage_b160 F K 209 x1 (gvn c wn n (wd μ) k) (nI k) 0 (nI (tkn c wn n (wd μ) k)) L else fX10_carriage_b160 F K 209 x1 (gvn c wn n (wd μ) k) (nI k) ((1 : Int32) <<< (gvn c wn n (wd μ) k &&& 31)) (nI (tkn c wn n (wd μ) k)) L) = K 209 x1 (nI (tkn c wn n (wd μ) (k + 1))) (gvn c wn n (wd μ) k) (nI (k + 1)) L := by
    intro L
    have e1 : nI (tkn c wn n (wd μ) (k + 1)) = bs 9 (fun s => decide (s < n) && !(frs c wn n (wd μ) k s && !(decide (ff n (PP c wn n (wd μ) k (frs c wn n (wd μ) k) (gr c wn n (wd μ) k (frs c wn n (wd μ) k))) < n) && (s == ff n (PP c wn n (wd μ) k (frs c wn n (wd μ) k) (gr c wn n (wd μ) k (frs c wn n (wd μ) k))))))) := rfl
    have e2 : nI (tkn c wn n (wd μ) k) = bs 9 (fun s => decide (s < n) && !frs c wn n (wd μ) k s) := rfl
    unfold fX10_carriage_b160
    rw [e1, e2]
    simp only [nI_1]
    unfold gvn ffI
    generalize ff n (PP c wn n (wd μ) k (frs c wn n (wd μ) k) (gr c wn n (wd μ) k (frs c wn n (wd μ) k))) = l
    by_cases hl : l < n
    · simp only [hl, if_true, decide_true, Bool.true_and]
      rw [if_neg (nI_m9 (by omega)), bs_one (k := 9) (show l < 9 by omega) (by omega), bs_or]
      congr 1
      apply bs_ext
      intro s _
      by_cases hsl : s = l
      · subst hsl; simp [hl]
      · rw [beq_false_of_ne hsl]; simp
    · simp only [hl, if_false, decide_false, Bool.false_and, Bool.not_false, Bool.and_true, if_true]
      simp
  rw [show nI n - 1 = nI n + (-1) from Int32.sub_eq_add_neg _ _]
  generalize hPP : PP c wn n (wd μ) k (frs c wn n (wd μ) k) (gr c wn n (wd μ) k (frs c wn n (wd μ) k)) = Q
  have hg : gvn c wn n (wd μ) k = ffI n Q := by rw [← hPP]; rfl
  rw [hg] at hend ⊢
  have := loopD (fun m r (st : Int32) => fX10_carriage_b58 F K m 209 x1 (nI (tkn c wn n (wd μ) k)) st (nI k) (nI r + (-1)) (hp (mS S (Gm c wn n (wd μ)) (mE c n 0)))) n (fun r => ffI n (fun j => decide (r ≤ j) && Q j)) (K 209 x1 (nI (tkn c wn n (wd μ) (k + 1))) (ffI n Q) (nI (k + 1)) (hp (mS S (Gm c wn n (wd μ)) (mE c n 0)))) ?_ ?_ F n (by omega) (by omega)
  · refine Eq.trans ?_ this
    have e2 : ffI n (fun j => decide (n ≤ j) && Q j) = -9 := by
      have := ff_none (n := n) (P := fun j => decide (n ≤ j) && Q j) (fun j hj => by
        have : ¬ n ≤ j := by omega
        simp [this])
      unfold ffI
      rw [this, if_neg (Nat.lt_irrefl _)]
    rw [e2]
  · intro m
    have e3 : ffI n (fun j => decide (0 ≤ j) && Q j) = ffI n Q := by
      have : (fun j => decide (0 ≤ j) && Q j) = Q := by funext j; simp
      rw [this]
    rw [e3]
    show fX10_carriage_b58c F K _ 209 x1 (nI (tkn c wn n (wd μ) k)) (ffI n Q) (nI k) (nI 0 + (-1)) (hp (mS S (Gm c wn n (wd μ)) (mE c n 0))) = _
    unfold fX10_carriage_b58c
    rw [if_pos (by decide)]
    exact hend _
  · intro m r hr
    have ol := orb_lt h9 tl hr
    have hQ : Q r = (frs c wn n (wd μ) k r && (decide (wn k ≤ wd μ r) && decide (1 + Gm c wn n (wd μ) (k + 1) (orb (tkn c wn n (wd μ) k) r) = Gm c wn n (wd μ) k (tkn c wn n (wd μ) k)))) := by
      rw [← hPP, Gm_tkn h9, Gm_orb h9 tb]
      rfl
    have up : Q r = true → ffI n (fun j => decide (r ≤ j) && Q j) = nI r := by
      intro hq
      have : ff n (fun j => decide (r ≤ j) && Q j) = r := ff_uniq (by omega) (fun j hj => by
        have : ¬ r ≤ j := by omega
        simp [this]) (fun _ => by simp [hq])
      unfold ffI
      rw [this, if_pos hr]
    have same : Q r = false → ffI n (fun j => decide (r + 1 ≤ j) && Q j) = ffI n (fun j => decide (r ≤ j) && Q j) := by
      intro hq
      have e : (fun j => decide (r + 1 ≤ j) && Q j) = (fun j => decide (r ≤ j) && Q j) := by
        funext j
        by_cases hj : j = r
        · subst hj; simp [hq]
        · have : (decide (r + 1 ≤ j) : Bool) = decide (r ≤ j) := decide_eq_decide.mpr (by omega)
          rw [this]
      rw [e]
    have hh : fX10_has F (hp (mS S (Gm c wn n (wd μ)) (mE c n 0))) (nI (tkn c wn n (wd μ) k)) (nI r) = some (if (!frs c wn n (wd μ) k r) then 1 else 0, hp (mS S (Gm c wn n (wd μ)) (mE c n 0))) := by
      rw [tb r hr, Bool.not_not, nI_bs (k := 9) (show tkn c wn n (wd μ) k < 2 ^ 9 by omega)]
      exact mHas_eq F _ _ (by omega) (by omega)
    have g1 := hgle (k + 1) (orb (tkn c wn n (wd μ) k) r)
    have g2 := hgle k (tkn c wn n (wd μ) k)
    show fX10_carriage_b58c F K _ 209 x1 (nI (tkn c wn n (wd μ) k)) (ffI n (fun j => decide (r + 1 ≤ j) && Q j)) (nI k) (nI (r + 1) + (-1)) (hp (mS S (Gm c wn n (wd μ)) (mE c n 0))) = fX10_carriage_b58 F K m 209 x1 (nI (tkn c wn n (wd μ) k)) (ffI n (fun j => decide (r ≤ j) && Q j)) (nI k) (nI r + (-1)) (hp (mS S (Gm c wn n (wd μ)) (mE c n 0)))
    unfold fX10_carriage_b58c fX10_carriage_b87 fX10_carriage_b88 fX10_carriage_b138 fX10_carriage_b139
    simp only [pk_m1, hh, Option.bind_some, Nat.reduceAdd, canHave_eq F mt1 hw hm1 wm hkc hr, ob9 kd_209, g9_0 kd_209, g9_1 kd_209, g9_2 kd_209, g9_3 kd_209, g9_4 kd_209, g9_5 kd_209, g9_6 kd_209, g9_7 kd_209, g9_8 kd_209, g9_9 kd_209, g9_10 kd_209, g9_11 kd_209, g9_12 kd_209, g9_13 kd_209, g9_14 kd_209, g9_15 kd_209, g9_16 kd_209, g9_17 kd_209, g9_18 kd_209, g9_19 kd_209, g9_20 kd_209, g9_21 kd_209, g9_22 kd_209, g9_23 kd_209, g9_24 kd_209, g9_25 kd_209, p9_1 kd_209, p9_10 kd_209, p9_11 kd_209, p9_12 kd_209, p9_13 kd_209, p9_14 kd_209, p9_15 kd_209, p9_24 kd_209, p9_25 kd_209, orb_nI (show tkn c wn n (wd μ) k < 512 by omega) (show r < 9 by omega), nI_1, lm512, nI_add, rdE _ _ (show k + 1 ≤ c by omega) ol, rdE _ _ (show k ≤ c by omega) tl, la1, if_true]
    generalize mS S (Gm c wn n (wd μ)) (mE c n 0) = SS
    rw [if_neg (nI_pos (by omega))]
    cases hf : frs c wn n (wd μ) k r
    · rw [hf] at hQ
      rw [same (by rw [hQ]; rfl)]
      simp only [Bool.not_false, if_true, e10, if_false]
    · rw [hf] at hQ
      simp only [Bool.not_true, Bool.false_eq_true, if_false, if_true]
      by_cases hc : wn k ≤ wd μ r
      · simp only [hc, decide_true, if_true, e10, if_false]
        by_cases h : 1 + Gm c wn n (wd μ) (k + 1) (orb (tkn c wn n (wd μ) k) r) = Gm c wn n (wd μ) k (tkn c wn n (wd μ) k)
        · rw [if_pos (by rw [h]), up (by rw [hQ, decide_eq_true hc, decide_eq_true h]; rfl)]
        · rw [if_neg (fun e => h ((nI_eq (by omega) (by omega)).mp e)), same (by rw [hQ]; simp [h])]
      · rw [same (by rw [hQ]; simp [hc])]
        simp only [hc, decide_false, Bool.false_eq_true, if_false, if_true]
theorem mcarr_eq (F : Nat) (hF : 4000 ≤ F) {S : ST} {Y n c : Nat} {on ot wn : Nat → Nat} {μ : Mo} (mt0 : MT S Y n c on ot wn) (hw : TW Y n c on ot wn) (hm : MM S n c μ) (wm : WM n c μ) {p : Nat} (hpc : p < c) : fX10_carriage_b39 F F 209 (nI p) 0 (-9) 0 (hp (mS S (Gm c wn n (wd μ)) (mE c n 0))) = some (gvn c wn n (wd μ) p, hp (mS S (Gm c wn n (wd μ)) (mE c n 0))) := by
  have h9 := hw.2.1
  have h6 := hw.2.2.1
  have fr := mS_fr S (Gm c wn n (wd μ)) (mE c n 0)
  have mt1 := mt0.fr fr (by omega)
  have := loopA (fun m k (st : Int32 × Int32) => fX10_carriage_b39 F m 209 (nI p) st.1 st.2 (nI k) (hp (mS S (Gm c wn n (wd μ)) (mE c n 0)))) (p + 1) (fun k => (nI (tkn c wn n (wd μ) k), if k = 0 then -9 else gvn c wn n (wd μ) (k - 1))) (some (gvn c wn n (wd μ) p, hp (mS S (Gm c wn n (wd μ)) (mE c n 0)))) ?_ ?_ F 0 (by omega) (by omega)
  · refine Eq.trans ?_ this
    have e : tkn c wn n (wd μ) 0 = 0 := by
      unfold tkn
      have : bsum 9 (fun _ => false) = 0 := by decide
      rw [← this]
      apply bsum_congr
      intro s _
      show (decide (s < n) && !decide (s < n)) = false
      simp
    dsimp only
    rw [e]
    rfl
  · intro m
    show fX10_carriage_b39c F _ 209 (nI p) _ _ (nI (p + 1)) (hp _) = _
    unfold fX10_carriage_b39c
    rw [if_pos (nI_lt (by omega) (by omega))]
    rfl
  · intro m k hk
    show fX10_carriage_b39c F _ 209 (nI p) (nI (tkn c wn n (wd μ) k)) _ (nI k) (hp (mS S (Gm c wn n (wd μ)) (mE c n 0))) = _
    unfold fX10_carriage_b39c
    simp only [Option.bind_some, Nat.reduceAdd, ob9 kd_209, g9_0 kd_209, g9_1 kd_209, g9_2 kd_209, g9_3 kd_209, g9_4 kd_209, g9_5 kd_209, g9_6 kd_209, g9_7 kd_209, g9_8 kd_209, g9_9 kd_209, g9_10 kd_209, g9_11 kd_209, g9_12 kd_209, g9_13 kd_209, g9_14 kd_209, g9_15 kd_209, g9_16 kd_209, g9_17 kd_209, g9_18 kd_209, g9_19 kd_209, g9_20 kd_209, g9_21 kd_209, g9_22 kd_209, g9_23 kd_209, g9_24 kd_209, g9_25 kd_209, p9_1 kd_209, p9_10 kd_209, p9_11 kd_209, p9_12 kd_209, p9_13 kd_209, p9_14 kd_209, p9_15 kd_209, p9_24 kd_209, p9_25 kd_209, m212_0, mt1.2.1]
    rw [if_neg (nI_nlt (by omega) (by omega)), carr_k F hF mt0 hw hm wm (show k < c by omega)]
    rfl
theorem c_carriage (F : Nat) (hF : 4000 ≤ F) {S : ST} (h : Inv S) (x : Int32) : Ok S (fun L => fX9_carriage F L 0 x) (fun L => fX10_carriage F L 209 x) := by
  have hI := h
  obtain ⟨Y, n, c, on, ot, wn, μ, k, ms, T, tx, f, mw, mn, kp, im, ik, ims, htw, hwa, hk, hm, htr⟩ := h
  have h9 := htw.2.1
  have h6 := htw.2.2.1
  have kt := hk.1
  have km := hk.2.1.1
  have wm := hwa.1
  obtain ⟨S1, e1, f1, p1⟩ := draw_eq F hF IsP_198 (by omega) h9 h6 kt km wm
  have gv := give_eq F hF p1 htw (wd_10 wm)
  have f2 : Fr 197 198 S1 (stI S1 197 (fun j => if j < c then gvn c wn n (wd μ) j else S1.1 197 j)) := Fr.stI (by omega) (by omega)
  have rd : ∀ p, p < c → o_aI (hp (stI S1 197 (fun j => if j < c then gvn c wn n (wd μ) j else S1.1 197 j))) 197 0 (nI p) = some (gvn c wn n (wd μ) p) := fun p hp' => by
    rw [ra (by rfl) (by decide) (by rw [kd_197]; show p < 6; omega), stI_s, if_pos hp']
  generalize hS2 : stI S1 197 (fun j => if j < c then gvn c wn n (wd μ) j else S1.1 197 j) = S2 at gv f2 rd
  obtain ⟨m1, m2, m3, m4, m5⟩ := M_fr (M_fr hm f1 (by omega)) f2 (by omega)
  have te := tell_eq F hF m1 htw m2.1 wm
  have hI2 : Inv (mS S2 (Gm c wn n (wd μ)) (mE c n 0)) := ((hI.scr f1 (by omega)).scr f2 (by omega)).scr (mS_fr _ _ _) (by omega)
  have hn2 : 1 ≤ 2 ^ n := Nat.one_le_two_pow
  by_cases hx1 : x = -1
  · subst hx1
    have r0 : o_aI (hp (mS S2 (Gm c wn n (wd μ)) (mE c n 0))) 224 0 0 = some (nI (Gm c wn n (wd μ) 0 0)) := mS_rd S2 (Gm c wn n (wd μ)) (mE c n 0) (p := 0) (m := 0) (by omega) (by omega) (decide_eq_true (by omega))
    have eg : Gm c wn n (wd μ) 0 0 = gr c wn n (wd μ) 0 (frs c wn n (wd μ) 0) := gr_congr (fun t ht => by
      show (!(0 : Nat).testBit t) = decide (t < n)
      simp [ht])
    refine ⟨nI (gr c wn n (wd μ) 0 (frs c wn n (wd μ) 0)), S2, mS S2 (Gm c wn n (wd μ)) (mE c n 0), ?_, ?_, hI2⟩
    · show fX9_carriage F (hp S) 0 _ = _
      unfold fX9_carriage fX9_carriage_b15
      simp only [Option.bind_some, Nat.reduceAdd, ob8 kd_0, g8_0 kd_0, g8_1 kd_0, g8_2 kd_0, g8_3 kd_0, g8_4 kd_0, g8_5 kd_0, g8_6 kd_0, g8_7 kd_0, g8_8 kd_0, g8_9 kd_0, p8_5 kd_0, p8_9 kd_0, ob0 kd_196, g0_0 kd_196, g0_1 kd_196, ob3 kd_15, g3_0 kd_15, g3_1 kd_15, g3_2 kd_15, p3_2 kd_15, if_true, e1, gv]
    · show fX10_carriage F (hp S2) 209 _ = _
      unfold fX10_carriage fX10_carriage_b15
      simp only [Option.bind_some, Nat.reduceAdd, ob9 kd_209, g9_0 kd_209, g9_1 kd_209, g9_2 kd_209, g9_3 kd_209, g9_4 kd_209, g9_5 kd_209, g9_6 kd_209, g9_7 kd_209, g9_8 kd_209, g9_9 kd_209, g9_10 kd_209, g9_11 kd_209, g9_12 kd_209, g9_13 kd_209, g9_14 kd_209, g9_15 kd_209, g9_16 kd_209, g9_17 kd_209, g9_18 kd_209, g9_19 kd_209, g9_20 kd_209, g9_21 kd_209, g9_22 kd_209, g9_23 kd_209, g9_24 kd_209, g9_25 kd_209, p9_1 kd_209, p9_10 kd_209, p9_11 kd_209, p9_12 kd_209, p9_13 kd_209, p9_14 kd_209, p9_15 kd_209, p9_24 kd_209, p9_25 kd_209, if_true, te, r0, eg]
  · rcases rowc x (show c < 2 ^ 30 by omega) with ⟨p, hpc, rfl, hx⟩ | hx
    · refine ⟨gvn c wn n (wd μ) p, S2, mS S2 (Gm c wn n (wd μ)) (mE c n 0), ?_, ?_, hI2⟩
      · show fX9_carriage F (hp S) 0 _ = _
        unfold fX9_carriage fX9_carriage_b15
        simp only [Option.bind_some, Nat.reduceAdd, ob8 kd_0, g8_0 kd_0, g8_1 kd_0, g8_2 kd_0, g8_3 kd_0, g8_4 kd_0, g8_5 kd_0, g8_6 kd_0, g8_7 kd_0, g8_8 kd_0, g8_9 kd_0, p8_5 kd_0, p8_9 kd_0, ob0 kd_196, g0_0 kd_196, g0_1 kd_196, ob3 kd_15, g3_0 kd_15, g3_1 kd_15, g3_2 kd_15, p3_2 kd_15, if_neg hx1, isCitizen_eq F kt.2.2.1, if_pos hx, e10, if_false, e1, gv, rd p hpc]
      · show fX10_carriage F (hp S2) 209 _ = _
        unfold fX10_carriage fX10_carriage_b15
        simp only [Option.bind_some, Nat.reduceAdd, ob9 kd_209, g9_0 kd_209, g9_1 kd_209, g9_2 kd_209, g9_3 kd_209, g9_4 kd_209, g9_5 kd_209, g9_6 kd_209, g9_7 kd_209, g9_8 kd_209, g9_9 kd_209, g9_10 kd_209, g9_11 kd_209, g9_12 kd_209, g9_13 kd_209, g9_14 kd_209, g9_15 kd_209, g9_16 kd_209, g9_17 kd_209, g9_18 kd_209, g9_19 kd_209, g9_20 kd_209, g9_21 kd_209, g9_22 kd_209, g9_23 kd_209, g9_24 kd_209, g9_25 kd_209, p9_1 kd_209, p9_10 kd_209, p9_11 kd_209, p9_12 kd_209, p9_13 kd_209, p9_14 kd_209, p9_15 kd_209, p9_24 kd_209, p9_25 kd_209, if_neg hx1, mIsPerson_eq F m1.2.2.1, if_pos hx, e10, if_false, te, mcarr_eq F hF m1 htw m2.1 wm hpc]
    · refine Ok.of hI ⟨-1, ?_, ?_⟩
      · unfold fX9_carriage
        simp only [Option.bind_some, Nat.reduceAdd, ob8 kd_0, g8_0 kd_0, g8_1 kd_0, g8_2 kd_0, g8_3 kd_0, g8_4 kd_0, g8_5 kd_0, g8_6 kd_0, g8_7 kd_0, g8_8 kd_0, g8_9 kd_0, p8_5 kd_0, p8_9 kd_0, if_neg hx1, isCitizen_eq F kt.2.2.1, if_neg hx, if_true]
      · unfold fX10_carriage
        simp only [Option.bind_some, Nat.reduceAdd, ob9 kd_209, g9_0 kd_209, g9_1 kd_209, g9_2 kd_209, g9_3 kd_209, g9_4 kd_209, g9_5 kd_209, g9_6 kd_209, g9_7 kd_209, g9_8 kd_209, g9_9 kd_209, g9_10 kd_209, g9_11 kd_209, g9_12 kd_209, g9_13 kd_209, g9_14 kd_209, g9_15 kd_209, g9_16 kd_209, g9_17 kd_209, g9_18 kd_209, g9_19 kd_209, g9_20 kd_209, g9_21 kd_209, g9_22 kd_209, g9_23 kd_209, g9_24 kd_209, g9_25 kd_209, p9_1 kd_209, p9_10 kd_209, p9_11 kd_209, p9_12 kd_209, p9_13 kd_209, p9_14 kd_209, p9_15 kd_209, p9_24 kd_209, p9_25 kd_209, if_neg hx1, mIsPerson_eq F hm.1.2.2.1, if_neg hx, if_true]

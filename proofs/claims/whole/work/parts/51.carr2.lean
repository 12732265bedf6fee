/-! who can have his carriage: the class -/
theorem wanting_eq (F : Nat) (hF : 4000 ≤ F) {S : ST} {Y n c : Nat} {on ot wn wi : Nat → Nat} (hp' : PL S 198 Y n c on ot wn wi) (hw : TW Y n c on ot wn) {p v : Nat} (hpc : p ≤ c) (hv : v ≤ 10) : fX0_wantingFrom F (hp S) 196 (nI p) (nI v) = some (nI (aw c wn p v), hp S) := by
  have h6 := hw.2.2.1
  unfold fX0_wantingFrom
  simp only [Option.bind_some, Nat.reduceAdd, ob0 kd_196, g0_0 kd_196, g0_1 kd_196]
  have := loopB (fun k i st => fX0_wantingFrom_b5 F k 196 (nI v) st (nI i) (hp S)) p c (fun i => nI (cnt i (fun q => decide (p ≤ q) && (wn q == v)))) (some (nI (aw c wn p v), hp S)) ?_ ?_ F p (by omega) (by omega) (by omega)
  · refine Eq.trans ?_ this
    have e : cnt p (fun q => decide (p ≤ q) && (wn q == v)) = 0 := cnt_none (fun q hq => by
      have : ¬ p ≤ q := by omega
      simp [this])
    rw [e]
    rfl
  · intro k
    show fX0_wantingFrom_b5c F _ 196 (nI v) _ (nI c) (hp S) = _
    unfold fX0_wantingFrom_b5c
    simp only [Option.bind_some, Nat.reduceAdd, ob0 kd_196, g0_0 kd_196, g0_1 kd_196, ob4 kd_198, g4_0 kd_198, g4_1 kd_198, g4_2 kd_198, g4_3 kd_198, g4_4 kd_198, g4_5 kd_198, g4_6 kd_198, g4_7 kd_198, g4_8 kd_198, p4_0 kd_198, p4_1 kd_198, p4_2 kd_198, hp'.2.2.1]
    rw [if_pos (nI_le (Nat.le_refl _) (by omega))]
    rfl
  · intro k i hi0 hi
    have hwi := hw.2.2.2.2 i hi
    show fX0_wantingFrom_b5c F _ 196 (nI v) _ (nI i) (hp S) = _
    have r5 : o_aI (hp S) 203 0 (nI i) = some (nI (wn i)) := by
      rw [ra (by rfl) (by decide) (by rw [kd_203]; show i < 6; omega)]
      exact congrArg some (hp'.2.2.2.2.2.1 i hi)
    unfold fX0_wantingFrom_b5c fX0_wantingFrom_b34
    simp only [Option.bind_some, Nat.reduceAdd, ob0 kd_196, g0_0 kd_196, g0_1 kd_196, ob4 kd_198, g4_0 kd_198, g4_1 kd_198, g4_2 kd_198, g4_3 kd_198, g4_4 kd_198, g4_5 kd_198, g4_6 kd_198, g4_7 kd_198, g4_8 kd_198, p4_0 kd_198, p4_1 kd_198, p4_2 kd_198, hp'.2.2.1, r5, nI_1, cnt]
    rw [if_neg (nI_ge hi (by omega))]
    by_cases h : wn i = v
    · rw [if_pos (by rw [h])]
      simp [hi0, h]
    · rw [if_neg (fun e => h ((nI_eq (by omega) (by omega)).mp e))]
      simp [h]
theorem freeOf_eq (F : Nat) (hF : 4000 ≤ F) {S : ST} {Y n c : Nat} {on ot wn wi : Nat → Nat} (hp' : PL S 198 Y n c on ot wn wi) (hw : TW Y n c on ot wn) (hwi : ∀ s, s < n → wi s ≤ 10) (fr : Nat → Bool) {v : Nat} (hv : v ≤ 10) : fX0_freeOf F (hp S) 196 (bs 9 fr) (nI v) = some (nI (fv n wi fr v), hp S) := by
  have h9 := hw.2.1
  unfold fX0_freeOf
  simp only [Option.bind_some, Nat.reduceAdd, ob0 kd_196, g0_0 kd_196, g0_1 kd_196]
  have := loopA (fun k i st => fX0_freeOf_b5 F k 196 (bs 9 fr) (nI v) st (nI i) (hp S)) n (fun i => nI (fv i wi fr v)) (some (nI (fv n wi fr v), hp S)) ?_ ?_ F 0 (by omega) (by omega)
  · exact this
  · intro k
    show fX0_freeOf_b5c F _ 196 (bs 9 fr) (nI v) _ (nI n) (hp S) = _
    unfold fX0_freeOf_b5c
    simp only [Option.bind_some, Nat.reduceAdd, ob0 kd_196, g0_0 kd_196, g0_1 kd_196, ob4 kd_198, g4_0 kd_198, g4_1 kd_198, g4_2 kd_198, g4_3 kd_198, g4_4 kd_198, g4_5 kd_198, g4_6 kd_198, g4_7 kd_198, g4_8 kd_198, p4_0 kd_198, p4_1 kd_198, p4_2 kd_198, hp'.2.1]
    rw [if_pos (nI_le (Nat.le_refl _) (by omega))]
  · intro k i hi
    have hwii := hwi i hi
    show fX0_freeOf_b5c F _ 196 (bs 9 fr) (nI v) (nI (fv i wi fr v)) (nI i) (hp S) = fX0_freeOf_b5 F k 196 (bs 9 fr) (nI v) (nI (fv i wi fr v + (if (fr i && (wi i == v)) then 1 else 0))) (nI (i + 1)) (hp S)
    have r6 : o_aI (hp S) 204 0 (nI i) = some (nI (wi i)) := by
      rw [ra (by rfl) (by decide) (by rw [kd_204]; show i < 9; omega)]
      exact congrArg some (hp'.2.2.2.2.2.2 i hi)
    unfold fX0_freeOf_b5c fX0_freeOf_b43
    simp only [Option.bind_some, Nat.reduceAdd, ob0 kd_196, g0_0 kd_196, g0_1 kd_196, ob4 kd_198, g4_0 kd_198, g4_1 kd_198, g4_2 kd_198, g4_3 kd_198, g4_4 kd_198, g4_5 kd_198, g4_6 kd_198, g4_7 kd_198, g4_8 kd_198, p4_0 kd_198, p4_1 kd_198, p4_2 kd_198, hp'.2.1, has_eq F _ fr (show 9 ≤ 31 by omega) (show i < 9 by omega), r6, nI_1]
    rw [if_neg (nI_ge hi (by omega))]
    cases fr i
    · simp
    · simp only [if_true, e10, if_false, Bool.true_and]
      by_cases h : wi i = v
      · rw [if_pos (by rw [h])]
        simp [h]
      · rw [if_neg (fun e => h ((nI_eq (by omega) (by omega)).mp e))]
        simp [h]
theorem mostFrom_eq (F : Nat) (hF : 4000 ≤ F) {S : ST} {Y n c : Nat} {on ot wn wi : Nat → Nat} (hp' : PL S 198 Y n c on ot wn wi) (hw : TW Y n c on ot wn) (hwi : ∀ s, s < n → wi s ≤ 10) (fr : Nat → Bool) {p : Nat} (hpc : p ≤ c) : fX0_mostFrom F (hp S) 196 (nI p) (bs 9 fr) = some (nI (gr c wn n wi p fr), hp S) := by
  have h9 := hw.2.1
  have h6 := hw.2.2.1
  have hwn : ∀ q, q < c → 1 ≤ wn q := fun q hq => (hw.2.2.2.2 q hq).1
  have mle : ∀ t, mo c wn n wi p fr t ≤ Aw c wn p t := fun t => by
    have := (mo_spec (n := n) (wi := wi) hwn p fr t).1 t (Nat.le_refl _)
    omega
  have Ale : ∀ t, Aw c wn p t ≤ c := fun t => cnt_le _ _
  unfold fX0_mostFrom
  simp only [Option.bind_some, Nat.reduceAdd, ob0 kd_196, g0_0 kd_196, g0_1 kd_196]
  have := loopA (fun k i (st : Int32 × Int32) => fX0_mostFrom_b8 F k 196 (nI p) (bs 9 fr) st.1 st.2 (nI (i + 1)) (hp S)) 10 (fun i => (nI (mo c wn n wi p fr i), nI (Aw c wn p i - mo c wn n wi p fr i))) (some (nI (gr c wn n wi p fr), hp S)) ?_ ?_ F 0 (by omega) (by omega)
  · refine Eq.trans ?_ this
    have h0 := mle 0
    have e0 : Aw c wn p 0 = 0 := cnt_none (fun q hq => by
      have := hwn q hq
      have : ¬ wn q ≤ 0 := by omega
      simp only [this, decide_false, Bool.and_false])
    show _ = fX0_mostFrom_b8 F F 196 (nI p) (bs 9 fr) (nI 0) (nI (Aw c wn p 0 - 0)) (nI 1) (hp S)
    rw [e0]
    rfl
  · intro k
    show fX0_mostFrom_b8c F _ 196 (nI p) (bs 9 fr) _ _ (nI (10 + 1)) (hp S) = _
    unfold fX0_mostFrom_b8c
    rw [if_pos (by decide)]
    rfl
  · intro k i hi
    show fX0_mostFrom_b8c F _ 196 (nI p) (bs 9 fr) (nI (mo c wn n wi p fr i)) (nI (Aw c wn p i - mo c wn n wi p fr i)) (nI (i + 1)) (hp S) = fX0_mostFrom_b8 F k 196 (nI p) (bs 9 fr) (nI (min (Aw c wn p (i + 1)) (mo c wn n wi p fr i + fv n wi fr (i + 1)))) (nI (Aw c wn p (i + 1) - (min (Aw c wn p (i + 1)) (mo c wn n wi p fr i + fv n wi fr (i + 1))))) (nI (i + 1 + 1)) (hp S)
    have a1 := Aw_succ c wn p i
    have m1 := mle i
    have m2 := Ale (i + 1)
    have f1 : fv n wi fr (i + 1) ≤ n := cnt_le _ _
    unfold fX0_mostFrom_b8c
    rw [if_neg (show ¬ (10 : Int32) < nI (i + 1) from nI_nlt (b := i + 1) (a := 10) (by omega) (by decide))]
    simp only [Option.bind_some, Nat.reduceAdd, wanting_eq F hF hp' hw hpc (show i + 1 ≤ 10 by omega), freeOf_eq F hF hp' hw hwi fr (show i + 1 ≤ 10 by omega), nI_add, nI_1]
    rw [nmin (by omega) (by omega), nI_add, pk_sub (by omega)]
    congr 2 <;> omega
def PP (c : Nat) (wn : Nat → Nat) (n : Nat) (wi : Nat → Nat) (p : Nat) (fr : Nat → Bool) (due : Nat) : Nat → Bool := fun s => fr s && (decide (wn p ≤ wi s) && decide (1 + gr c wn n wi (p + 1) (fun i => fr i && !(i == s)) = due))
theorem lowest_eq (F : Nat) (hF : 4000 ≤ F) {S : ST} {Y n c : Nat} {on ot wn wi : Nat → Nat} (hp' : PL S 198 Y n c on ot wn wi) (hw : TW Y n c on ot wn) (hwi : ∀ s, s < n → wi s ≤ 10) (fr : Nat → Bool) {p due : Nat} (hpc : p < c) (hd : due ≤ 100) : fX0_lowestStreetFor F (hp S) 196 (nI p) (bs 9 fr) (nI due) = some (ffI n (PP c wn n wi p fr due), hp S) := by
  have h9 := hw.2.1
  have h6 := hw.2.2.1
  have hwp := hw.2.2.2.2 p hpc
  unfold fX0_lowestStreetFor
  simp only [Option.bind_some, Nat.reduceAdd, ob0 kd_196, g0_0 kd_196, g0_1 kd_196]
  have := loopF (fun k i => fX0_lowestStreetFor_b3 F k 196 (nI p) (bs 9 fr) (nI due) (nI i) (hp S)) n (PP c wn n wi p fr due) (fun m => some (if m < n then nI m else -9, hp S)) ?_ ?_ F (by omega)
  · exact this
  · intro k
    show fX0_lowestStreetFor_b3c F _ 196 (nI p) (bs 9 fr) (nI due) (nI n) (hp S) = _
    unfold fX0_lowestStreetFor_b3c
    simp only [Option.bind_some, Nat.reduceAdd, ob0 kd_196, g0_0 kd_196, g0_1 kd_196, ob4 kd_198, g4_0 kd_198, g4_1 kd_198, g4_2 kd_198, g4_3 kd_198, g4_4 kd_198, g4_5 kd_198, g4_6 kd_198, g4_7 kd_198, g4_8 kd_198, p4_0 kd_198, p4_1 kd_198, p4_2 kd_198, hp'.2.1]
    rw [if_pos (nI_le (Nat.le_refl _) (by omega)), if_neg (Nat.lt_irrefl _)]
  · intro k i hi
    have hwii := hwi i hi
    show fX0_lowestStreetFor_b3c F _ 196 (nI p) (bs 9 fr) (nI due) (nI i) (hp S) = _
    have r6 : o_aI (hp S) 204 0 (nI i) = some (nI (wi i)) := by
      rw [ra (by rfl) (by decide) (by rw [kd_204]; show i < 9; omega)]
      exact congrArg some (hp'.2.2.2.2.2.2 i hi)
    have r5 : o_aI (hp S) 203 0 (nI p) = some (nI (wn p)) := by
      rw [ra (by rfl) (by decide) (by rw [kd_203]; show p < 6; omega)]
      exact congrArg some (hp'.2.2.2.2.2.1 p hpc)
    have gle : gr c wn n wi (p + 1) (fun j => fr j && !(j == i)) ≤ c := mo_le _ _ _ _ _ _ _
    unfold fX0_lowestStreetFor_b3c fX0_lowestStreetFor_b68
    simp only [Option.bind_some, Nat.reduceAdd, ob0 kd_196, g0_0 kd_196, g0_1 kd_196, ob4 kd_198, g4_0 kd_198, g4_1 kd_198, g4_2 kd_198, g4_3 kd_198, g4_4 kd_198, g4_5 kd_198, g4_6 kd_198, g4_7 kd_198, g4_8 kd_198, p4_0 kd_198, p4_1 kd_198, p4_2 kd_198, hp'.2.1, has_eq F _ fr (show 9 ≤ 31 by omega) (show i < 9 by omega), r5, r6, nI_1, without_eq F _ fr (show 9 ≤ 31 by omega) (show i < 9 by omega), mostFrom_eq F hF hp' hw hwi _ (show p + 1 ≤ c by omega), la1]
    rw [if_neg (nI_ge hi (by omega))]
    unfold PP
    cases fr i
    · simp
    · simp only [if_true, e10, if_false, Bool.true_and]
      by_cases h1 : wn p ≤ wi i
      · rw [if_neg (nI_nlt h1 (by omega))]
        by_cases h2 : 1 + gr c wn n wi (p + 1) (fun j => fr j && !(j == i)) = due
        · rw [if_pos (by rw [h2]), if_pos (by simp [h1, h2]), if_pos hi]
        · rw [if_neg (fun e => h2 ((nI_eq (by omega) (by omega)).mp e)), if_neg (by simp [h2])]
      · rw [if_pos (nI_lt (by omega) (by omega)), if_neg (by simp [h1])]
/-- what is still free when p's turn comes -/
def frs (c : Nat) (wn : Nat → Nat) (n : Nat) (wi : Nat → Nat) : Nat → Nat → Bool
  | 0 => fun s => decide (s < n)
  | p + 1 => fun s => frs c wn n wi p s && !(decide (ff n (PP c wn n wi p (frs c wn n wi p) (gr c wn n wi p (frs c wn n wi p))) < n) && (s == ff n (PP c wn n wi p (frs c wn n wi p) (gr c wn n wi p (frs c wn n wi p)))))
def gvn (c : Nat) (wn : Nat → Nat) (n : Nat) (wi : Nat → Nat) (p : Nat) : Int32 := ffI n (PP c wn n wi p (frs c wn n wi p) (gr c wn n wi p (frs c wn n wi p)))
theorem due_next {c : Nat} {wn : Nat → Nat} {n : Nat} {wi : Nat → Nat} (hwn : ∀ q, q < c → 1 ≤ wn q ∧ wn q ≤ 10) (hw : ∀ s, s < n → wi s ≤ 10) {p : Nat} (hp : p < c) : gr c wn n wi p (frs c wn n wi p) = gr c wn n wi (p + 1) (frs c wn n wi (p + 1)) + (if ff n (PP c wn n wi p (frs c wn n wi p) (gr c wn n wi p (frs c wn n wi p))) < n then 1 else 0) := by
  have g3 := gr_iii hwn hw hp (frs c wn n wi p)
  simp only [frs]
  generalize frs c wn n wi p = fr at *
  obtain ⟨s1, s2, s3⟩ := ff_spec n (PP c wn n wi p fr (gr c wn n wi p fr))
  generalize ff n (PP c wn n wi p fr (gr c wn n wi p fr)) = l at *
  by_cases hl : l < n
  · have h3 := s3 hl
    unfold PP at h3
    rw [Bool.and_eq_true, Bool.and_eq_true] at h3
    have h4 := of_decide_eq_true h3.2.2
    simp only [hl, decide_true, Bool.true_and, if_true]
    omega
  · simp only [hl, decide_false, Bool.false_and, if_false, Bool.not_false, Bool.and_true, Nat.add_zero]
    rcases g3 with g3 | ⟨s, hs, hf, hc, g3⟩
    · exact g3
    · exfalso
      have := s2 s (by omega)
      unfold PP at this
      rw [hf, decide_eq_true hc, decide_eq_true g3.symm] at this
      cases this
theorem give_eq (F : Nat) (hF : 4000 ≤ F) {S : ST} {Y n c : Nat} {on ot wn wi : Nat → Nat} (hp' : PL S 198 Y n c on ot wn wi) (hw : TW Y n c on ot wn) (hwi : ∀ s, s < n → wi s ≤ 10) : fX0_give F (hp S) 196 = some (nI (gr c wn n wi 0 (frs c wn n wi 0)), hp (stI S 197 (fun j => if j < c then gvn c wn n wi j else S.1 197 j))) := by
  have h9 := hw.2.1
  have h6 := hw.2.2.1
  have hwn := hw.2.2.2.2
  have ebs : nI (2 ^ n - 1) = bs 9 (frs c wn n wi 0) := by
    show _ = bs 9 (fun s => decide (s < n))
    unfold bs
    rw [allb n h9]
  unfold fX0_give
  simp only [Option.bind_some, Nat.reduceAdd, ob0 kd_196, g0_0 kd_196, g0_1 kd_196, ob4 kd_198, g4_0 kd_198, g4_1 kd_198, g4_2 kd_198, g4_3 kd_198, g4_4 kd_198, g4_5 kd_198, g4_6 kd_198, g4_7 kd_198, g4_8 kd_198, p4_0 kd_198, p4_1 kd_198, p4_2 kd_198, hp'.2.1, allOf_eq F _ (show n < 31 by omega)]
  rw [ebs, show (0 : Int32) = nI 0 from rfl, mostFrom_eq F hF hp' hw hwi _ (Nat.zero_le c)]
  simp only [Option.bind_some, Nat.reduceAdd]
  generalize hM : nI (gr c wn n wi 0 (frs c wn n wi 0)) = M
  have := loopA (fun k i (st : Int32 × Int32 × ST) => fX0_give_b23 F k 196 st.1 M st.2.1 (nI i) (hp st.2.2)) c (fun i => (bs 9 (frs c wn n wi i), nI (gr c wn n wi i (frs c wn n wi i)), stI S 197 (fun j => if j < i then gvn c wn n wi j else S.1 197 j))) (some (M, hp (stI S 197 (fun j => if j < c then gvn c wn n wi j else S.1 197 j)))) ?_ ?_ F 0 (by omega) (by omega)
  · refine Eq.trans ?_ this
    show _ = fX0_give_b23 F F 196 (bs 9 (frs c wn n wi 0)) M (nI (gr c wn n wi 0 (frs c wn n wi 0))) (nI 0) (hp (stI S 197 (fun j => if j < 0 then gvn c wn n wi j else S.1 197 j)))
    rw [stI_id (S := S) (q := 197) (fun j => if_neg (by omega)), hM]
  · intro k
    show fX0_give_b23c F _ 196 _ M _ (nI c) (hp (stI S 197 (fun j => if j < c then gvn c wn n wi j else S.1 197 j))) = _
    have pl := hp'.fr (lo := 197) (hi := 198) (S' := stI S 197 (fun j => if j < c then gvn c wn n wi j else S.1 197 j)) (Fr.stI (by omega) (by omega)) (by omega)
    unfold fX0_give_b23c
    simp only [Option.bind_some, Nat.reduceAdd, ob0 kd_196, g0_0 kd_196, g0_1 kd_196, ob4 kd_198, g4_0 kd_198, g4_1 kd_198, g4_2 kd_198, g4_3 kd_198, g4_4 kd_198, g4_5 kd_198, g4_6 kd_198, g4_7 kd_198, g4_8 kd_198, p4_0 kd_198, p4_1 kd_198, p4_2 kd_198, pl.2.2.1]
    rw [if_pos (nI_le (Nat.le_refl _) (by omega))]
  · intro k i hi
    have pl := hp'.fr (lo := 197) (hi := 198) (S' := stI S 197 (fun j => if j < i then gvn c wn n wi j else S.1 197 j)) (Fr.stI (by omega) (by omega)) (by omega)
    have dn' := due_next hwn hwi hi
    have ef : bs 9 (frs c wn n wi (i + 1)) = bs 9 (fun s => frs c wn n wi i s && !(decide (ff n (PP c wn n wi i (frs c wn n wi i) (gr c wn n wi i (frs c wn n wi i))) < n) && (s == ff n (PP c wn n wi i (frs c wn n wi i) (gr c wn n wi i (frs c wn n wi i)))))) := rfl
    have gle : gr c wn n wi i (frs c wn n wi i) ≤ c := mo_le _ _ _ _ _ _ _
    show fX0_give_b23c F _ 196 (bs 9 (frs c wn n wi i)) M (nI (gr c wn n wi i (frs c wn n wi i))) (nI i) (hp (stI S 197 (fun j => if j < i then gvn c wn n wi j else S.1 197 j))) = fX0_give_b23 F k 196 (bs 9 (frs c wn n wi (i + 1))) M (nI (gr c wn n wi (i + 1) (frs c wn n wi (i + 1)))) (nI (i + 1)) (hp (stI S 197 (fun j => if j < i + 1 then gvn c wn n wi j else S.1 197 j)))
    have lw := lowest_eq F hF pl hw hwi (frs c wn n wi i) (due := gr c wn n wi i (frs c wn n wi i)) hi (by omega)
    have e4 : stI (stI S 197 (fun j => if j < i then gvn c wn n wi j else S.1 197 j)) 197 (upd ((stI S 197 (fun j => if j < i then gvn c wn n wi j else S.1 197 j)).1 197) i (gvn c wn n wi i)) = stI S 197 (fun j => if j < i + 1 then gvn c wn n wi j else S.1 197 j) := by
      rw [stI_stI, stI_s]
      congr 1
      funext j
      rw [upd_at]
      by_cases hj : j = i
      · rw [if_pos hj, if_pos (by omega), hj]
      · rw [if_neg hj]
        by_cases hj2 : j < i
        · rw [if_pos hj2, if_pos (by omega)]
        · rw [if_neg hj2, if_neg (by omega)]
    have wr : o_sI (hp (stI S 197 (fun j => if j < i then gvn c wn n wi j else S.1 197 j))) 197 0 (nI i) (gvn c wn n wi i) = some (hp (stI S 197 (fun j => if j < i + 1 then gvn c wn n wi j else S.1 197 j))) := by
      rw [wa (by rfl) (by decide) (by rw [kd_197]; show i < 6; omega), e4]
    have rd : o_aI (hp (stI S 197 (fun j => if j < i + 1 then gvn c wn n wi j else S.1 197 j))) 197 0 (nI i) = some (gvn c wn n wi i) := by
      rw [ra (by rfl) (by decide) (by rw [kd_197]; show i < 6; omega), stI_s, if_pos (by omega)]
    unfold fX0_give_b23c fX0_give_b77
    simp only [Option.bind_some, Nat.reduceAdd, ob0 kd_196, g0_0 kd_196, g0_1 kd_196, ob4 kd_198, g4_0 kd_198, g4_1 kd_198, g4_2 kd_198, g4_3 kd_198, g4_4 kd_198, g4_5 kd_198, g4_6 kd_198, g4_7 kd_198, g4_8 kd_198, p4_0 kd_198, p4_1 kd_198, p4_2 kd_198, pl.2.2.1]
    rw [if_neg (nI_ge hi (by omega)), lw]
    simp only [Option.bind_some, Nat.reduceAdd]
    rw [show ffI n (PP c wn n wi i (frs c wn n wi i) (gr c wn n wi i (frs c wn n wi i))) = gvn c wn n wi i from rfl, wr]
    simp only [Option.bind_some, Nat.reduceAdd, ob0 kd_196, g0_0 kd_196, g0_1 kd_196, rd, nI_1]
    rw [ef]
    unfold gvn ffI at rd ⊢
    obtain ⟨s1, s2, s3⟩ := ff_spec n (PP c wn n wi i (frs c wn n wi i) (gr c wn n wi i (frs c wn n wi i)))
    generalize hSS : stI S 197 _ = SS at rd ⊢
    generalize frs c wn n wi (i + 1) = fr' at *
    generalize ff n (PP c wn n wi i (frs c wn n wi i) (gr c wn n wi i (frs c wn n wi i))) = l at *
    by_cases hl : l < n
    · simp only [hl, if_true, decide_true, Bool.true_and]
      rw [if_neg (nI_m9 (by omega)), without_eq F _ _ (by omega) (by omega)]
      simp only [Option.bind_some, Nat.reduceAdd]
      rw [if_pos hl] at dn'
      rw [dn', pk_m1]
    · rw [if_neg hl, Nat.add_zero] at dn'
      simp only [hl, if_false, decide_false, Bool.false_and, Bool.not_false, Bool.and_true, if_true, dn']

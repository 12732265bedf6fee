/-! the reference's now, known, images -/
def cps (S : ST) (d od s os i : Nat) : ST := stI S d (va_cpy (S.1 s) (S.1 d) os od i)
theorem cps_d (S : ST) (d od s os i j : Nat) : (cps S d od s os i).1 d j = if od ≤ j ∧ j < od + i then S.1 s (os + (j - od)) else S.1 d j := by
  unfold cps
  rw [stI_s]
  rfl
theorem cps_n (S : ST) {d od s os i a : Nat} (h : a ≠ d) : (cps S d od s os i).1 a = S.1 a := stI_n _ _ h
theorem cps_0 (S : ST) (d od s os : Nat) : cps S d od s os 0 = S := stI_id (fun j => by unfold va_cpy; rw [if_neg (by omega)])
theorem cps_rd (S : ST) {d od s os i : Nat} (h : s = d → ¬ (od ≤ os + i ∧ os + i < od + i)) : (cps S d od s os i).1 s (os + i) = S.1 s (os + i) := by
  by_cases hs : s = d
  · subst hs
    rw [cps_d, if_neg (h rfl)]
  · rw [cps_n S hs]
theorem cps_step (S : ST) {d od s os i : Nat} (h : s = d → ¬ (od ≤ os + i ∧ os + i < od + i)) : stI (cps S d od s os i) d (upd ((cps S d od s os i).1 d) (od + i) (S.1 s (os + i))) = cps S d od s os (i + 1) := by
  unfold cps
  rw [stI_stI, stI_s]
  congr 1
  funext j
  rw [upd_at]
  unfold va_cpy
  by_cases hj : j = od + i
  · subst hj
    rw [if_pos rfl, if_pos (by omega), Nat.add_sub_cancel_left]
  · rw [if_neg hj]
    by_cases h2 : od ≤ j ∧ j < od + i
    · rw [if_pos h2, if_pos (by omega)]
    · rw [if_neg h2, if_neg (by omega)]
theorem Fr.cpsF {lo hi d od s os i : Nat} {S : ST} (h1 : lo ≤ d) (h2 : d < hi) : Fr lo hi S (cps S d od s os i) := Fr.stI h1 h2
theorem MMo.cpd {S : ST} {n c d od s os N off : Nat} {μ : Mo} (h : MMo S n c s (os + off) μ) (ho : off + 34 ≤ N) (h9 : n ≤ 9) (h6 : c ≤ 6) : MMo (cps S d od s os N) n c d (od + off) μ := by
  obtain ⟨h1, h2, h3, h4, h5⟩ := h
  have rd : ∀ x, x < 34 → (cps S d od s os N).1 d (od + off + x) = S.1 s (os + off + x) := by
    intro x hx
    rw [cps_d, if_pos (by omega), show os + (od + off + x - od) = os + off + x by omega]
  refine ⟨?_, fun x hx => ?_, fun x hx => ?_, fun x hx => ?_, fun x hx => ?_⟩
  · have := rd 0 (by omega); rw [Nat.add_zero, Nat.add_zero] at this; rw [this]; exact h1
  · rw [rd _ (by omega)]; exact h2 x hx
  · rw [rd _ (by omega)]; exact h3 x hx
  · rw [rd _ (by omega)]; exact h4 x hx
  · rw [rd _ (by omega)]; exact h5 x hx
theorem MMo.off {S S' : ST} {n c a off : Nat} {μ : Mo} (h : MMo S n c a off μ) (h9 : n ≤ 9) (h6 : c ≤ 6) (hr : ∀ x, x < 34 → S'.1 a (off + x) = S.1 a (off + x)) : MMo S' n c a off μ := by
  obtain ⟨h1, h2, h3, h4, h5⟩ := h
  refine ⟨?_, fun x hx => ?_, fun x hx => ?_, fun x hx => ?_, fun x hx => ?_⟩
  · have := hr 0 (by omega); rw [Nat.add_zero] at this; rw [this]; exact h1
  · rw [hr _ (by omega)]; exact h2 x hx
  · rw [hr _ (by omega)]; exact h3 x hx
  · rw [hr _ (by omega)]; exact h4 x hx
  · rw [hr _ (by omega)]; exact h5 x hx
theorem MM_o {S : ST} {n c : Nat} {μ : Mo} : MM S n c μ ↔ MMo S n c 219 0 μ := by
  unfold MM MMo
  simp only [Nat.zero_add]
def MNow (S : ST) (n c : Nat) (μ : Mo) (k : Nat) (ms : Nat → Mo) : Prop := MM S n c μ ∧ S.1 220 0 = nI k ∧ k ≤ 10 ∧ ∀ i, i < k → MMo S n c 221 (34 * i) (ms i)
def MImg (S : ST) (n c j : Nat) (μ : Mo) (k : Nat) (ms : Nat → Mo) : Prop := MMo S n c 222 (34 * j) μ ∧ S.1 220 (1 + j) = nI k ∧ k ≤ 10 ∧ ∀ i, i < k → MMo S n c 221 (340 * (1 + j) + 34 * i) (ms i)
theorem w220_0 {S : ST} {x : Int32} : o_sI (hp S) 220 0 0 x = some (hp (stI S 220 (upd (S.1 220) 0 x))) := wa (j := 0) rfl (by decide) (by decide)
theorem lm34 (i : Nat) : (34 : Int32) * nI i = nI (34 * i) := pk_mul 34 i
theorem lm340 (i : Nat) : (340 : Int32) * nI i = nI (340 * i) := pk_mul 340 i
theorem la34 (i : Nat) : (34 : Int32) + nI i = nI (34 + i) := nI_add 34 i
/-- what an array keeps -/
theorem know_b51 (F : Nat) (hF : 4000 ≤ F) {S : ST} {k : Nat} (hk : S.1 220 0 = nI k) (h10 : k < 10) : fX10_know_b51 F 209 (hp S) = some (hp (stI (cps S 221 (34 * k) 219 0 34) 220 (upd (S.1 220) 0 (nI (k + 1))))) := by
  unfold fX10_know_b51
  have := loopA (fun m i (st : ST) => fX10_know_b53 F m 209 (nI i) (hp st)) 34 (fun i => cps S 221 (34 * k) 219 0 i) (some (hp (stI (cps S 221 (34 * k) 219 0 34) 220 (upd (S.1 220) 0 (nI (k + 1)))))) ?_ ?_ F 0 (by omega) (by omega)
  · refine Eq.trans ?_ this
    show _ = fX10_know_b53 F F 209 (nI 0) (hp (cps S 221 (34 * k) 219 0 0))
    rw [cps_0]
    rfl
  · intro m
    show fX10_know_b53c F _ 209 (nI 34) (hp _) = _
    unfold fX10_know_b53c
    rw [if_pos (by decide)]
    simp only [Option.bind_some, Nat.reduceAdd, ob9 kd_209, g9_0 kd_209, g9_1 kd_209, g9_2 kd_209, g9_3 kd_209, g9_4 kd_209, g9_5 kd_209, g9_6 kd_209, g9_7 kd_209, g9_8 kd_209, g9_9 kd_209, g9_10 kd_209, g9_11 kd_209, g9_12 kd_209, g9_13 kd_209, g9_14 kd_209, g9_15 kd_209, g9_16 kd_209, g9_17 kd_209, g9_18 kd_209, g9_19 kd_209, g9_20 kd_209, g9_21 kd_209, g9_22 kd_209, g9_23 kd_209, g9_24 kd_209, g9_25 kd_209, p9_1 kd_209, p9_10 kd_209, p9_11 kd_209, p9_12 kd_209, p9_13 kd_209, p9_14 kd_209, p9_15 kd_209, p9_24 kd_209, p9_25 kd_209, m220_0, w220_0]
    rw [cps_n S (by decide), hk, nI_1]
  · intro m i hi
    show fX10_know_b53c F _ 209 (nI i) (hp _) = fX10_know_b53 F m 209 (nI (i + 1)) (hp _)
    unfold fX10_know_b53c
    rw [if_neg (show ¬ (34 : Int32) ≤ nI i from nI_ge (b := 34) hi (by decide))]
    simp only [Option.bind_some, Nat.reduceAdd, ob9 kd_209, g9_0 kd_209, g9_1 kd_209, g9_2 kd_209, g9_3 kd_209, g9_4 kd_209, g9_5 kd_209, g9_6 kd_209, g9_7 kd_209, g9_8 kd_209, g9_9 kd_209, g9_10 kd_209, g9_11 kd_209, g9_12 kd_209, g9_13 kd_209, g9_14 kd_209, g9_15 kd_209, g9_16 kd_209, g9_17 kd_209, g9_18 kd_209, g9_19 kd_209, g9_20 kd_209, g9_21 kd_209, g9_22 kd_209, g9_23 kd_209, g9_24 kd_209, g9_25 kd_209, p9_1 kd_209, p9_10 kd_209, p9_11 kd_209, p9_12 kd_209, p9_13 kd_209, p9_14 kd_209, p9_15 kd_209, p9_24 kd_209, p9_25 kd_209, m220_0]
    rw [cps_n S (by decide : (220 : Nat) ≠ 221), hk, lm34, nI_add, ra (by rfl) (by decide) (by rw [kd_219]; exact hi)]
    simp only [Option.bind_some, Nat.reduceAdd]
    rw [wa (by rfl) (by decide) (by rw [kd_221]; show 34 * k + i < 1020; omega), Option.bind_some, nI_1, cps_n S (by decide : (219 : Nat) ≠ 221)]
    have := cps_step S (d := 221) (od := 34 * k) (s := 219) (os := 0) (i := i) (fun h => absurd h (by decide))
    rw [Nat.zero_add] at this
    rw [this]
theorem know_eq (F : Nat) (hF : 4000 ≤ F) {S : ST} {n c k : Nat} {μ : Mo} {ms : Nat → Mo} (h9 : n ≤ 9) (h6 : c ≤ 6) (hn : MNow S n c μ k ms) : ∃ S', fX10_know F (hp S) 209 = some (hp S') ∧ Fr 220 222 S S' ∧ MNow S' n c μ (remK k) (remM k ms μ) ∧ (∀ j, 340 ≤ j → S'.1 221 j = S.1 221 j) ∧ (∀ j, 1 ≤ j → S'.1 220 j = S.1 220 j) := by
  obtain ⟨h1, h2, h3, h4⟩ := hn
  unfold fX10_know
  simp only [Option.bind_some, Nat.reduceAdd, ob9 kd_209, g9_0 kd_209, g9_1 kd_209, g9_2 kd_209, g9_3 kd_209, g9_4 kd_209, g9_5 kd_209, g9_6 kd_209, g9_7 kd_209, g9_8 kd_209, g9_9 kd_209, g9_10 kd_209, g9_11 kd_209, g9_12 kd_209, g9_13 kd_209, g9_14 kd_209, g9_15 kd_209, g9_16 kd_209, g9_17 kd_209, g9_18 kd_209, g9_19 kd_209, g9_20 kd_209, g9_21 kd_209, g9_22 kd_209, g9_23 kd_209, g9_24 kd_209, g9_25 kd_209, p9_1 kd_209, p9_10 kd_209, p9_11 kd_209, p9_12 kd_209, p9_13 kd_209, p9_14 kd_209, p9_15 kd_209, p9_24 kd_209, p9_25 kd_209, m220_0, h2]
  have hs : ∀ (S : ST) (k : Nat) (ms : Nat → Mo), MM S n c μ → S.1 220 0 = nI k → k < 10 → (∀ i, i < k → MMo S n c 221 (34 * i) (ms i)) → ∃ S', fX10_know_b51 F 209 (hp S) = some (hp S') ∧ Fr 220 222 S S' ∧ MNow S' n c μ (k + 1) (fun i => if i = k then μ else ms i) ∧ (∀ j, 340 ≤ j → S'.1 221 j = S.1 221 j) ∧ (∀ j, 1 ≤ j → S'.1 220 j = S.1 220 j) := by
    intro S k ms h1 h2 hk h4
    refine ⟨_, know_b51 F hF h2 hk, Fr.tr (Fr.cpsF (by omega) (by omega)) (Fr.stI (by omega) (by omega)), ⟨?_, ?_, by omega, ?_⟩, ?_, ?_⟩
    · rw [MM_o] at h1 ⊢
      exact h1.off h9 h6 (fun x hx => by rw [stI_n _ _ (by decide), cps_n _ (by decide)])
    · rw [stI_s]; exact pk_us
    · intro i hi
      dsimp only
      by_cases hik : i = k
      · subst hik
        rw [if_pos rfl]
        have := MMo.cpd (S := S) (d := 221) (od := 34 * i) (s := 219) (os := 0) (N := 34) (off := 0) (MM_o.mp h1) (by omega) h9 h6
        exact this.off h9 h6 (fun x hx => by rw [stI_n _ _ (by decide)])
      · rw [if_neg hik]
        refine (h4 i (by omega)).off h9 h6 (fun x hx => ?_)
        rw [stI_n _ _ (by decide), cps_d, if_neg (by omega)]
    · intro j hj
      rw [stI_n _ _ (by decide), cps_d, if_neg (by omega)]
    · intro j hj
      rw [stI_s, upd_at, if_neg (by omega)]
  by_cases h : k = 10
  · subst h
    rw [if_pos (show nI 10 = (10 : Int32) from rfl)]
    have hl : fX10_know_b13 F F 209 0 (hp S) = fX10_know_b51 F 209 (hp (stI (cps S 221 0 221 34 306) 220 (upd (S.1 220) 0 (nI 9)))) := by
      have := loopA (fun m i (st : ST) => fX10_know_b13 F m 209 (nI i) (hp st)) 306 (fun i => cps S 221 0 221 34 i) (fX10_know_b51 F 209 (hp (stI (cps S 221 0 221 34 306) 220 (upd (S.1 220) 0 (nI 9))))) ?_ ?_ F 0 (by omega) (by omega)
      · refine Eq.trans ?_ this
        show _ = fX10_know_b13 F F 209 (nI 0) (hp (cps S 221 0 221 34 0))
        rw [cps_0]
        rfl
      · intro m
        show fX10_know_b13c F _ 209 (nI 306) (hp _) = _
        unfold fX10_know_b13c
        rw [if_pos (by decide)]
        simp only [Option.bind_some, Nat.reduceAdd, ob9 kd_209, g9_0 kd_209, g9_1 kd_209, g9_2 kd_209, g9_3 kd_209, g9_4 kd_209, g9_5 kd_209, g9_6 kd_209, g9_7 kd_209, g9_8 kd_209, g9_9 kd_209, g9_10 kd_209, g9_11 kd_209, g9_12 kd_209, g9_13 kd_209, g9_14 kd_209, g9_15 kd_209, g9_16 kd_209, g9_17 kd_209, g9_18 kd_209, g9_19 kd_209, g9_20 kd_209, g9_21 kd_209, g9_22 kd_209, g9_23 kd_209, g9_24 kd_209, g9_25 kd_209, p9_1 kd_209, p9_10 kd_209, p9_11 kd_209, p9_12 kd_209, p9_13 kd_209, p9_14 kd_209, p9_15 kd_209, p9_24 kd_209, p9_25 kd_209, m220_0, w220_0]
        rw [cps_n S (by decide), h2, show nI 10 - 1 = nI 9 from nI_pred 9]
      · intro m i hi
        show fX10_know_b13c F _ 209 (nI i) (hp _) = fX10_know_b13 F m 209 (nI (i + 1)) (hp _)
        unfold fX10_know_b13c
        rw [if_neg (show ¬ (306 : Int32) ≤ nI i from nI_ge (b := 306) hi (by decide))]
        simp only [Option.bind_some, Nat.reduceAdd, ob9 kd_209, g9_0 kd_209, g9_1 kd_209, g9_2 kd_209, g9_3 kd_209, g9_4 kd_209, g9_5 kd_209, g9_6 kd_209, g9_7 kd_209, g9_8 kd_209, g9_9 kd_209, g9_10 kd_209, g9_11 kd_209, g9_12 kd_209, g9_13 kd_209, g9_14 kd_209, g9_15 kd_209, g9_16 kd_209, g9_17 kd_209, g9_18 kd_209, g9_19 kd_209, g9_20 kd_209, g9_21 kd_209, g9_22 kd_209, g9_23 kd_209, g9_24 kd_209, g9_25 kd_209, p9_1 kd_209, p9_10 kd_209, p9_11 kd_209, p9_12 kd_209, p9_13 kd_209, p9_14 kd_209, p9_15 kd_209, p9_24 kd_209, p9_25 kd_209, la34]
        rw [ra (by rfl) (by decide) (by rw [kd_221]; show 34 + i < 1020; omega)]
        simp only [Option.bind_some, Nat.reduceAdd]
        rw [wa (by rfl) (by decide) (by rw [kd_221]; show i < 1020; omega), Option.bind_some, nI_1, cps_rd S (fun _ => by omega)]
        have := cps_step S (d := 221) (od := 0) (s := 221) (os := 34) (i := i) (fun _ => by omega)
        rw [Nat.zero_add] at this
        rw [this]
    rw [hl]
    have q1 : MM (stI (cps S 221 0 221 34 306) 220 (upd (S.1 220) 0 (nI 9))) n c μ := by
      rw [MM_o] at h1 ⊢
      exact h1.off h9 h6 (fun x hx => by rw [stI_n _ _ (by decide), cps_n _ (by decide)])
    have q2 : (stI (cps S 221 0 221 34 306) 220 (upd (S.1 220) 0 (nI 9))).1 220 0 = nI 9 := by
      rw [stI_s]; exact pk_us
    have q3 : ∀ i, i < 9 → MMo (stI (cps S 221 0 221 34 306) 220 (upd (S.1 220) 0 (nI 9))) n c 221 (34 * i) (ms (i + 1)) := by
      intro i hi
      have := MMo.cpd (S := S) (d := 221) (od := 0) (s := 221) (os := 34) (N := 306) (off := 34 * i) (by rw [show 34 + 34 * i = 34 * (i + 1) by omega]; exact h4 (i + 1) (by omega)) (by omega) h9 h6
      rw [Nat.zero_add] at this
      exact this.off h9 h6 (fun x hx => by rw [stI_n _ _ (by decide)])
    obtain ⟨S', e1, f1, n1, t1, t2⟩ := hs _ 9 (fun i => ms (i + 1)) q1 q2 (by omega) q3
    refine ⟨S', e1, Fr.tr (Fr.tr (Fr.cpsF (by omega) (by omega)) (Fr.stI (by omega) (by omega))) f1, ?_, fun j hj => ?_, fun j hj => ?_⟩
    · have e2 : remM 10 ms μ = fun i => if i = 9 then μ else ms (i + 1) := by
        funext i
        exact if_neg (by omega)
      rw [e2]
      exact n1
    · rw [t1 j hj, stI_n _ _ (by decide), cps_d, if_neg (by omega)]
    · rw [t2 j hj, stI_s, upd_at, if_neg (by omega)]
  · rw [if_neg (show ¬ nI k = (10 : Int32) from fun e => h ((nI_eq (a := k) (b := 10) (by omega) (by decide)).mp e))]
    have e1 : remK k = k + 1 := if_pos (by omega)
    have e2 : remM k ms μ = fun i => if i = k then μ else ms i := by
      funext i
      exact if_pos (by omega)
    rw [e1, e2]
    exact hs S k ms h1 h2 (by omega) h4
theorem cploop (F : Nat) (W : Nat → Nat → ST → Option (Int32 × HL)) (S : ST) (d od s os N : Nat) (out : Option (Int32 × HL)) (hn : N < F) (hr : s = d → ∀ i, i < N → ¬ (od ≤ os + i ∧ os + i < od + i)) (hx : ∀ k, W (k + 1) N (cps S d od s os N) = out) (hs : ∀ k i, i < N → W (k + 1) i (cps S d od s os i) = W k (i + 1) (stI (cps S d od s os i) d (upd ((cps S d od s os i).1 d) (od + i) ((cps S d od s os i).1 s (os + i))))) : W F 0 S = out := by
  have := loopA W N (fun i => cps S d od s os i) out hx ?_ F 0 (by omega) (by omega)
  · rw [cps_0] at this
    exact this
  · intro k i hi
    rw [hs k i hi, cps_rd S (fun h => hr h i hi), cps_step S (fun h => hr h i hi)]
theorem undo_eq (F : Nat) (hF : 4000 ≤ F) {S : ST} {n c k : Nat} {μ : Mo} {ms : Nat → Mo} (h9 : n ≤ 9) (h6 : c ≤ 6) (hn : MNow S n c μ (k + 1) ms) : ∃ S', fX10_undo F (hp S) 209 = some (nI k, hp S') ∧ Fr 219 221 S S' ∧ MNow S' n c (ms k) k ms ∧ (∀ j, 1 ≤ j → S'.1 220 j = S.1 220 j) := by
  obtain ⟨h1, h2, h3, h4⟩ := hn
  unfold fX10_undo
  simp only [Option.bind_some, Nat.reduceAdd, ob9 kd_209, g9_0 kd_209, g9_1 kd_209, g9_2 kd_209, g9_3 kd_209, g9_4 kd_209, g9_5 kd_209, g9_6 kd_209, g9_7 kd_209, g9_8 kd_209, g9_9 kd_209, g9_10 kd_209, g9_11 kd_209, g9_12 kd_209, g9_13 kd_209, g9_14 kd_209, g9_15 kd_209, g9_16 kd_209, g9_17 kd_209, g9_18 kd_209, g9_19 kd_209, g9_20 kd_209, g9_21 kd_209, g9_22 kd_209, g9_23 kd_209, g9_24 kd_209, g9_25 kd_209, p9_1 kd_209, p9_10 kd_209, p9_11 kd_209, p9_12 kd_209, p9_13 kd_209, p9_14 kd_209, p9_15 kd_209, p9_24 kd_209, p9_25 kd_209, m220_0, h2, nI_pred, w220_0]
  rw [if_neg (show ¬ nI (k + 1) = (0 : Int32) from nI_ne0 (by omega) (by omega))]
  generalize hS1 : stI S 220 (upd (S.1 220) 0 (nI k)) = S1
  have k1 : S1.1 220 0 = nI k := by rw [← hS1, stI_s]; exact pk_us
  have hl : fX10_undo_b24 F F 209 (nI 0) (hp S1) = some (nI k, hp (cps S1 219 0 221 (34 * k) 34)) := by
    refine cploop F (fun m i st => fX10_undo_b24 F m 209 (nI i) (hp st)) S1 219 0 221 (34 * k) 34 _ (by omega) (fun h => absurd h (by decide)) ?_ ?_
    · intro m
      show fX10_undo_b24c F _ 209 (nI 34) (hp _) = _
      unfold fX10_undo_b24c
      rw [if_pos (by decide)]
      simp only [Option.bind_some, Nat.reduceAdd, ob9 kd_209, g9_0 kd_209, g9_1 kd_209, g9_2 kd_209, g9_3 kd_209, g9_4 kd_209, g9_5 kd_209, g9_6 kd_209, g9_7 kd_209, g9_8 kd_209, g9_9 kd_209, g9_10 kd_209, g9_11 kd_209, g9_12 kd_209, g9_13 kd_209, g9_14 kd_209, g9_15 kd_209, g9_16 kd_209, g9_17 kd_209, g9_18 kd_209, g9_19 kd_209, g9_20 kd_209, g9_21 kd_209, g9_22 kd_209, g9_23 kd_209, g9_24 kd_209, g9_25 kd_209, p9_1 kd_209, p9_10 kd_209, p9_11 kd_209, p9_12 kd_209, p9_13 kd_209, p9_14 kd_209, p9_15 kd_209, p9_24 kd_209, p9_25 kd_209, m220_0]
      rw [cps_n S1 (by decide), k1]
    · intro m i hi
      show fX10_undo_b24c F _ 209 (nI i) (hp _) = fX10_undo_b24 F m 209 (nI (i + 1)) (hp _)
      unfold fX10_undo_b24c
      rw [if_neg (show ¬ (34 : Int32) ≤ nI i from nI_ge (b := 34) hi (by decide))]
      simp only [Option.bind_some, Nat.reduceAdd, ob9 kd_209, g9_0 kd_209, g9_1 kd_209, g9_2 kd_209, g9_3 kd_209, g9_4 kd_209, g9_5 kd_209, g9_6 kd_209, g9_7 kd_209, g9_8 kd_209, g9_9 kd_209, g9_10 kd_209, g9_11 kd_209, g9_12 kd_209, g9_13 kd_209, g9_14 kd_209, g9_15 kd_209, g9_16 kd_209, g9_17 kd_209, g9_18 kd_209, g9_19 kd_209, g9_20 kd_209, g9_21 kd_209, g9_22 kd_209, g9_23 kd_209, g9_24 kd_209, g9_25 kd_209, p9_1 kd_209, p9_10 kd_209, p9_11 kd_209, p9_12 kd_209, p9_13 kd_209, p9_14 kd_209, p9_15 kd_209, p9_24 kd_209, p9_25 kd_209, m220_0]
      rw [cps_n S1 (by decide : (220 : Nat) ≠ 219), k1, lm34, nI_add, ra (by rfl) (by decide) (by rw [kd_221]; show 34 * k + i < 1020; omega)]
      simp only [Option.bind_some, Nat.reduceAdd]
      rw [wa (by rfl) (by decide) (by rw [kd_219]; exact hi), Option.bind_some, nI_1, Nat.zero_add]
  refine ⟨_, hl, ?_, ⟨?_, ?_, by omega, ?_⟩, ?_⟩
  · rw [← hS1]
    exact Fr.tr (Fr.stI (by omega) (by omega)) (Fr.cpsF (by omega) (by omega))
  · rw [MM_o]
    have := MMo.cpd (S := S1) (n := n) (c := c) (d := 219) (od := 0) (s := 221) (os := 34 * k) (N := 34) (off := 0) (μ := ms k) (by rw [Nat.add_zero]; exact (h4 k (by omega)).off h9 h6 (fun x hx => by rw [← hS1, stI_n _ _ (by decide)])) (by omega) h9 h6
    exact this
  · rw [cps_n S1 (by decide), k1]
  · intro i hi
    exact (h4 i (by omega)).off h9 h6 (fun x hx => by rw [cps_n S1 (by decide), ← hS1, stI_n _ _ (by decide)])
  · intro j hj
    rw [cps_n S1 (by decide), ← hS1, stI_s, upd_at, if_neg (by omega)]
theorem keep_eq (F : Nat) (hF : 4000 ≤ F) {S : ST} {n c k j : Nat} {μ : Mo} {ms : Nat → Mo} (h9 : n ≤ 9) (h6 : c ≤ 6) (hn : MNow S n c μ k ms) (hj : j < 2) : ∃ S', fX10_keep F (hp S) 209 (nI j) = some (nI (μ 4 0), hp S') ∧ Fr 220 224 S S' ∧ MNow S' n c μ k ms ∧ MImg S' n c j μ k ms ∧ S'.1 223 j = nI 1 ∧ (∀ i, i ≠ j → S'.1 223 i = S.1 223 i) ∧ (∀ i μ' k' ms', i < 2 → i ≠ j → MImg S n c i μ' k' ms' → MImg S' n c i μ' k' ms') := by
  obtain ⟨h1, h2, h3, h4⟩ := hn
  unfold fX10_keep
  simp only [Option.bind_some, Nat.reduceAdd, ob9 kd_209, g9_0 kd_209, g9_1 kd_209, g9_2 kd_209, g9_3 kd_209, g9_4 kd_209, g9_5 kd_209, g9_6 kd_209, g9_7 kd_209, g9_8 kd_209, g9_9 kd_209, g9_10 kd_209, g9_11 kd_209, g9_12 kd_209, g9_13 kd_209, g9_14 kd_209, g9_15 kd_209, g9_16 kd_209, g9_17 kd_209, g9_18 kd_209, g9_19 kd_209, g9_20 kd_209, g9_21 kd_209, g9_22 kd_209, g9_23 kd_209, g9_24 kd_209, g9_25 kd_209, p9_1 kd_209, p9_10 kd_209, p9_11 kd_209, p9_12 kd_209, p9_13 kd_209, p9_14 kd_209, p9_15 kd_209, p9_24 kd_209, p9_25 kd_209, in_eq]
  have hin : (0 : Int32) ≤ nI j ∧ nI j ≤ 1 := ⟨nI_pos' (by omega), show nI j ≤ nI 1 from nI_le (by omega) (by decide)⟩
  rw [if_pos hin, if_neg (by decide)]
  generalize hS1 : cps S 222 (34 * j) 219 0 34 = S1
  have k1 : ∀ i, S1.1 220 i = S.1 220 i := fun i => by rw [← hS1, cps_n S (by decide)]
  have hl1 : fX10_keep_b13 F F 209 (nI j) (nI 0) (hp S) = fX10_keep_b44 F F 209 (nI j) (nI 0) (hp S1) := by
    refine cploop F (fun m i st => fX10_keep_b13 F m 209 (nI j) (nI i) (hp st)) S 222 (34 * j) 219 0 34 _ (by omega) (fun h => absurd h (by decide)) ?_ ?_
    · intro m
      show fX10_keep_b13c F _ 209 (nI j) (nI 34) (hp _) = _
      unfold fX10_keep_b13c
      rw [if_pos (by decide), hS1]
      rfl
    · intro m i hi
      show fX10_keep_b13c F _ 209 (nI j) (nI i) (hp _) = fX10_keep_b13 F m 209 (nI j) (nI (i + 1)) (hp _)
      unfold fX10_keep_b13c
      rw [if_neg (show ¬ (34 : Int32) ≤ nI i from nI_ge (b := 34) hi (by decide))]
      simp only [Option.bind_some, Nat.reduceAdd, ob9 kd_209, g9_0 kd_209, g9_1 kd_209, g9_2 kd_209, g9_3 kd_209, g9_4 kd_209, g9_5 kd_209, g9_6 kd_209, g9_7 kd_209, g9_8 kd_209, g9_9 kd_209, g9_10 kd_209, g9_11 kd_209, g9_12 kd_209, g9_13 kd_209, g9_14 kd_209, g9_15 kd_209, g9_16 kd_209, g9_17 kd_209, g9_18 kd_209, g9_19 kd_209, g9_20 kd_209, g9_21 kd_209, g9_22 kd_209, g9_23 kd_209, g9_24 kd_209, g9_25 kd_209, p9_1 kd_209, p9_10 kd_209, p9_11 kd_209, p9_12 kd_209, p9_13 kd_209, p9_14 kd_209, p9_15 kd_209, p9_24 kd_209, p9_25 kd_209, lm34, nI_add]
      rw [ra (by rfl) (by decide) (by rw [kd_219]; exact hi)]
      simp only [Option.bind_some, Nat.reduceAdd]
      rw [wa (by rfl) (by decide) (by rw [kd_222]; show 34 * j + i < 68; omega), Option.bind_some, nI_1, Nat.zero_add]
  generalize hS2 : cps S1 221 (340 * (1 + j)) 221 0 340 = S2
  have k2 : ∀ i, S2.1 220 i = S.1 220 i := fun i => by rw [← hS2, cps_n S1 (by decide), k1]
  have k219 : S2.1 219 = S.1 219 := by rw [← hS2, cps_n S1 (by decide), ← hS1, cps_n S (by decide)]
  have k223 : S2.1 223 = S.1 223 := by rw [← hS2, cps_n S1 (by decide), ← hS1, cps_n S (by decide)]
  generalize hS3 : stI (stI S2 220 (upd (S2.1 220) (1 + j) (nI k))) 223 (upd (S.1 223) j (nI 1)) = S3
  have hl2 : fX10_keep_b44 F F 209 (nI j) (nI 0) (hp S1) = some (nI (μ 4 0), hp S3) := by
    refine cploop F (fun m i st => fX10_keep_b44 F m 209 (nI j) (nI i) (hp st)) S1 221 (340 * (1 + j)) 221 0 340 _ (by omega) (fun _ i hi => by omega) ?_ ?_
    · intro m
      show fX10_keep_b44c F _ 209 (nI j) (nI 340) (hp _) = _
      unfold fX10_keep_b44c
      rw [if_pos (by decide), hS2]
      simp only [Option.bind_some, Nat.reduceAdd, ob9 kd_209, g9_0 kd_209, g9_1 kd_209, g9_2 kd_209, g9_3 kd_209, g9_4 kd_209, g9_5 kd_209, g9_6 kd_209, g9_7 kd_209, g9_8 kd_209, g9_9 kd_209, g9_10 kd_209, g9_11 kd_209, g9_12 kd_209, g9_13 kd_209, g9_14 kd_209, g9_15 kd_209, g9_16 kd_209, g9_17 kd_209, g9_18 kd_209, g9_19 kd_209, g9_20 kd_209, g9_21 kd_209, g9_22 kd_209, g9_23 kd_209, g9_24 kd_209, g9_25 kd_209, p9_1 kd_209, p9_10 kd_209, p9_11 kd_209, p9_12 kd_209, p9_13 kd_209, p9_14 kd_209, p9_15 kd_209, p9_24 kd_209, p9_25 kd_209, m220_0, la1]
      rw [wa (by rfl) (by decide) (by rw [kd_220]; show 1 + j < 3; omega), k2 0, h2]
      simp only [Option.bind_some, Nat.reduceAdd, ob9 kd_209, g9_0 kd_209, g9_1 kd_209, g9_2 kd_209, g9_3 kd_209, g9_4 kd_209, g9_5 kd_209, g9_6 kd_209, g9_7 kd_209, g9_8 kd_209, g9_9 kd_209, g9_10 kd_209, g9_11 kd_209, g9_12 kd_209, g9_13 kd_209, g9_14 kd_209, g9_15 kd_209, g9_16 kd_209, g9_17 kd_209, g9_18 kd_209, g9_19 kd_209, g9_20 kd_209, g9_21 kd_209, g9_22 kd_209, g9_23 kd_209, g9_24 kd_209, g9_25 kd_209, p9_1 kd_209, p9_10 kd_209, p9_11 kd_209, p9_12 kd_209, p9_13 kd_209, p9_14 kd_209, p9_15 kd_209, p9_24 kd_209, p9_25 kd_209]
      rw [wa (by rfl) (by decide) (by rw [kd_223]; show j < 2; omega), Option.bind_some]
      simp only [Option.bind_some, Nat.reduceAdd, ob9 kd_209, g9_0 kd_209, g9_1 kd_209, g9_2 kd_209, g9_3 kd_209, g9_4 kd_209, g9_5 kd_209, g9_6 kd_209, g9_7 kd_209, g9_8 kd_209, g9_9 kd_209, g9_10 kd_209, g9_11 kd_209, g9_12 kd_209, g9_13 kd_209, g9_14 kd_209, g9_15 kd_209, g9_16 kd_209, g9_17 kd_209, g9_18 kd_209, g9_19 kd_209, g9_20 kd_209, g9_21 kd_209, g9_22 kd_209, g9_23 kd_209, g9_24 kd_209, g9_25 kd_209, p9_1 kd_209, p9_10 kd_209, p9_11 kd_209, p9_12 kd_209, p9_13 kd_209, p9_14 kd_209, p9_15 kd_209, p9_24 kd_209, p9_25 kd_209, m219_0]
      rw [stI_n _ _ (by decide : (223 : Nat) ≠ 220), k223, show vp_nar .boolean 1 = nI 1 from rfl, hS3, ← hS3, stI_n _ _ (by decide), stI_n _ _ (by decide), k219, h1.1]
    · intro m i hi
      show fX10_keep_b44c F _ 209 (nI j) (nI i) (hp _) = fX10_keep_b44 F m 209 (nI j) (nI (i + 1)) (hp _)
      unfold fX10_keep_b44c
      rw [if_neg (show ¬ (340 : Int32) ≤ nI i from nI_ge (b := 340) hi (by decide))]
      simp only [Option.bind_some, Nat.reduceAdd, ob9 kd_209, g9_0 kd_209, g9_1 kd_209, g9_2 kd_209, g9_3 kd_209, g9_4 kd_209, g9_5 kd_209, g9_6 kd_209, g9_7 kd_209, g9_8 kd_209, g9_9 kd_209, g9_10 kd_209, g9_11 kd_209, g9_12 kd_209, g9_13 kd_209, g9_14 kd_209, g9_15 kd_209, g9_16 kd_209, g9_17 kd_209, g9_18 kd_209, g9_19 kd_209, g9_20 kd_209, g9_21 kd_209, g9_22 kd_209, g9_23 kd_209, g9_24 kd_209, g9_25 kd_209, p9_1 kd_209, p9_10 kd_209, p9_11 kd_209, p9_12 kd_209, p9_13 kd_209, p9_14 kd_209, p9_15 kd_209, p9_24 kd_209, p9_25 kd_209, la1, lm340, nI_add]
      rw [ra (by rfl) (by decide) (by rw [kd_221]; show i < 1020; omega)]
      simp only [Option.bind_some, Nat.reduceAdd]
      rw [wa (by rfl) (by decide) (by rw [kd_221]; show 340 * (1 + j) + i < 1020; omega), Option.bind_some, nI_1, Nat.zero_add]
  have r221 : ∀ x, S3.1 221 x = if 340 * (1 + j) ≤ x ∧ x < 340 * (1 + j) + 340 then S.1 221 (x - 340 * (1 + j)) else S.1 221 x := by
    intro x
    rw [← hS3, stI_n _ _ (by decide), stI_n _ _ (by decide), ← hS2, cps_d, ← hS1, cps_n S (by decide), Nat.zero_add]
  have r222 : ∀ x, S3.1 222 x = if 34 * j ≤ x ∧ x < 34 * j + 34 then S.1 219 (x - 34 * j) else S.1 222 x := by
    intro x
    rw [← hS3, stI_n _ _ (by decide), stI_n _ _ (by decide), ← hS2, cps_n S1 (by decide), ← hS1, cps_d, Nat.zero_add]
  have r219 : S3.1 219 = S.1 219 := by rw [← hS3, stI_n _ _ (by decide), stI_n _ _ (by decide), k219]
  have r220 : ∀ x, S3.1 220 x = if x = 1 + j then nI k else S.1 220 x := by
    intro x
    rw [← hS3, stI_n _ _ (by decide), stI_s, upd_at, k2]
  refine ⟨S3, hl1.trans hl2, ?_, ⟨?_, ?_, h3, ?_⟩, ⟨?_, ?_, h3, ?_⟩, ?_, ?_, ?_⟩
  · rw [← hS3, ← hS2, ← hS1]
    exact Fr.tr (Fr.tr (Fr.tr (Fr.cpsF (by omega) (by omega)) (Fr.cpsF (by omega) (by omega))) (Fr.stI (by omega) (by omega))) (Fr.stI (by omega) (by omega))
  · rw [MM_o] at h1 ⊢
    exact h1.off h9 h6 (fun x hx => by rw [r219])
  · rw [r220, if_neg (by omega)]; exact h2
  · intro i hi
    exact (h4 i hi).off h9 h6 (fun x hx => by rw [r221, if_neg (by omega)])
  · rw [MM_o] at h1
    obtain ⟨x1, x2, x3, x4, x5⟩ := h1
    simp only [Nat.zero_add] at x2 x3 x4 x5
    refine ⟨?_, fun s hs => ?_, fun s hs => ?_, fun s hs => ?_, fun s hs => ?_⟩
    · rw [r222, if_pos (by omega), Nat.sub_self]; exact x1
    · rw [r222, if_pos (by omega), Nat.add_sub_cancel_left]; exact x2 s hs
    · rw [r222, if_pos (by omega), Nat.add_sub_cancel_left]; exact x3 s hs
    · rw [r222, if_pos (by omega), Nat.add_sub_cancel_left]; exact x4 s hs
    · rw [r222, if_pos (by omega), Nat.add_sub_cancel_left]; exact x5 s hs
  · rw [r220, if_pos rfl]
  · intro i hi
    obtain ⟨x1, x2, x3, x4, x5⟩ := h4 i hi
    have e : ∀ y, y < 34 → S3.1 221 (340 * (1 + j) + 34 * i + y) = S.1 221 (34 * i + y) := by
      intro y hy
      rw [r221, if_pos (by omega), show 340 * (1 + j) + 34 * i + y - 340 * (1 + j) = 34 * i + y by omega]
    refine ⟨?_, fun s hs => ?_, fun s hs => ?_, fun s hs => ?_, fun s hs => ?_⟩
    · have := e 0 (by omega); rw [Nat.add_zero, Nat.add_zero] at this; rw [this]; exact x1
    · rw [e _ (by omega)]; exact x2 s hs
    · rw [e _ (by omega)]; exact x3 s hs
    · rw [e _ (by omega)]; exact x4 s hs
    · rw [e _ (by omega)]; exact x5 s hs
  · rw [← hS3, stI_s]; exact pk_us
  · intro i hi
    rw [← hS3, stI_s, upd_at, if_neg hi]
  · intro i μ' k' ms' hi hij ⟨y1, y2, y3, y4⟩
    refine ⟨y1.off h9 h6 (fun x hx => by rw [r222, if_neg (by omega)]), by rw [r220, if_neg (by omega)]; exact y2, y3, fun t ht => (y4 t ht).off h9 h6 (fun x hx => by rw [r221, if_neg (by omega)])⟩
theorem back_eq (F : Nat) (hF : 4000 ≤ F) {S : ST} {n c k j : Nat} {μ : Mo} {ms : Nat → Mo} (h9 : n ≤ 9) (h6 : c ≤ 6) (hi0 : MImg S n c j μ k ms) (hj : j < 2) (hk1 : S.1 223 j = nI 1) : ∃ S', fX10_back F (hp S) 209 (nI j) = some (nI (μ 4 0), hp S') ∧ Fr 219 222 S S' ∧ MNow S' n c μ k ms ∧ (∀ i μ' k' ms', i < 2 → MImg S n c i μ' k' ms' → MImg S' n c i μ' k' ms') := by
  obtain ⟨h1, h2, h3, h4⟩ := hi0
  unfold fX10_back
  simp only [Option.bind_some, Nat.reduceAdd, ob9 kd_209, g9_0 kd_209, g9_1 kd_209, g9_2 kd_209, g9_3 kd_209, g9_4 kd_209, g9_5 kd_209, g9_6 kd_209, g9_7 kd_209, g9_8 kd_209, g9_9 kd_209, g9_10 kd_209, g9_11 kd_209, g9_12 kd_209, g9_13 kd_209, g9_14 kd_209, g9_15 kd_209, g9_16 kd_209, g9_17 kd_209, g9_18 kd_209, g9_19 kd_209, g9_20 kd_209, g9_21 kd_209, g9_22 kd_209, g9_23 kd_209, g9_24 kd_209, g9_25 kd_209, p9_1 kd_209, p9_10 kd_209, p9_11 kd_209, p9_12 kd_209, p9_13 kd_209, p9_14 kd_209, p9_15 kd_209, p9_24 kd_209, p9_25 kd_209, in_eq]
  have hin : (0 : Int32) ≤ nI j ∧ nI j ≤ 1 := ⟨nI_pos' (by omega), show nI j ≤ nI 1 from nI_le (by omega) (by decide)⟩
  rw [if_pos hin, if_neg (by decide), ra (by rfl) (by decide) (by rw [kd_223]; show j < 2; omega)]
  simp only [Option.bind_some, Nat.reduceAdd]
  rw [hk1, if_neg (by decide)]
  generalize hS1 : cps S 219 0 222 (34 * j) 34 = S1
  have hl1 : fX10_back_b25 F F 209 (nI j) (nI 0) (hp S) = fX10_back_b56 F F 209 (nI j) (nI 0) (hp S1) := by
    refine cploop F (fun m i st => fX10_back_b25 F m 209 (nI j) (nI i) (hp st)) S 219 0 222 (34 * j) 34 _ (by omega) (fun h => absurd h (by decide)) ?_ ?_
    · intro m
      show fX10_back_b25c F _ 209 (nI j) (nI 34) (hp _) = _
      unfold fX10_back_b25c
      rw [if_pos (by decide), hS1]
      rfl
    · intro m i hi
      show fX10_back_b25c F _ 209 (nI j) (nI i) (hp _) = fX10_back_b25 F m 209 (nI j) (nI (i + 1)) (hp _)
      unfold fX10_back_b25c
      rw [if_neg (show ¬ (34 : Int32) ≤ nI i from nI_ge (b := 34) hi (by decide))]
      simp only [Option.bind_some, Nat.reduceAdd, ob9 kd_209, g9_0 kd_209, g9_1 kd_209, g9_2 kd_209, g9_3 kd_209, g9_4 kd_209, g9_5 kd_209, g9_6 kd_209, g9_7 kd_209, g9_8 kd_209, g9_9 kd_209, g9_10 kd_209, g9_11 kd_209, g9_12 kd_209, g9_13 kd_209, g9_14 kd_209, g9_15 kd_209, g9_16 kd_209, g9_17 kd_209, g9_18 kd_209, g9_19 kd_209, g9_20 kd_209, g9_21 kd_209, g9_22 kd_209, g9_23 kd_209, g9_24 kd_209, g9_25 kd_209, p9_1 kd_209, p9_10 kd_209, p9_11 kd_209, p9_12 kd_209, p9_13 kd_209, p9_14 kd_209, p9_15 kd_209, p9_24 kd_209, p9_25 kd_209, lm34, nI_add]
      rw [ra (by rfl) (by decide) (by rw [kd_222]; show 34 * j + i < 68; omega)]
      simp only [Option.bind_some, Nat.reduceAdd]
      rw [wa (by rfl) (by decide) (by rw [kd_219]; exact hi), Option.bind_some, nI_1, Nat.zero_add]
  generalize hS2 : cps S1 221 0 221 (340 * (1 + j)) 340 = S2
  have k2 : ∀ i, S2.1 220 i = S.1 220 i := fun i => by rw [← hS2, cps_n S1 (by decide), ← hS1, cps_n S (by decide)]
  generalize hS3 : stI S2 220 (upd (S2.1 220) 0 (nI k)) = S3
  have r219 : ∀ x, S3.1 219 x = if 0 ≤ x ∧ x < 0 + 34 then S.1 222 (34 * j + (x - 0)) else S.1 219 x := by
    intro x
    rw [← hS3, stI_n _ _ (by decide), ← hS2, cps_n S1 (by decide), ← hS1, cps_d]
  have r221 : ∀ x, S3.1 221 x = if 0 ≤ x ∧ x < 0 + 340 then S.1 221 (340 * (1 + j) + (x - 0)) else S.1 221 x := by
    intro x
    rw [← hS3, stI_n _ _ (by decide), ← hS2, cps_d, ← hS1, cps_n S (by decide)]
  have r222 : S3.1 222 = S.1 222 := by rw [← hS3, stI_n _ _ (by decide), ← hS2, cps_n S1 (by decide), ← hS1, cps_n S (by decide)]
  have r220 : ∀ x, S3.1 220 x = if x = 0 then nI k else S.1 220 x := by
    intro x
    rw [← hS3, stI_s, upd_at, k2]
  have hl2 : fX10_back_b56 F F 209 (nI j) (nI 0) (hp S1) = some (nI (μ 4 0), hp S3) := by
    refine cploop F (fun m i st => fX10_back_b56 F m 209 (nI j) (nI i) (hp st)) S1 221 0 221 (340 * (1 + j)) 340 _ (by omega) (fun _ i hi => by omega) ?_ ?_
    · intro m
      show fX10_back_b56c F _ 209 (nI j) (nI 340) (hp _) = _
      unfold fX10_back_b56c
      rw [if_pos (by decide), hS2]
      simp only [Option.bind_some, Nat.reduceAdd, ob9 kd_209, g9_0 kd_209, g9_1 kd_209, g9_2 kd_209, g9_3 kd_209, g9_4 kd_209, g9_5 kd_209, g9_6 kd_209, g9_7 kd_209, g9_8 kd_209, g9_9 kd_209, g9_10 kd_209, g9_11 kd_209, g9_12 kd_209, g9_13 kd_209, g9_14 kd_209, g9_15 kd_209, g9_16 kd_209, g9_17 kd_209, g9_18 kd_209, g9_19 kd_209, g9_20 kd_209, g9_21 kd_209, g9_22 kd_209, g9_23 kd_209, g9_24 kd_209, g9_25 kd_209, p9_1 kd_209, p9_10 kd_209, p9_11 kd_209, p9_12 kd_209, p9_13 kd_209, p9_14 kd_209, p9_15 kd_209, p9_24 kd_209, p9_25 kd_209, la1]
      rw [ra (by rfl) (by decide) (by rw [kd_220]; show 1 + j < 3; omega), k2, h2]
      simp only [Option.bind_some, Nat.reduceAdd, ob9 kd_209, g9_0 kd_209, g9_1 kd_209, g9_2 kd_209, g9_3 kd_209, g9_4 kd_209, g9_5 kd_209, g9_6 kd_209, g9_7 kd_209, g9_8 kd_209, g9_9 kd_209, g9_10 kd_209, g9_11 kd_209, g9_12 kd_209, g9_13 kd_209, g9_14 kd_209, g9_15 kd_209, g9_16 kd_209, g9_17 kd_209, g9_18 kd_209, g9_19 kd_209, g9_20 kd_209, g9_21 kd_209, g9_22 kd_209, g9_23 kd_209, g9_24 kd_209, g9_25 kd_209, p9_1 kd_209, p9_10 kd_209, p9_11 kd_209, p9_12 kd_209, p9_13 kd_209, p9_14 kd_209, p9_15 kd_209, p9_24 kd_209, p9_25 kd_209, w220_0, m219_0]
      rw [hS3, r219, if_pos (by omega)]
      simp only [Nat.sub_zero, Nat.add_zero]
      rw [h1.1]
    · intro m i hi
      show fX10_back_b56c F _ 209 (nI j) (nI i) (hp _) = fX10_back_b56 F m 209 (nI j) (nI (i + 1)) (hp _)
      unfold fX10_back_b56c
      rw [if_neg (show ¬ (340 : Int32) ≤ nI i from nI_ge (b := 340) hi (by decide))]
      simp only [Option.bind_some, Nat.reduceAdd, ob9 kd_209, g9_0 kd_209, g9_1 kd_209, g9_2 kd_209, g9_3 kd_209, g9_4 kd_209, g9_5 kd_209, g9_6 kd_209, g9_7 kd_209, g9_8 kd_209, g9_9 kd_209, g9_10 kd_209, g9_11 kd_209, g9_12 kd_209, g9_13 kd_209, g9_14 kd_209, g9_15 kd_209, g9_16 kd_209, g9_17 kd_209, g9_18 kd_209, g9_19 kd_209, g9_20 kd_209, g9_21 kd_209, g9_22 kd_209, g9_23 kd_209, g9_24 kd_209, g9_25 kd_209, p9_1 kd_209, p9_10 kd_209, p9_11 kd_209, p9_12 kd_209, p9_13 kd_209, p9_14 kd_209, p9_15 kd_209, p9_24 kd_209, p9_25 kd_209, la1, lm340, nI_add]
      rw [ra (by rfl) (by decide) (by rw [kd_221]; show 340 * (1 + j) + i < 1020; omega)]
      simp only [Option.bind_some, Nat.reduceAdd]
      rw [wa (by rfl) (by decide) (by rw [kd_221]; show i < 1020; omega), Option.bind_some, nI_1, Nat.zero_add]
  refine ⟨S3, hl1.trans hl2, ?_, ⟨?_, ?_, h3, ?_⟩, ?_⟩
  · rw [← hS3, ← hS2, ← hS1]
    exact Fr.tr (Fr.tr (Fr.cpsF (by omega) (by omega)) (Fr.cpsF (by omega) (by omega))) (Fr.stI (by omega) (by omega))
  · obtain ⟨x1, x2, x3, x4, x5⟩ := h1
    refine ⟨?_, fun s hs => ?_, fun s hs => ?_, fun s hs => ?_, fun s hs => ?_⟩
    · rw [r219, if_pos (by omega), Nat.sub_zero, Nat.add_zero]; exact x1
    · rw [r219, if_pos (by omega), Nat.sub_zero]; exact x2 s hs
    · rw [r219, if_pos (by omega), Nat.sub_zero]; exact x3 s hs
    · rw [r219, if_pos (by omega), Nat.sub_zero]; exact x4 s hs
    · rw [r219, if_pos (by omega), Nat.sub_zero]; exact x5 s hs
  · rw [r220, if_pos rfl]
  · intro i hi
    obtain ⟨x1, x2, x3, x4, x5⟩ := h4 i hi
    have e : ∀ y, y < 34 → S3.1 221 (34 * i + y) = S.1 221 (340 * (1 + j) + 34 * i + y) := by
      intro y hy
      rw [r221, if_pos (by omega), show 340 * (1 + j) + (34 * i + y - 0) = 340 * (1 + j) + 34 * i + y by omega]
    refine ⟨?_, fun s hs => ?_, fun s hs => ?_, fun s hs => ?_, fun s hs => ?_⟩
    · have := e 0 (by omega); rw [Nat.add_zero, Nat.add_zero] at this; rw [this]; exact x1
    · rw [e _ (by omega)]; exact x2 s hs
    · rw [e _ (by omega)]; exact x3 s hs
    · rw [e _ (by omega)]; exact x4 s hs
    · rw [e _ (by omega)]; exact x5 s hs
  · intro i μ' k' ms' hi ⟨y1, y2, y3, y4⟩
    refine ⟨y1.off h9 h6 (fun x hx => by rw [r222]), by rw [r220, if_neg (by omega)]; exact y2, y3, fun t ht => (y4 t ht).off h9 h6 (fun x hx => by rw [r221, if_neg (by omega)])⟩

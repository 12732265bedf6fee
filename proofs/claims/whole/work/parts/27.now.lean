/-! what a Now does -/
def remK (k : Nat) : Nat := if k < 10 then k + 1 else 10
def remM (k : Nat) (ms : Nat → Mo) (μ : Mo) : Nat → Mo := fun i => if k < 10 then (if i = k then μ else ms i) else (if i = 9 then μ else ms (i + 1))
theorem va_up_at {α : Type} (f : Nat → α) (k : Nat) (v : α) (j : Nat) : va_up f k v j = if j = k then v else f j := rfl
theorem upd_at (f : Nat → Int32) (k : Nat) (v : Int32) (j : Nat) : upd f k v j = if j = k then v else f j := by
  by_cases h : j = k
  · rw [if_pos h, h]; exact pk_us
  · rw [if_neg h]; exact pk_un h
theorem stR_stR (S : ST) (q : Nat) (f g : Nat → Option Nat) : stR (stR S q f) q g = stR S q g := by
  unfold stR
  simp only [bx_uu]
theorem stI_stI (S : ST) (q : Nat) (f g : Nat → Int32) : stI (stI S q f) q g = stI S q g := by
  unfold stI
  simp only [bx_uu]
theorem stR_id {S : ST} {q : Nat} {f : Nat → Option Nat} (h : ∀ j, f j = S.2.2.2 q j) : stR S q f = S := by
  have : va_up S.2.2.2 q f = S.2.2.2 := by
    funext b
    rw [va_up_at]
    by_cases hb : b = q
    · rw [if_pos hb, hb]; funext j; exact h j
    · rw [if_neg hb]
  unfold stR
  rw [this]
theorem stI_id {S : ST} {q : Nat} {f : Nat → Int32} (h : ∀ j, f j = S.1 q j) : stI S q f = S := by
  have : va_up S.1 q f = S.1 := by
    funext b
    rw [va_up_at]
    by_cases hb : b = q
    · rw [if_pos hb, hb]; funext j; exact h j
    · rw [if_neg hb]
  unfold stI
  rw [this]
theorem loopB {σ R : Type} (W : Nat → Nat → σ → Option R) (i0 n : Nat) (acc : Nat → σ) (out : Option R) (hx : ∀ k, W (k + 1) n (acc n) = out) (hs : ∀ k i, i0 ≤ i → i < n → W (k + 1) i (acc i) = W k (i + 1) (acc (i + 1))) : ∀ k i, i0 ≤ i → i ≤ n → n - i < k → W k i (acc i) = out := by
  intro k
  induction k with
  | zero => intro i h0 h1 h2; omega
  | succ k ih =>
    intro i h0 h1 h2
    by_cases h : i = n
    · subst h; exact hx k
    · rw [hs k i h0 (by omega)]
      exact ih (i + 1) (by omega) (by omega) (by omega)
theorem lose_eq (F : Nat) (hF : 4000 ≤ F) {S : ST} {a : Nat} {pt : Nat → Nat} (ha : IsN a) (hr : NowR S a pt) : fX3_loseOldest F (hp S) a = some (hp (stJ (stR S (a + 6) (fun j => if j < 9 then S.2.2.2 (a + 6) (j + 1) else if j = 9 then S.2.2.2 (a + 6) 0 else S.2.2.2 (a + 6) j)) a 2 9)) := by
  obtain ⟨a0, a1, a6, am⟩ := ha
  obtain ⟨⟨p1, p2⟩, hr⟩ := hr
  have rdR : ∀ (S : ST) (j v : Nat), j < 10 → S.2.2.2 (a + 6) j = some v → o_aR (hp S) (a + 6) 3 (nI j) = some v := fun S j v hj hv => raR (by rw [a6]) (Or.inl rfl) (by rw [a6]; exact hj) hv
  have wrR : ∀ (S : ST) (j i : Nat), j < 10 → i < 10 → o_sR (hp S) (a + 6) 3 2 (nI j) (a + 7 + 5 * i) = some (hp (stR S (a + 6) (va_up (S.2.2.2 (a + 6)) j (some (a + 7 + 5 * i))))) := fun S j i hj hi => wr_R (n := 10) a6 (Or.inl rfl) hj (by decide) (am i hi).1 (by decide)
  unfold fX3_loseOldest
  simp only [Option.bind_some, Nat.reduceAdd, ob3 a0, g3_1 a0]
  rw [show (0 : Int32) = nI 0 from rfl, rdR S 0 _ (by omega) (hr 0 (by omega))]
  simp only [Option.bind_some, Nat.reduceAdd]
  have := loopB (fun k i st => fX3_loseOldest_b9 F k a (a + 7 + 5 * pt 0) (nI i) (hp st)) 1 10 (fun i => stR S (a + 6) (fun j => if j + 1 < i then S.2.2.2 (a + 6) (j + 1) else S.2.2.2 (a + 6) j)) (some (hp (stJ (stR S (a + 6) (fun j => if j < 9 then S.2.2.2 (a + 6) (j + 1) else if j = 9 then S.2.2.2 (a + 6) 0 else S.2.2.2 (a + 6) j)) a 2 9))) ?_ ?_ F 1 (by omega) (by omega) (by omega)
  · refine Eq.trans ?_ this
    show _ = fX3_loseOldest_b9 F F a (a + 7 + 5 * pt 0) (nI 1) (hp _)
    rw [stR_id (fun j => if_neg (by omega))]
    rfl
  · intro k
    show fX3_loseOldest_b9c F _ a _ (nI 10) (hp _) = _
    unfold fX3_loseOldest_b9c
    rw [if_pos (by decide)]
    simp only [Option.bind_some, Nat.reduceAdd, g3_1 a0]
    rw [show (9 : Int32) = nI 9 from rfl, wrR _ 9 (pt 0) (by omega) (p1 0 (by omega))]
    simp only [Option.bind_some, Nat.reduceAdd, p3_2 a0]
    rw [stR_s, stR_stR]
    congr 4
    funext j
    rw [va_up_at]
    by_cases hj : j = 9
    · subst hj
      simp [hr 0 (by omega)]
    · by_cases hj2 : j < 9
      · rw [if_neg hj, if_pos (by omega), if_pos hj2]
      · rw [if_neg hj, if_neg (by omega), if_neg hj2, if_neg hj]
  · intro k i h1 hi
    show fX3_loseOldest_b9c F _ a _ (nI i) (hp _) = fX3_loseOldest_b9 F k a _ (nI (i + 1)) (hp _)
    unfold fX3_loseOldest_b9c
    obtain ⟨m, rfl⟩ : ∃ m, i = m + 1 := ⟨i - 1, by omega⟩
    rw [if_neg (show ¬ (10 : Int32) ≤ nI (m + 1) from nI_ge (b := 10) hi (by decide))]
    simp only [Option.bind_some, Nat.reduceAdd, g3_1 a0]
    rw [rdR _ (m + 1) (a + 7 + 5 * pt (m + 1)) hi (by rw [stR_s, if_neg (by omega)]; exact hr (m + 1) hi)]
    simp only [Option.bind_some, Nat.reduceAdd, nI_pred, nI_1]
    rw [wrR _ m (pt (m + 1)) (by omega) (p1 _ hi)]
    simp only [Option.bind_some, Nat.reduceAdd]
    rw [stR_s, stR_stR]
    congr 3
    funext j
    rw [va_up_at]
    by_cases hj : j = m
    · subst hj
      rw [if_pos rfl, if_pos (by omega), hr (j + 1) hi]
    · rw [if_neg hj]
      by_cases hj2 : j + 1 < m + 1
      · rw [if_pos hj2, if_pos (by omega)]
      · rw [if_neg hj2, if_neg (by omega)]
theorem remember_b13 (F : Nat) {S : ST} {n c a k : Nat} {μ : Mo} {ms : Nat → Mo} (ha : IsN a) (h9 : n ≤ 9) (h6 : c ≤ 6) (hn : NowAt S n c a μ k ms) (hk : k < 10) : ∃ S', fX3_remember_b13 F a (hp S) = some (hp S') ∧ Fr a (a + 57) S S' ∧ NowAt S' n c a μ (k + 1) (fun i => if i = k then μ else ms i) := by
  have ha' := ha
  obtain ⟨a0, a1, a6, am⟩ := ha
  obtain ⟨h1, h2, h3, pt, ⟨⟨p1, p2⟩, hr⟩, h4⟩ := hn
  have hpk := p1 k hk
  obtain ⟨S1, e1, f1, m1⟩ := mom_become_mu F (q := a + 7 + 5 * pt k) (m := a + 1) (am _ hpk) a1 (by omega) h9 h6 h1
  have hk1 : S1.2.1 a 2 = nI k := by rw [(f1 a (by omega)).2.1]; exact h2
  refine ⟨stJ S1 a 2 (nI (k + 1)), ?_, ?_, ?_⟩
  · unfold fX3_remember_b13
    simp only [Option.bind_some, Nat.reduceAdd, g3_0 a0, g3_1 a0, g3_2 a0, h2]
    rw [raR (by rw [a6]) (Or.inl rfl) (by rw [a6]; exact hk) (hr k hk)]
    simp only [Option.bind_some, Nat.reduceAdd, e1, g3_2 a0, p3_2 a0, hk1, nI_1]
  · exact Fr.tr (f1.mono (by omega) (by omega)) (Fr.stJ (by omega) (by omega))
  · have f2 : Fr a (a + 1) S1 (stJ S1 a 2 (nI (k + 1))) := Fr.stJ (by omega) (by omega)
    refine ⟨(h1.fr f1 (by omega)).fr f2 (by omega), stJ_s _ _ _ _, by omega, pt, ⟨⟨p1, p2⟩, fun i hi => ?_⟩, fun i hi => ?_⟩
    · rw [stJ_22, (f1 (a + 6) (by omega)).2.2.2]
      exact hr i hi
    · have hpi := p1 i (by omega)
      dsimp only
      by_cases hik : i = k
      · subst hik
        rw [if_pos rfl]
        exact m1.fr f2 (by omega)
      · rw [if_neg hik]
        have hne : pt i ≠ pt k := fun e => hik (p2 i k (by omega) hk e)
        exact ((h4 i (by omega)).fr f1 (by omega)).fr f2 (by omega)
theorem remember_eq (F : Nat) (hF : 4000 ≤ F) {S : ST} {n c a k : Nat} {μ : Mo} {ms : Nat → Mo} (ha : IsN a) (h9 : n ≤ 9) (h6 : c ≤ 6) (hn : NowAt S n c a μ k ms) : ∃ S', fX3_remember F (hp S) a = some (hp S') ∧ Fr a (a + 57) S S' ∧ NowAt S' n c a μ (remK k) (remM k ms μ) := by
  have hk := hn.2.2.1
  unfold fX3_remember
  simp only [Option.bind_some, Nat.reduceAdd, ob3 ha.1, g3_2 ha.1, hn.2.1]
  by_cases h : k < 10
  · rw [if_pos (show nI k < (10 : Int32) from nI_lt (b := 10) h (by decide))]
    have e1 : remK k = k + 1 := if_pos h
    have e2 : remM k ms μ = fun i => if i = k then μ else ms i := by
      funext i
      exact if_pos h
    rw [e1, e2]
    exact remember_b13 F ha h9 h6 hn h
  · have hk10 : k = 10 := by omega
    subst hk10
    rw [if_neg (by decide)]
    obtain ⟨h1, h2, h3, pt, hr, h4⟩ := hn
    rw [lose_eq F hF ha hr]
    obtain ⟨⟨p1, p2⟩, hr⟩ := hr
    rw [Option.bind_some]
    have f1 : Fr (a + 6) (a + 7) S (stR S (a + 6) (fun j => if j < 9 then S.2.2.2 (a + 6) (j + 1) else if j = 9 then S.2.2.2 (a + 6) 0 else S.2.2.2 (a + 6) j)) := Fr.stR (by omega) (by omega)
    have hn' : NowAt (stJ (stR S (a + 6) (fun j => if j < 9 then S.2.2.2 (a + 6) (j + 1) else if j = 9 then S.2.2.2 (a + 6) 0 else S.2.2.2 (a + 6) j)) a 2 9) n c a μ 9 (fun i => ms (i + 1)) := by
      have f2 := Fr.stJ (lo := a) (hi := a + 1) (q := a) (k := 2) (v := 9) (S := stR S (a + 6) (fun j => if j < 9 then S.2.2.2 (a + 6) (j + 1) else if j = 9 then S.2.2.2 (a + 6) 0 else S.2.2.2 (a + 6) j)) (by omega) (by omega)
      refine ⟨(h1.fr f1 (by omega)).fr f2 (by omega), stJ_s _ _ _ _, by omega, fun i => if i < 9 then pt (i + 1) else pt 0, ⟨⟨fun i hi => ?_, fun i j hi hj h => ?_⟩, fun i hi => ?_⟩, fun i hi => ?_⟩
      · dsimp only
        split
        · exact p1 _ (by omega)
        · exact p1 _ (by omega)
      · dsimp only at h
        split at h <;> split at h
        · have := p2 _ _ (by omega) (by omega) h; omega
        · have := p2 _ _ (by omega) (by omega) h; omega
        · have := p2 _ _ (by omega) (by omega) h; omega
        · omega
      · rw [stJ_22, stR_s]
        dsimp only
        by_cases hi9 : i < 9
        · rw [if_pos hi9, hr (i + 1) (by omega), if_pos hi9]
        · rw [if_neg hi9, if_pos (by omega), hr 0 (by omega), if_neg hi9]
      · dsimp only
        rw [if_pos hi]
        have := p1 (i + 1) (by omega)
        exact ((h4 (i + 1) (by omega)).fr f1 (by omega)).fr f2 (by omega)
    obtain ⟨S', e1, f3, hn2⟩ := remember_b13 F ha h9 h6 hn' (by omega)
    refine ⟨S', e1, Fr.tr (Fr.tr (f1.mono (by omega) (by omega)) (Fr.stJ (by omega) (by omega))) f3, ?_⟩
    have e2 : remM 10 ms μ = fun i => if i = 9 then μ else ms (i + 1) := by
      funext i
      exact if_neg (by omega)
    rw [e2]
    exact hn2
theorem recall_eq (F : Nat) {S : ST} {n c a k : Nat} {μ : Mo} {ms : Nat → Mo} (ha : IsN a) (h9 : n ≤ 9) (h6 : c ≤ 6) (hn : NowAt S n c a μ (k + 1) ms) : ∃ S', fX3_recall F (hp S) a = some (hp S') ∧ Fr a (a + 57) S S' ∧ NowAt S' n c a (ms k) k ms := by
  obtain ⟨a0, a1, a6, am⟩ := ha
  obtain ⟨h1, h2, h3, pt, ⟨⟨p1, p2⟩, hr⟩, h4⟩ := hn
  have hpk := p1 k (by omega)
  have f1 : Fr a (a + 1) S (stJ S a 2 (nI k)) := Fr.stJ (by omega) (by omega)
  have hm := (h4 k (by omega)).fr f1 (by omega)
  obtain ⟨S1, e1, f2, m1⟩ := mom_become_mu F (q := a + 1) (m := a + 7 + 5 * pt k) a1 (am _ hpk) (by omega) h9 h6 hm
  refine ⟨S1, ?_, ?_, m1, ?_, by omega, pt, ⟨⟨p1, p2⟩, fun i hi => ?_⟩, fun i hi => ?_⟩
  · unfold fX3_recall
    simp only [Option.bind_some, Nat.reduceAdd, ob3 a0, g3_2 a0, h2]
    rw [if_neg (show ¬ nI (k + 1) ≤ (0 : Int32) from nI_nle (by omega) (by omega))]
    simp only [nI_pred, p3_2 a0, Option.bind_some, Nat.reduceAdd, g3_0 a0, g3_1 a0, g3_2 a0, stJ_s]
    rw [raR (by rw [a6]) (Or.inl rfl) (by rw [a6]; show k < 10; omega) (by rw [stJ_22]; exact hr k (by omega))]
    simp only [Option.bind_some, Nat.reduceAdd, e1]
  · exact Fr.tr (f1.mono (by omega) (by omega)) (f2.mono (by omega) (by omega))
  · rw [(f2 a (by omega)).2.1]
    exact stJ_s _ _ _ _
  · rw [(f2 (a + 6) (by omega)).2.2.2, stJ_22]
    exact hr i hi
  · have hpi := p1 i (by omega)
    exact ((h4 i (by omega)).fr f1 (by omega)).fr f2 (by omega)
theorem loopI {σ R : Type} (W : Nat → Nat → σ → Option R) (n : Nat) (I : Nat → σ → Prop) (P : Option R → Prop) (hx : ∀ k st, I n st → P (W (k + 1) n st)) (hs : ∀ k i st, i < n → I i st → ∃ st', I (i + 1) st' ∧ W (k + 1) i st = W k (i + 1) st') : ∀ k i st, i ≤ n → n - i < k → I i st → P (W k i st) := by
  intro k
  induction k with
  | zero => intro i st h1 h2; omega
  | succ k ih =>
    intro i st h1 h2 hI
    by_cases h : i = n
    · subst h; exact hx k st hI
    · obtain ⟨st', h3, h4⟩ := hs k i st (by omega) hI
      rw [h4]
      exact ih (i + 1) st' (by omega) (by omega) h3
theorem nowBecome_eq (F : Nat) (hF : 4000 ≤ F) {S : ST} {n c a b k : Nat} {μ : Mo} {ms : Nat → Mo} {pta : Nat → Nat} (ha : IsN a) (hb : IsN b) (hd : a + 57 ≤ b ∨ b + 57 ≤ a) (h9 : n ≤ 9) (h6 : c ≤ 6) (hra : NowR S a pta) (hn : NowAt S n c b μ k ms) : ∃ S', fX3_become F (hp S) a b = some (hp S') ∧ Fr a (a + 57) S S' ∧ NowAt S' n c a μ k ms := by
  obtain ⟨a0, a1, a6, am⟩ := ha
  obtain ⟨b0, b1, b6, bm⟩ := hb
  obtain ⟨h1, h2, h3, ptb, ⟨⟨q1, q2⟩, hrb⟩, h4⟩ := hn
  obtain ⟨⟨p1, p2⟩, hra⟩ := hra
  obtain ⟨S1, e1, f1, m1⟩ := mom_become_mu F (q := a + 1) (m := b + 1) a1 b1 (by omega) h9 h6 h1
  unfold fX3_become
  simp only [Option.bind_some, Nat.reduceAdd, ob3 a0, g3_0 a0, g3_0 b0, e1]
  refine loopI (fun k i (st : ST) => fX3_become_b13 F k a b (nI i) (hp st)) 10 (fun i st => Fr a (a + 57) S st ∧ MomAt st n c (a + 1) μ ∧ (∀ j, j < 10 → st.2.2.2 (a + 6) j = some (a + 7 + 5 * pta j)) ∧ ∀ j, j < i → j < k → MomAt st n c (a + 7 + 5 * pta j) (ms j)) (fun r => ∃ S', r = some (hp S') ∧ Fr a (a + 57) S S' ∧ NowAt S' n c a μ k ms) ?_ ?_ F 0 S1 (by omega) (by omega) ⟨f1.mono (by omega) (by omega), m1, fun j hj => by rw [(f1 (a + 6) (by omega)).2.2.2]; exact hra j hj, fun j hj => absurd hj (by omega)⟩
  · intro k' st ⟨i1, i2, i3, i4⟩
    refine ⟨stJ st a 2 (nI k), ?_, Fr.tr i1 (Fr.stJ (by omega) (by omega)), ?_⟩
    · show fX3_become_b13c F _ a b (nI 10) (hp st) = _
      unfold fX3_become_b13c
      rw [if_pos (by decide)]
      simp only [Option.bind_some, Nat.reduceAdd, g3_2 b0, p3_2 a0]
      rw [(i1 b (by omega)).2.1, h2]
    · have f2 : Fr a (a + 1) st (stJ st a 2 (nI k)) := Fr.stJ (by omega) (by omega)
      refine ⟨i2.fr f2 (by omega), stJ_s _ _ _ _, h3, pta, ⟨⟨p1, p2⟩, i3⟩, fun i hi => ?_⟩
      have := p1 i (by omega)
      exact (i4 i (by omega) hi).fr f2 (by omega)
  · intro k' i st hi ⟨i1, i2, i3, i4⟩
    have hpi := p1 i hi
    have hqi := q1 i hi
    have hrbi : st.2.2.2 (b + 6) i = some (b + 7 + 5 * ptb i) := by rw [(i1 (b + 6) (by omega)).2.2.2]; exact hrb i hi
    obtain ⟨S2, e2, f2, m2⟩ := mom_become F (S := st) (q := a + 7 + 5 * pta i) (m := b + 7 + 5 * ptb i) (am _ hpi) (bm _ hqi) (by omega)
    refine ⟨S2, ⟨Fr.tr i1 (f2.mono (by omega) (by omega)), i2.fr f2 (by omega), fun j hj => by rw [(f2 (a + 6) (by omega)).2.2.2]; exact i3 j hj, fun j hj hjk => ?_⟩, ?_⟩
    · by_cases hji : j = i
      · subst hji
        have hm := (h4 j hjk).fr i1 (by omega)
        obtain ⟨x1, x2, x3, x4, x5⟩ := hm
        obtain ⟨y1, y2, y3⟩ := m2
        exact ⟨fun s hs => by rw [(y1 s (by omega)).1]; exact x1 s hs, fun s hs => by rw [(y1 s (by omega)).2.1]; exact x2 s hs, fun s hs => by rw [(y1 s (by omega)).2.2]; exact x3 s hs, fun s hs => by rw [y2 s (by omega)]; exact x4 s hs, by rw [y3]; exact x5⟩
      · have hpj := p1 j (by omega)
        have hne : pta j ≠ pta i := fun e => hji (p2 j i (by omega) hi e)
        exact (i4 j (by omega) hjk).fr f2 (by omega)
    · show fX3_become_b13c F _ a b (nI i) (hp st) = fX3_become_b13 F k' a b (nI (i + 1)) (hp S2)
      unfold fX3_become_b13c
      rw [if_neg (show ¬ (10 : Int32) ≤ nI i from nI_ge (b := 10) hi (by decide))]
      simp only [Option.bind_some, Nat.reduceAdd, g3_1 a0, g3_1 b0]
      rw [raR (by rw [a6]) (Or.inl rfl) (by rw [a6]; exact hi) (i3 i hi)]
      simp only [Option.bind_some, Nat.reduceAdd]
      rw [raR (by rw [b6]) (Or.inl rfl) (by rw [b6]; exact hi) hrbi]
      simp only [Option.bind_some, Nat.reduceAdd, e2, nI_1]

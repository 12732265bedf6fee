/-! what stays -/
def Fr (lo hi : Nat) (S S' : ST) : Prop := ∀ a, (a < lo ∨ hi ≤ a) → S'.1 a = S.1 a ∧ S'.2.1 a = S.2.1 a ∧ S'.2.2.1 a = S.2.2.1 a ∧ S'.2.2.2 a = S.2.2.2 a
theorem Fr.rf {lo hi : Nat} {S : ST} : Fr lo hi S S := fun _ _ => ⟨rfl, rfl, rfl, rfl⟩
theorem Fr.tr {lo hi : Nat} {S S' S'' : ST} (h : Fr lo hi S S') (h' : Fr lo hi S' S'') : Fr lo hi S S'' := fun a ha => ⟨(h' a ha).1.trans (h a ha).1, (h' a ha).2.1.trans (h a ha).2.1, (h' a ha).2.2.1.trans (h a ha).2.2.1, (h' a ha).2.2.2.trans (h a ha).2.2.2⟩
theorem Fr.mono {lo hi lo' hi' : Nat} {S S' : ST} (h : Fr lo hi S S') (h1 : lo' ≤ lo) (h2 : hi ≤ hi') : Fr lo' hi' S S' := fun a ha => h a (by omega)
theorem Fr.stI {lo hi q : Nat} {S : ST} {f : Nat → Int32} (h1 : lo ≤ q) (h2 : q < hi) : Fr lo hi S (stI S q f) := fun a ha => ⟨stI_n S f (by omega), rfl, rfl, rfl⟩
theorem Fr.stJ {lo hi q k : Nat} {S : ST} {v : Int32} (h1 : lo ≤ q) (h2 : q < hi) : Fr lo hi S (stJ S q k v) := fun a ha => ⟨rfl, stJ_n S v (by omega), rfl, rfl⟩
theorem Fr.stT {lo hi q : Nat} {S : ST} {v : Int64} (h1 : lo ≤ q) (h2 : q < hi) : Fr lo hi S (stT S q v) := fun a ha => ⟨rfl, rfl, stT_n S v (by omega), rfl⟩
theorem Fr.stR {lo hi q : Nat} {S : ST} {f : Nat → Option Nat} (h1 : lo ≤ q) (h2 : q < hi) : Fr lo hi S (stR S q f) := fun a ha => ⟨rfl, rfl, rfl, stR_n S f (by omega)⟩
theorem MomAt.fr {S S' : ST} {n c q lo hi : Nat} {μ : Mo} (h : MomAt S n c q μ) (hf : Fr lo hi S S') (hq : q + 5 ≤ lo ∨ hi ≤ q) : MomAt S' n c q μ := by
  obtain ⟨h1, h2, h3, h4, h5⟩ := h
  exact ⟨fun s hs => by rw [(hf (q + 1) (by omega)).1]; exact h1 s hs, fun s hs => by rw [(hf (q + 2) (by omega)).1]; exact h2 s hs, fun s hs => by rw [(hf (q + 3) (by omega)).1]; exact h3 s hs, fun s hs => by rw [(hf (q + 4) (by omega)).1]; exact h4 s hs, by rw [(hf q (by omega)).2.1]; exact h5⟩
theorem cpy_in {f g : Nat → Int32} {n j : Nat} (h : j < n) : va_cpy f g 0 0 n j = f j := by
  unfold va_cpy
  rw [if_pos (by omega)]
  simp
def cp1 (S : ST) (a b n : Nat) : ST := stI S b (va_cpy (S.1 a) (S.1 b) 0 0 n)
theorem cp1_o {S : ST} {a b n : Nat} (ha : kd a = (0, n)) (hb : kd b = (0, n)) : o_cp (hp S) a 0 b 0 (nI n) = some (hp (cp1 S a b n)) := wcp (n := n) (by rw [ha]) (by rw [hb]) (by rw [ha]; exact Nat.le_refl _) (by rw [hb]; exact Nat.le_refl _)
theorem cp1_s (S : ST) {a b n j : Nat} (h : j < n) : (cp1 S a b n).1 b j = S.1 a j := by
  unfold cp1
  rw [stI_s, cpy_in h]
theorem cp1_n (S : ST) {a b n q : Nat} (h : q ≠ b) : (cp1 S a b n).1 q = S.1 q := stI_n _ _ h
theorem cp1_2 (S : ST) (a b n : Nat) : (cp1 S a b n).2 = S.2 := rfl
theorem Fr.cp1 {lo hi a b n : Nat} {S : ST} (h1 : lo ≤ b) (h2 : b < hi) : Fr lo hi S (cp1 S a b n) := Fr.stI h1 h2
theorem mom_become (F : Nat) {S : ST} {q m : Nat} (hq : IsM q) (hm : IsM m) (hd : q + 5 ≤ m ∨ m + 5 ≤ q) : ∃ S', fX2_become F (hp S) q m = some (hp S') ∧ Fr q (q + 5) S S' ∧ (∀ j, j < 9 → S'.1 (q + 1) j = S.1 (m + 1) j ∧ S'.1 (q + 2) j = S.1 (m + 2) j ∧ S'.1 (q + 3) j = S.1 (m + 3) j) ∧ (∀ j, j < 6 → S'.1 (q + 4) j = S.1 (m + 4) j) ∧ S'.2.1 q 4 = S.2.1 m 4 := by
  obtain ⟨q0, q1, q2, q3, q4⟩ := hq
  obtain ⟨m0, m1, m2, m3, m4⟩ := hm
  have c9 : ∀ (S : ST) (a b : Nat), kd a = (0, 9) → kd b = (0, 9) → o_cp (hp S) a 0 b 0 9 = some (hp (cp1 S a b 9)) := fun S a b ha hb => cp1_o ha hb
  have c6 : ∀ (S : ST) (a b : Nat), kd a = (0, 6) → kd b = (0, 6) → o_cp (hp S) a 0 b 0 6 = some (hp (cp1 S a b 6)) := fun S a b ha hb => cp1_o ha hb
  refine ⟨stJ (cp1 (cp1 (cp1 (cp1 S (m + 1) (q + 1) 9) (m + 2) (q + 2) 9) (m + 3) (q + 3) 9) (m + 4) (q + 4) 6) q 4 (S.2.1 m 4), ?_, ?_, ?_, ?_, ?_⟩
  · unfold fX2_become
    simp only [Option.bind_some, Nat.reduceAdd, ob2 q0, g2_0 q0, g2_1 q0, g2_2 q0, g2_3 q0, g2_4 q0, p2_4 q0, g2_0 m0, g2_1 m0, g2_2 m0, g2_3 m0, g2_4 m0, c9 _ _ _ m1 q1, c9 _ _ _ m2 q2, c9 _ _ _ m3 q3, c6 _ _ _ m4 q4]
    rfl
  · exact Fr.tr (Fr.tr (Fr.tr (Fr.tr (Fr.cp1 (by omega) (by omega)) (Fr.cp1 (by omega) (by omega))) (Fr.cp1 (by omega) (by omega))) (Fr.cp1 (by omega) (by omega))) (Fr.stJ (by omega) (by omega))
  · intro j hj
    refine ⟨?_, ?_, ?_⟩
    · rw [stJ_1, cp1_n _ (by omega), cp1_n _ (by omega), cp1_n _ (by omega), cp1_s _ hj]
    · rw [stJ_1, cp1_n _ (by omega), cp1_n _ (by omega), cp1_s _ hj, cp1_n _ (by omega)]
    · rw [stJ_1, cp1_n _ (by omega), cp1_s _ hj, cp1_n _ (by omega), cp1_n _ (by omega)]
  · intro j hj
    rw [stJ_1, cp1_s _ hj, cp1_n _ (by omega), cp1_n _ (by omega), cp1_n _ (by omega)]
  · exact stJ_s _ _ _ _
theorem mom_become_mu (F : Nat) {S : ST} {q m n c : Nat} {μ : Mo} (hq : IsM q) (hm : IsM m) (hd : q + 5 ≤ m ∨ m + 5 ≤ q) (h9 : n ≤ 9) (h6 : c ≤ 6) (hμ : MomAt S n c m μ) : ∃ S', fX2_become F (hp S) q m = some (hp S') ∧ Fr q (q + 5) S S' ∧ MomAt S' n c q μ := by
  obtain ⟨S', h1, h2, h3, h4, h5⟩ := mom_become F (S := S) hq hm hd
  obtain ⟨a1, a2, a3, a4, a5⟩ := hμ
  exact ⟨S', h1, h2, fun s hs => by rw [(h3 s (by omega)).1]; exact a1 s hs, fun s hs => by rw [(h3 s (by omega)).2.1]; exact a2 s hs, fun s hs => by rw [(h3 s (by omega)).2.2]; exact a3 s hs, fun s hs => by rw [h4 s (by omega)]; exact a4 s hs, by rw [h5]; exact a5⟩
/-! a Now: a moment, and those that may come back -/
def IsN (a : Nat) : Prop := kd a = (13, 0) ∧ IsM (a + 1) ∧ kd (a + 6) = (3, 10) ∧ ∀ j, j < 10 → IsM (a + 7 + 5 * j)
theorem IsN_15 : IsN 15 := ⟨rfl, ⟨rfl, rfl, rfl, rfl, rfl⟩, rfl, by unfold IsM; decide +kernel⟩
theorem IsN_73 : IsN 73 := ⟨rfl, ⟨rfl, rfl, rfl, rfl, rfl⟩, rfl, by unfold IsM; decide +kernel⟩
theorem IsN_130 : IsN 130 := ⟨rfl, ⟨rfl, rfl, rfl, rfl, rfl⟩, rfl, by unfold IsM; decide +kernel⟩
/-- the row of the past: which place is which moment -/
def PtOk (pt : Nat → Nat) : Prop := (∀ i, i < 10 → pt i < 10) ∧ ∀ i j, i < 10 → j < 10 → pt i = pt j → i = j
def NowR (S : ST) (a : Nat) (pt : Nat → Nat) : Prop := PtOk pt ∧ ∀ i, i < 10 → S.2.2.2 (a + 6) i = some (a + 7 + 5 * pt i)
def NowAt (S : ST) (n c a : Nat) (μ : Mo) (k : Nat) (ms : Nat → Mo) : Prop := MomAt S n c (a + 1) μ ∧ S.2.1 a 2 = nI k ∧ k ≤ 10 ∧ ∃ pt, NowR S a pt ∧ ∀ i, i < k → MomAt S n c (a + 7 + 5 * pt i) (ms i)
theorem NowAt.fr {S S' : ST} {n c a lo hi : Nat} {μ : Mo} {k : Nat} {ms : Nat → Mo} (h : NowAt S n c a μ k ms) (hf : Fr lo hi S S') (hq : a + 57 ≤ lo ∨ hi ≤ a) : NowAt S' n c a μ k ms := by
  obtain ⟨h1, h2, h3, pt, ⟨h4, h5⟩, h6⟩ := h
  refine ⟨h1.fr hf (by omega), by rw [(hf a (by omega)).2.1]; exact h2, h3, pt, ⟨h4, fun i hi => by rw [(hf (a + 6) (by omega)).2.2.2]; exact h5 i hi⟩, fun i hi => (h6 i hi).fr hf ?_⟩
  have := h4.1 i (by omega)
  omega

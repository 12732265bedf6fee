/-! what holds behind both constructors -/
theorem rw3_at (n : Nat) : ∀ i, i < 10 → rw3 n i = some (n + 7 + 5 * i) := by
  intro i hi
  have : i = 0 ∨ i = 1 ∨ i = 2 ∨ i = 3 ∨ i = 4 ∨ i = 5 ∨ i = 6 ∨ i = 7 ∨ i = 8 ∨ i = 9 := by omega
  rcases this with rfl | rfl | rfl | rfl | rfl | rfl | rfl | rfl | rfl | rfl <;> rfl
theorem n0p {P : Nat → Prop} : ∀ s, s < 0 → P s := fun s h => absurd h (Nat.not_lt_zero s)
theorem ptId : PtOk (fun i => i) := ⟨fun _ h => h, fun _ _ _ _ h => h⟩
theorem nowR0_15 : NowR S0 15 (fun i => i) := ⟨ptId, fun i hi => rw3_at 15 i hi⟩
theorem nowR0_73 : NowR S0 73 (fun i => i) := ⟨ptId, fun i hi => rw3_at 73 i hi⟩
theorem nowR0_130 : NowR S0 130 (fun i => i) := ⟨ptId, fun i hi => rw3_at 130 i hi⟩
theorem S0_95 : S0.2.1 0 5 = bs 2 (fun _ => false) := by
  rw [bs_none]
  rfl
theorem inv0 : Inv S0 := by
  refine ⟨4, 0, 0, fun _ => 0, fun _ => 0, fun _ => 0, fun _ _ => 0, 0, fun _ _ _ => 0, 0, fun _ => 0, 0, fun _ => 0, fun _ => 0, fun _ => false, fun _ _ _ => 0, fun _ => 0, fun _ _ _ _ => 0, ?_, ?_, ⟨?_, ?_, ?_, ?_, ?_⟩, ⟨?_, ?_, ?_, ?_, ?_⟩, rfl⟩
  · exact ⟨⟨by decide, by decide⟩, by decide, by decide, n0p, n0p⟩
  · exact ⟨⟨n0p, n0p, Nat.zero_le 1⟩, n0p, ⟨Nat.zero_le _, n0p⟩, ⟨Nat.zero_le _, n0p⟩, fun i _ h => by cases h⟩
  · exact ⟨rfl, rfl, rfl, n0p, n0p, n0p⟩
  · exact ⟨⟨n0p, n0p, n0p, n0p, rfl⟩, rfl, Nat.zero_le _, _, nowR0_15, n0p⟩
  · exact ⟨rfl, n0p⟩
  · exact ⟨rfl, n0p, n0p⟩
  · exact ⟨S0_95, rfl, rfl, ⟨_, nowR0_73⟩, ⟨_, nowR0_130⟩, fun h => absurd h Bool.false_ne_true, fun h => absurd h Bool.false_ne_true⟩
  · exact ⟨rfl, rfl, rfl, n0p, n0p, n0p⟩
  · exact ⟨⟨rfl, n0p, n0p, n0p, n0p⟩, rfl, Nat.zero_le _, n0p⟩
  · exact ⟨rfl, n0p⟩
  · exact ⟨rfl, n0p, n0p⟩
  · exact ⟨fun i _ => rfl, fun i _ h => by cases h⟩

-- X7_init
def fX7_init_T (F : Nat) (L : HL) (a0 : Nat) : Option HL := (o_ob L a0 6).bind fun _ => (o_p L a0 6 0 (.int 4)).bind fun L1 => (o_p (L1 ++ [(.inl (0, 9, fun _ => 0) : SC)]) a0 6 3 (.ref L1.length)).bind fun L2 => (o_p (L2 ++ [(.inl (0, 9, fun _ => 0) : SC)]) a0 6 4 (.ref L2.length)).bind fun L3 => (o_p (L3 ++ [(.inl (0, 9, fun _ => 0) : SC)]) a0 6 5 (.ref L3.length)).bind fun L4 => (o_p (L4 ++ [(.inl (0, 6, fun _ => 0) : SC)]) a0 6 6 (.ref L4.length)).bind fun L5 => (o_p (L5 ++ [(.inl (0, 6, fun _ => 0) : SC)]) a0 6 7 (.ref L5.length)).bind fun L6 => some L6
theorem oX7_init_T {F : Nat} {L : HL} {a0 : Nat} {z : HL} (hE : fX7_init_T F L a0 = some z) : o_ob L a0 6 = some () := by
  obtain ⟨_, h, _⟩ := Option.bind_eq_some_iff.mp hE
  exact h
set_option maxHeartbeats 4000000 in
set_option maxRecDepth 100000 in
theorem sX7_init_T (l : Launch) (b0 : Nat) (D : va_G) (cA : Nat → ClassId) {F : Nat} {L : HL} {a0 : Nat} {z : HL} (hE : fX7_init_T F L a0 = some z) : Met l yX7_init wsX7_init (RM 1 5 39) (Pk b0 D cA [.ref (b0 + a0)] L) (Qk b0 D cA none z) 5 39 (Ab b0) := by
  refine Met.ofW (cc := cX7_init) (maxL := 1) (ret := none) (by decide) rfl ?_
  intro p ev s m args below meth c s₁ B hml hv
  obtain ⟨rfl, hH, hK⟩ := hv
  have hx := B.exec
  have hb := B.bytes
  have hr := B.returns
  have hts := atoms_spec (ws := wsX7_init) B.pre
  have hown : s.vm.findClass RX7 = some m.cls := findClass_of_methodNamed B.named
  have hlocks := B.notSynchronized
  have hC : Cx D cA p s m _ meth c cX7_init 1 RX7 wsX7_init none := ⟨hx, hb, hml, hown, hts, hK, hr, hlocks⟩
  have hS : va_S (Ab b0) s.heap s.heap [] := va_S.rf
  have hl := lv_entry ([.ref (b0 + a0)]) (n := 1) (Nat.le_of_ble_eq_true rfl)
  rw [lg_entry_eq]
  generalize (lg_sl ([.ref (b0 + a0)]) ++ List.replicate (1 - (lg_sl ([.ref (b0 + a0)])).length) Slot.unset).toArray = ls at hl ⊢
  have hl : lv_has ls 1 [(0, .ref (b0 + a0))] := hl
  have hin : meth.name = "<init>" := (name_of_methodNamed B.named B.method).1
  unfold fX7_init_T at hE
  obtain ⟨_, _, hE⟩ := Option.bind_eq_some_iff.mp hE
  refine lv_aload_n hx hb dX7_init_0 rfl (lv_at hl 0 rfl) ?_
  refine W.objInit hx hb hown (hts (.methodLink RX7 3 objectInit) (by decide +kernel)) (hts (.instanceMethod objectInit) (by decide +kernel)) (hts (.code objectInit ⟨#[0xb1]⟩ 1 none) (by decide +kernel)) rfl (by rw [hml]; exact hl.1) rfl dX7_init_1 (Nat.le_of_ble_eq_true rfl) (Nat.le_of_ble_eq_true rfl) ?_
  refine W.eq (g2 := F0 m 4 ls []) rfl ?_
  refine lv_aload_n hx hb dX7_init_4 rfl (lv_at hl 0 rfl) ?_
  refine lv_iconst (v := 4) hx hb dX7_init_5 (by decide) ?_
  obtain ⟨L1, hL1, hE⟩ := Option.bind_eq_some_iff.mp hE
  refine r_p 0 (v := .int 4) (ty := .int) (C := RX7) (T := TX7) (N := 8) (ci := 6) hx hb hts (by decide +kernel) tyX7 tyX7_ok nmX7 hown hK hH hS hL1 rfl (by decide) (hts (.fieldLink RX7 9 "KindStreets$Town" "yards" "I") (by decide +kernel)) (fun _ h9 => h9) rfl (by decide +kernel) rfl rfl dX7_init_6 (fun H locs hH hS => ?_)
  refine lv_aload_n hx hb dX7_init_9 rfl (lv_at hl 0 rfl) ?_
  refine lv_bipush (v := 9) hx hb dX7_init_10 (by decide) ?_
  refine r_newa (N' := 9) 0 hx hb (hts (.arrayClass .int) (by decide +kernel)) rfl rfl hK rfl (fun _ h => by cases h) hH hS (by decide) (by decide) (by decide) (by decide) (by decide) dX7_init_12 (fun H hH hS => ?_)
  refine W.widen (k := 1) (n := 9) (by decide) (by decide) ?_
  obtain ⟨L2, hL2, hE⟩ := Option.bind_eq_some_iff.mp hE
  refine r_pF 3 (v := .ref L1.length) (ty := (.array .int)) (C := RX7) (T := TX7) (N := 8) (ci := 6) hx hb hts (by decide +kernel) tyX7 tyX7_ok nmX7 hown hK hH hS hL2 rfl (by decide) (hts (.fieldLink RX7 15 "KindStreets$Town" "one" "[I") (by decide +kernel)) (fun _ h9 => h9) rfl hin rfl (by decide +kernel) rfl rfl dX7_init_14 (fun H locs hH hS => ?_)
  refine lv_aload_n hx hb dX7_init_17 rfl (lv_at hl 0 rfl) ?_
  refine lv_bipush (v := 9) hx hb dX7_init_18 (by decide) ?_
  refine r_newa (N' := 9) 0 hx hb (hts (.arrayClass .int) (by decide +kernel)) rfl rfl hK rfl (fun _ h => by cases h) hH hS (by decide) (by decide) (by decide) (by decide) (by decide) dX7_init_20 (fun H hH hS => ?_)
  refine W.widen (k := 2) (n := 18) (by decide) (by decide) ?_
  obtain ⟨L3, hL3, hE⟩ := Option.bind_eq_some_iff.mp hE
  refine r_pF 4 (v := .ref L2.length) (ty := (.array .int)) (C := RX7) (T := TX7) (N := 8) (ci := 6) hx hb hts (by decide +kernel) tyX7 tyX7_ok nmX7 hown hK hH hS hL3 rfl (by decide) (hts (.fieldLink RX7 19 "KindStreets$Town" "other" "[I") (by decide +kernel)) (fun _ h9 => h9) rfl hin rfl (by decide +kernel) rfl rfl dX7_init_22 (fun H locs hH hS => ?_)
  refine lv_aload_n hx hb dX7_init_25 rfl (lv_at hl 0 rfl) ?_
  refine lv_bipush (v := 9) hx hb dX7_init_26 (by decide) ?_
  refine r_newa (N' := 9) 0 hx hb (hts (.arrayClass .int) (by decide +kernel)) rfl rfl hK rfl (fun _ h => by cases h) hH hS (by decide) (by decide) (by decide) (by decide) (by decide) dX7_init_28 (fun H hH hS => ?_)
  refine W.widen (k := 3) (n := 27) (by decide) (by decide) ?_
  obtain ⟨L4, hL4, hE⟩ := Option.bind_eq_some_iff.mp hE
  refine r_pF 5 (v := .ref L3.length) (ty := (.array .int)) (C := RX7) (T := TX7) (N := 8) (ci := 6) hx hb hts (by decide +kernel) tyX7 tyX7_ok nmX7 hown hK hH hS hL4 rfl (by decide) (hts (.fieldLink RX7 22 "KindStreets$Town" "old" "[I") (by decide +kernel)) (fun _ h9 => h9) rfl hin rfl (by decide +kernel) rfl rfl dX7_init_30 (fun H locs hH hS => ?_)
  refine lv_aload_n hx hb dX7_init_33 rfl (lv_at hl 0 rfl) ?_
  refine lv_bipush (v := 6) hx hb dX7_init_34 (by decide) ?_
  refine r_newa (N' := 6) 0 hx hb (hts (.arrayClass .int) (by decide +kernel)) rfl rfl hK rfl (fun _ h => by cases h) hH hS (by decide) (by decide) (by decide) (by decide) (by decide) dX7_init_36 (fun H hH hS => ?_)
  refine W.widen (k := 4) (n := 33) (by decide) (by decide) ?_
  obtain ⟨L5, hL5, hE⟩ := Option.bind_eq_some_iff.mp hE
  refine r_pF 6 (v := .ref L4.length) (ty := (.array .int)) (C := RX7) (T := TX7) (N := 8) (ci := 6) hx hb hts (by decide +kernel) tyX7 tyX7_ok nmX7 hown hK hH hS hL5 rfl (by decide) (hts (.fieldLink RX7 25 "KindStreets$Town" "home" "[I") (by decide +kernel)) (fun _ h9 => h9) rfl hin rfl (by decide +kernel) rfl rfl dX7_init_38 (fun H locs hH hS => ?_)
  refine lv_aload_n hx hb dX7_init_41 rfl (lv_at hl 0 rfl) ?_
  refine lv_bipush (v := 6) hx hb dX7_init_42 (by decide) ?_
  refine r_newa (N' := 6) 0 hx hb (hts (.arrayClass .int) (by decide +kernel)) rfl rfl hK rfl (fun _ h => by cases h) hH hS (by decide) (by decide) (by decide) (by decide) (by decide) dX7_init_44 (fun H hH hS => ?_)
  refine W.widen (k := 5) (n := 39) (by decide) (by decide) ?_
  obtain ⟨L6, hL6, hE⟩ := Option.bind_eq_some_iff.mp hE
  refine r_pF 7 (v := .ref L5.length) (ty := (.array .int)) (C := RX7) (T := TX7) (N := 8) (ci := 6) hx hb hts (by decide +kernel) tyX7 tyX7_ok nmX7 hown hK hH hS hL6 rfl (by decide) (hts (.fieldLink RX7 28 "KindStreets$Town" "wants" "[I") (by decide +kernel)) (fun _ h9 => h9) rfl hin rfl (by decide +kernel) rfl rfl dX7_init_46 (fun H locs hH hS => ?_)
  have hZ := Option.some.inj hE
  subst hZ
  exact W.vret hx hb hr (fun t ht hW => ⟨rfl, by rw [ht]; exact hH, hS.F ht⟩) hS.2.2 dX7_init_49
-- X7_init
def fX7_init_P (F : Nat) (L : HL) (a0 : Nat) : Option HL := (o_ob L a0 4).bind fun _ => (o_p L a0 4 0 (.int 4)).bind fun L1 => (o_p (L1 ++ [(.inl (0, 9, fun _ => 0) : SC)]) a0 4 3 (.ref L1.length)).bind fun L2 => (o_p (L2 ++ [(.inl (0, 9, fun _ => 0) : SC)]) a0 4 4 (.ref L2.length)).bind fun L3 => (o_p (L3 ++ [(.inl (0, 9, fun _ => 0) : SC)]) a0 4 5 (.ref L3.length)).bind fun L4 => (o_p (L4 ++ [(.inl (0, 6, fun _ => 0) : SC)]) a0 4 6 (.ref L4.length)).bind fun L5 => (o_p (L5 ++ [(.inl (0, 6, fun _ => 0) : SC)]) a0 4 7 (.ref L5.length)).bind fun L6 => some L6
theorem oX7_init_P {F : Nat} {L : HL} {a0 : Nat} {z : HL} (hE : fX7_init_P F L a0 = some z) : o_ob L a0 4 = some () := by
  obtain ⟨_, h, _⟩ := Option.bind_eq_some_iff.mp hE
  exact h
set_option maxHeartbeats 4000000 in
set_option maxRecDepth 100000 in
theorem sX7_init_P (l : Launch) (b0 : Nat) (D : va_G) (cA : Nat → ClassId) {F : Nat} {L : HL} {a0 : Nat} {z : HL} (hE : fX7_init_P F L a0 = some z) : Met l yX7_init wsX7_init (RM 1 5 39) (Pk b0 D cA [.ref (b0 + a0)] L) (Qk b0 D cA none z) 5 39 (Ab b0) := by
  refine Met.ofW (cc := cX7_init) (maxL := 1) (ret := none) (by decide) rfl ?_
  intro p ev s m args below meth c s₁ B hml hv
  obtain ⟨rfl, hH, hK⟩ := hv
  have hx := B.exec
  have hb := B.bytes
  have hr := B.returns
  have hts := atoms_spec (ws := wsX7_init) B.pre
  have hown : s.vm.findClass RX7 = some m.cls := findClass_of_methodNamed B.named
  have hlocks := B.notSynchronized
  have hC : Cx D cA p s m _ meth c cX7_init 1 RX7 wsX7_init none := ⟨hx, hb, hml, hown, hts, hK, hr, hlocks⟩
  have hS : va_S (Ab b0) s.heap s.heap [] := va_S.rf
  have hl := lv_entry ([.ref (b0 + a0)]) (n := 1) (Nat.le_of_ble_eq_true rfl)
  rw [lg_entry_eq]
  generalize (lg_sl ([.ref (b0 + a0)]) ++ List.replicate (1 - (lg_sl ([.ref (b0 + a0)])).length) Slot.unset).toArray = ls at hl ⊢
  have hl : lv_has ls 1 [(0, .ref (b0 + a0))] := hl
  have hin : meth.name = "<init>" := (name_of_methodNamed B.named B.method).1
  unfold fX7_init_P at hE
  obtain ⟨_, _, hE⟩ := Option.bind_eq_some_iff.mp hE
  refine lv_aload_n hx hb dX7_init_0 rfl (lv_at hl 0 rfl) ?_
  refine W.objInit hx hb hown (hts (.methodLink RX7 3 objectInit) (by decide +kernel)) (hts (.instanceMethod objectInit) (by decide +kernel)) (hts (.code objectInit ⟨#[0xb1]⟩ 1 none) (by decide +kernel)) rfl (by rw [hml]; exact hl.1) rfl dX7_init_1 (Nat.le_of_ble_eq_true rfl) (Nat.le_of_ble_eq_true rfl) ?_
  refine W.eq (g2 := F0 m 4 ls []) rfl ?_
  refine lv_aload_n hx hb dX7_init_4 rfl (lv_at hl 0 rfl) ?_
  refine lv_iconst (v := 4) hx hb dX7_init_5 (by decide) ?_
  obtain ⟨L1, hL1, hE⟩ := Option.bind_eq_some_iff.mp hE
  refine r_p 0 (v := .int 4) (ty := .int) (C := RX4) (T := TX4) (N := 9) (ci := 4) hx hb hts (by decide +kernel) tyX4 tyX4_ok nmX4 hown hK hH hS hL1 rfl (by decide) (hts (.fieldLink RX7 9 "KindStreets$Town" "yards" "I") (by decide +kernel)) (fun _ h9 => h9) rfl (by decide +kernel) rfl rfl dX7_init_6 (fun H locs hH hS => ?_)
  refine lv_aload_n hx hb dX7_init_9 rfl (lv_at hl 0 rfl) ?_
  refine lv_bipush (v := 9) hx hb dX7_init_10 (by decide) ?_
  refine r_newa (N' := 9) 0 hx hb (hts (.arrayClass .int) (by decide +kernel)) rfl rfl hK rfl (fun _ h => by cases h) hH hS (by decide) (by decide) (by decide) (by decide) (by decide) dX7_init_12 (fun H hH hS => ?_)
  refine W.widen (k := 1) (n := 9) (by decide) (by decide) ?_
  obtain ⟨L2, hL2, hE⟩ := Option.bind_eq_some_iff.mp hE
  refine r_pF 3 (v := .ref L1.length) (ty := (.array .int)) (C := RX4) (T := TX4) (N := 9) (ci := 4) hx hb hts (by decide +kernel) tyX4 tyX4_ok nmX4 hown hK hH hS hL2 rfl (by decide) (hts (.fieldLink RX7 15 "KindStreets$Town" "one" "[I") (by decide +kernel)) (fun _ h9 => h9) rfl hin rfl (by decide +kernel) rfl rfl dX7_init_14 (fun H locs hH hS => ?_)
  refine lv_aload_n hx hb dX7_init_17 rfl (lv_at hl 0 rfl) ?_
  refine lv_bipush (v := 9) hx hb dX7_init_18 (by decide) ?_
  refine r_newa (N' := 9) 0 hx hb (hts (.arrayClass .int) (by decide +kernel)) rfl rfl hK rfl (fun _ h => by cases h) hH hS (by decide) (by decide) (by decide) (by decide) (by decide) dX7_init_20 (fun H hH hS => ?_)
  refine W.widen (k := 2) (n := 18) (by decide) (by decide) ?_
  obtain ⟨L3, hL3, hE⟩ := Option.bind_eq_some_iff.mp hE
  refine r_pF 4 (v := .ref L2.length) (ty := (.array .int)) (C := RX4) (T := TX4) (N := 9) (ci := 4) hx hb hts (by decide +kernel) tyX4 tyX4_ok nmX4 hown hK hH hS hL3 rfl (by decide) (hts (.fieldLink RX7 19 "KindStreets$Town" "other" "[I") (by decide +kernel)) (fun _ h9 => h9) rfl hin rfl (by decide +kernel) rfl rfl dX7_init_22 (fun H locs hH hS => ?_)
  refine lv_aload_n hx hb dX7_init_25 rfl (lv_at hl 0 rfl) ?_
  refine lv_bipush (v := 9) hx hb dX7_init_26 (by decide) ?_
  refine r_newa (N' := 9) 0 hx hb (hts (.arrayClass .int) (by decide +kernel)) rfl rfl hK rfl (fun _ h => by cases h) hH hS (by decide) (by decide) (by decide) (by decide) (by decide) dX7_init_28 (fun H hH hS => ?_)
  refine W.widen (k := 3) (n := 27) (by decide) (by decide) ?_
  obtain ⟨L4, hL4, hE⟩ := Option.bind_eq_some_iff.mp hE
  refine r_pF 5 (v := .ref L3.length) (ty := (.array .int)) (C := RX4) (T := TX4) (N := 9) (ci := 4) hx hb hts (by decide +kernel) tyX4 tyX4_ok nmX4 hown hK hH hS hL4 rfl (by decide) (hts (.fieldLink RX7 22 "KindStreets$Town" "old" "[I") (by decide +kernel)) (fun _ h9 => h9) rfl hin rfl (by decide +kernel) rfl rfl dX7_init_30 (fun H locs hH hS => ?_)
  refine lv_aload_n hx hb dX7_init_33 rfl (lv_at hl 0 rfl) ?_
  refine lv_bipush (v := 6) hx hb dX7_init_34 (by decide) ?_
  refine r_newa (N' := 6) 0 hx hb (hts (.arrayClass .int) (by decide +kernel)) rfl rfl hK rfl (fun _ h => by cases h) hH hS (by decide) (by decide) (by decide) (by decide) (by decide) dX7_init_36 (fun H hH hS => ?_)
  refine W.widen (k := 4) (n := 33) (by decide) (by decide) ?_
  obtain ⟨L5, hL5, hE⟩ := Option.bind_eq_some_iff.mp hE
  refine r_pF 6 (v := .ref L4.length) (ty := (.array .int)) (C := RX4) (T := TX4) (N := 9) (ci := 4) hx hb hts (by decide +kernel) tyX4 tyX4_ok nmX4 hown hK hH hS hL5 rfl (by decide) (hts (.fieldLink RX7 25 "KindStreets$Town" "home" "[I") (by decide +kernel)) (fun _ h9 => h9) rfl hin rfl (by decide +kernel) rfl rfl dX7_init_38 (fun H locs hH hS => ?_)
  refine lv_aload_n hx hb dX7_init_41 rfl (lv_at hl 0 rfl) ?_
  refine lv_bipush (v := 6) hx hb dX7_init_42 (by decide) ?_
  refine r_newa (N' := 6) 0 hx hb (hts (.arrayClass .int) (by decide +kernel)) rfl rfl hK rfl (fun _ h => by cases h) hH hS (by decide) (by decide) (by decide) (by decide) (by decide) dX7_init_44 (fun H hH hS => ?_)
  refine W.widen (k := 5) (n := 39) (by decide) (by decide) ?_
  obtain ⟨L6, hL6, hE⟩ := Option.bind_eq_some_iff.mp hE
  refine r_pF 7 (v := .ref L5.length) (ty := (.array .int)) (C := RX4) (T := TX4) (N := 9) (ci := 4) hx hb hts (by decide +kernel) tyX4 tyX4_ok nmX4 hown hK hH hS hL6 rfl (by decide) (hts (.fieldLink RX7 28 "KindStreets$Town" "wants" "[I") (by decide +kernel)) (fun _ h9 => h9) rfl hin rfl (by decide +kernel) rfl rfl dX7_init_46 (fun H locs hH hS => ?_)
  have hZ := Option.some.inj hE
  subst hZ
  exact W.vret hx hb hr (fun t ht hW => ⟨rfl, by rw [ht]; exact hH, hS.F ht⟩) hS.2.2 dX7_init_49
-- X4_init
def fX4_init (F : Nat) (L : HL) (a0 : Nat) : Option HL := (o_ob L a0 4).bind fun _ => (fX7_init_P F L a0).bind fun z1 => (o_p (z1 ++ [(.inl (0, 9, fun _ => 0) : SC)]) a0 4 8 (.ref z1.length)).bind fun L2 => some L2
theorem oX4_init {F : Nat} {L : HL} {a0 : Nat} {z : HL} (hE : fX4_init F L a0 = some z) : o_ob L a0 4 = some () := by
  obtain ⟨_, h, _⟩ := Option.bind_eq_some_iff.mp hE
  exact h
set_option maxHeartbeats 4000000 in
set_option maxRecDepth 100000 in
theorem sX4_init (l : Launch) (b0 : Nat) (D : va_G) (cA : Nat → ClassId) {F : Nat} {L : HL} {a0 : Nat} {z : HL} (hE : fX4_init F L a0 = some z) : Met l yX4_init wsX4_init (RM 2 6 48) (Pk b0 D cA [.ref (b0 + a0)] L) (Qk b0 D cA none z) 6 48 (Ab b0) := by
  refine Met.ofW (cc := cX4_init) (maxL := 1) (ret := none) (by decide) rfl ?_
  intro p ev s m args below meth c s₁ B hml hv
  obtain ⟨rfl, hH, hK⟩ := hv
  have hx := B.exec
  have hb := B.bytes
  have hr := B.returns
  have hts := atoms_spec (ws := wsX4_init) B.pre
  have hown : s.vm.findClass RX4 = some m.cls := findClass_of_methodNamed B.named
  have hlocks := B.notSynchronized
  have hC : Cx D cA p s m _ meth c cX4_init 1 RX4 wsX4_init none := ⟨hx, hb, hml, hown, hts, hK, hr, hlocks⟩
  have hS : va_S (Ab b0) s.heap s.heap [] := va_S.rf
  have hl := lv_entry ([.ref (b0 + a0)]) (n := 1) (Nat.le_of_ble_eq_true rfl)
  rw [lg_entry_eq]
  generalize (lg_sl ([.ref (b0 + a0)]) ++ List.replicate (1 - (lg_sl ([.ref (b0 + a0)])).length) Slot.unset).toArray = ls at hl ⊢
  have hl : lv_has ls 1 [(0, .ref (b0 + a0))] := hl
  have hin : meth.name = "<init>" := (name_of_methodNamed B.named B.method).1
  unfold fX4_init at hE
  obtain ⟨_, _, hE⟩ := Option.bind_eq_some_iff.mp hE
  refine lv_aload_n hx hb dX4_init_0 rfl (lv_at hl 0 rfl) ?_
  obtain ⟨z1, hz1, hE⟩ := Option.bind_eq_some_iff.mp hE
  refine r_callV (va_runI (As := []) (rest := []) ⟨hx, hb, hml, hown, hts⟩ (sX7_init_P l b0 D cA hz1) (cwI 0 hts gX4_init_X7_init rfl rfl rfl (hts (.initialized RX7) (by decide +kernel)) (hts (.methodLink RX4 3 yX7_init) (by decide +kernel)) (hts (.instanceMethod yX7_init) (by decide +kernel)) rfl (by decide +kernel) (rm_ok (by decide) (by decide))) (pre_S hK hH) rfl rfl hl.1 rfl (lv_room (Nat.le_of_ble_eq_true rfl)) dX4_init_1 ⟨by decide, by decide⟩) hS (fun H locs hH hS => ?_)
  refine W.widen (k := 5) (n := 39) (by decide) (by decide) ?_
  refine lv_aload_n hx hb dX4_init_4 rfl (lv_at hl 0 rfl) ?_
  refine lv_bipush (v := 9) hx hb dX4_init_5 (by decide) ?_
  refine r_newa (N' := 9) 0 hx hb (hts (.arrayClass .int) (by decide +kernel)) rfl rfl hK rfl (fun _ h => by cases h) hH hS (by decide) (by decide) (by decide) (by decide) (by decide) dX4_init_7 (fun H hH hS => ?_)
  refine W.widen (k := 6) (n := 48) (by decide) (by decide) ?_
  obtain ⟨L2, hL2, hE⟩ := Option.bind_eq_some_iff.mp hE
  refine r_pF 8 (v := .ref z1.length) (ty := (.array .int)) (C := RX4) (T := TX4) (N := 9) (ci := 4) hx hb hts (by decide +kernel) tyX4 tyX4_ok nmX4 hown hK hH hS hL2 rfl (by decide) (hts (.fieldLink RX4 9 "KindStreets$Plan" "width" "[I") (by decide +kernel)) (fun _ h9 => h9) rfl hin rfl (by decide +kernel) rfl rfl dX4_init_9 (fun H locs hH hS => ?_)
  have hZ := Option.some.inj hE
  subst hZ
  exact W.vret hx hb hr (fun t ht hW => ⟨rfl, by rw [ht]; exact hH, hS.F ht⟩) hS.2.2 dX4_init_12
-- X6_init
def fX6_init (F : Nat) (L : HL) (a0 : Nat) : Option HL := (o_ob L a0 5).bind fun _ => (o_p (L ++ [(.inl (0, 120, fun _ => 0) : SC)]) a0 5 0 (.ref L.length)).bind fun L1 => some L1
theorem oX6_init {F : Nat} {L : HL} {a0 : Nat} {z : HL} (hE : fX6_init F L a0 = some z) : o_ob L a0 5 = some () := by
  obtain ⟨_, h, _⟩ := Option.bind_eq_some_iff.mp hE
  exact h
set_option maxHeartbeats 4000000 in
set_option maxRecDepth 100000 in
theorem sX6_init (l : Launch) (b0 : Nat) (D : va_G) (cA : Nat → ClassId) {F : Nat} {L : HL} {a0 : Nat} {z : HL} (hE : fX6_init F L a0 = some z) : Met l yX6_init wsX6_init (RM 1 1 120) (Pk b0 D cA [.ref (b0 + a0)] L) (Qk b0 D cA none z) 1 120 (Ab b0) := by
  refine Met.ofW (cc := cX6_init) (maxL := 1) (ret := none) (by decide) rfl ?_
  intro p ev s m args below meth c s₁ B hml hv
  obtain ⟨rfl, hH, hK⟩ := hv
  have hx := B.exec
  have hb := B.bytes
  have hr := B.returns
  have hts := atoms_spec (ws := wsX6_init) B.pre
  have hown : s.vm.findClass RX6 = some m.cls := findClass_of_methodNamed B.named
  have hlocks := B.notSynchronized
  have hC : Cx D cA p s m _ meth c cX6_init 1 RX6 wsX6_init none := ⟨hx, hb, hml, hown, hts, hK, hr, hlocks⟩
  have hS : va_S (Ab b0) s.heap s.heap [] := va_S.rf
  have hl := lv_entry ([.ref (b0 + a0)]) (n := 1) (Nat.le_of_ble_eq_true rfl)
  rw [lg_entry_eq]
  generalize (lg_sl ([.ref (b0 + a0)]) ++ List.replicate (1 - (lg_sl ([.ref (b0 + a0)])).length) Slot.unset).toArray = ls at hl ⊢
  have hl : lv_has ls 1 [(0, .ref (b0 + a0))] := hl
  have hin : meth.name = "<init>" := (name_of_methodNamed B.named B.method).1
  unfold fX6_init at hE
  obtain ⟨_, _, hE⟩ := Option.bind_eq_some_iff.mp hE
  refine lv_aload_n hx hb dX6_init_0 rfl (lv_at hl 0 rfl) ?_
  refine W.objInit hx hb hown (hts (.methodLink RX6 3 objectInit) (by decide +kernel)) (hts (.instanceMethod objectInit) (by decide +kernel)) (hts (.code objectInit ⟨#[0xb1]⟩ 1 none) (by decide +kernel)) rfl (by rw [hml]; exact hl.1) rfl dX6_init_1 (Nat.le_of_ble_eq_true rfl) (Nat.le_of_ble_eq_true rfl) ?_
  refine W.eq (g2 := F0 m 4 ls []) rfl ?_
  refine lv_aload_n hx hb dX6_init_4 rfl (lv_at hl 0 rfl) ?_
  refine lv_bipush (v := 120) hx hb dX6_init_5 (by decide) ?_
  refine r_newa (N' := 120) 0 hx hb (hts (.arrayClass .int) (by decide +kernel)) rfl rfl hK rfl (fun _ h => by cases h) hH hS (by decide) (by decide) (by decide) (by decide) (by decide) dX6_init_7 (fun H hH hS => ?_)
  refine W.widen (k := 1) (n := 120) (by decide) (by decide) ?_
  obtain ⟨L1, hL1, hE⟩ := Option.bind_eq_some_iff.mp hE
  refine r_pF 0 (v := .ref L.length) (ty := (.array .int)) (C := RX6) (T := TX6) (N := 3) (ci := 5) hx hb hts (by decide +kernel) tyX6 tyX6_ok nmX6 hown hK hH hS hL1 rfl (by decide) (hts (.fieldLink RX6 9 "KindStreets$Text" "bytes" "[I") (by decide +kernel)) (fun _ h9 => h9) rfl hin rfl (by decide +kernel) rfl rfl dX6_init_9 (fun H locs hH hS => ?_)
  have hZ := Option.some.inj hE
  subst hZ
  exact W.vret hx hb hr (fun t ht hW => ⟨rfl, by rw [ht]; exact hH, hS.F ht⟩) hS.2.2 dX6_init_12
-- X2_init
def fX2_init (F : Nat) (L : HL) (a0 : Nat) : Option HL := (o_ob L a0 2).bind fun _ => (o_p (L ++ [(.inl (0, 9, fun _ => 0) : SC)]) a0 2 0 (.ref L.length)).bind fun L1 => (o_p (L1 ++ [(.inl (0, 9, fun _ => 0) : SC)]) a0 2 1 (.ref L1.length)).bind fun L2 => (o_p (L2 ++ [(.inl (0, 9, fun _ => 0) : SC)]) a0 2 2 (.ref L2.length)).bind fun L3 => (o_p (L3 ++ [(.inl (0, 6, fun _ => 0) : SC)]) a0 2 3 (.ref L3.length)).bind fun L4 => some L4
theorem oX2_init {F : Nat} {L : HL} {a0 : Nat} {z : HL} (hE : fX2_init F L a0 = some z) : o_ob L a0 2 = some () := by
  obtain ⟨_, h, _⟩ := Option.bind_eq_some_iff.mp hE
  exact h
set_option maxHeartbeats 4000000 in
set_option maxRecDepth 100000 in
theorem sX2_init (l : Launch) (b0 : Nat) (D : va_G) (cA : Nat → ClassId) {F : Nat} {L : HL} {a0 : Nat} {z : HL} (hE : fX2_init F L a0 = some z) : Met l yX2_init wsX2_init (RM 1 4 33) (Pk b0 D cA [.ref (b0 + a0)] L) (Qk b0 D cA none z) 4 33 (Ab b0) := by
  refine Met.ofW (cc := cX2_init) (maxL := 1) (ret := none) (by decide) rfl ?_
  intro p ev s m args below meth c s₁ B hml hv
  obtain ⟨rfl, hH, hK⟩ := hv
  have hx := B.exec
  have hb := B.bytes
  have hr := B.returns
  have hts := atoms_spec (ws := wsX2_init) B.pre
  have hown : s.vm.findClass RX2 = some m.cls := findClass_of_methodNamed B.named
  have hlocks := B.notSynchronized
  have hC : Cx D cA p s m _ meth c cX2_init 1 RX2 wsX2_init none := ⟨hx, hb, hml, hown, hts, hK, hr, hlocks⟩
  have hS : va_S (Ab b0) s.heap s.heap [] := va_S.rf
  have hl := lv_entry ([.ref (b0 + a0)]) (n := 1) (Nat.le_of_ble_eq_true rfl)
  rw [lg_entry_eq]
  generalize (lg_sl ([.ref (b0 + a0)]) ++ List.replicate (1 - (lg_sl ([.ref (b0 + a0)])).length) Slot.unset).toArray = ls at hl ⊢
  have hl : lv_has ls 1 [(0, .ref (b0 + a0))] := hl
  have hin : meth.name = "<init>" := (name_of_methodNamed B.named B.method).1
  unfold fX2_init at hE
  obtain ⟨_, _, hE⟩ := Option.bind_eq_some_iff.mp hE
  refine lv_aload_n hx hb dX2_init_0 rfl (lv_at hl 0 rfl) ?_
  refine W.objInit hx hb hown (hts (.methodLink RX2 3 objectInit) (by decide +kernel)) (hts (.instanceMethod objectInit) (by decide +kernel)) (hts (.code objectInit ⟨#[0xb1]⟩ 1 none) (by decide +kernel)) rfl (by rw [hml]; exact hl.1) rfl dX2_init_1 (Nat.le_of_ble_eq_true rfl) (Nat.le_of_ble_eq_true rfl) ?_
  refine W.eq (g2 := F0 m 4 ls []) rfl ?_
  refine lv_aload_n hx hb dX2_init_4 rfl (lv_at hl 0 rfl) ?_
  refine lv_bipush (v := 9) hx hb dX2_init_5 (by decide) ?_
  refine r_newa (N' := 9) 0 hx hb (hts (.arrayClass .int) (by decide +kernel)) rfl rfl hK rfl (fun _ h => by cases h) hH hS (by decide) (by decide) (by decide) (by decide) (by decide) dX2_init_7 (fun H hH hS => ?_)
  refine W.widen (k := 1) (n := 9) (by decide) (by decide) ?_
  obtain ⟨L1, hL1, hE⟩ := Option.bind_eq_some_iff.mp hE
  refine r_pF 0 (v := .ref L.length) (ty := (.array .int)) (C := RX2) (T := TX2) (N := 5) (ci := 2) hx hb hts (by decide +kernel) tyX2 tyX2_ok nmX2 hown hK hH hS hL1 rfl (by decide) (hts (.fieldLink RX2 9 "KindStreets$Moment" "seen" "[I") (by decide +kernel)) (fun _ h9 => h9) rfl hin rfl (by decide +kernel) rfl rfl dX2_init_9 (fun H locs hH hS => ?_)
  refine lv_aload_n hx hb dX2_init_12 rfl (lv_at hl 0 rfl) ?_
  refine lv_bipush (v := 9) hx hb dX2_init_13 (by decide) ?_
  refine r_newa (N' := 9) 0 hx hb (hts (.arrayClass .int) (by decide +kernel)) rfl rfl hK rfl (fun _ h => by cases h) hH hS (by decide) (by decide) (by decide) (by decide) (by decide) dX2_init_15 (fun H hH hS => ?_)
  refine W.widen (k := 2) (n := 18) (by decide) (by decide) ?_
  obtain ⟨L2, hL2, hE⟩ := Option.bind_eq_some_iff.mp hE
  refine r_pF 1 (v := .ref L1.length) (ty := (.array .int)) (C := RX2) (T := TX2) (N := 5) (ci := 2) hx hb hts (by decide +kernel) tyX2 tyX2_ok nmX2 hown hK hH hS hL2 rfl (by decide) (hts (.fieldLink RX2 15 "KindStreets$Moment" "hidden" "[I") (by decide +kernel)) (fun _ h9 => h9) rfl hin rfl (by decide +kernel) rfl rfl dX2_init_17 (fun H locs hH hS => ?_)
  refine lv_aload_n hx hb dX2_init_20 rfl (lv_at hl 0 rfl) ?_
  refine lv_bipush (v := 9) hx hb dX2_init_21 (by decide) ?_
  refine r_newa (N' := 9) 0 hx hb (hts (.arrayClass .int) (by decide +kernel)) rfl rfl hK rfl (fun _ h => by cases h) hH hS (by decide) (by decide) (by decide) (by decide) (by decide) dX2_init_23 (fun H hH hS => ?_)
  refine W.widen (k := 3) (n := 27) (by decide) (by decide) ?_
  obtain ⟨L3, hL3, hE⟩ := Option.bind_eq_some_iff.mp hE
  refine r_pF 2 (v := .ref L2.length) (ty := (.array .int)) (C := RX2) (T := TX2) (N := 5) (ci := 2) hx hb hts (by decide +kernel) tyX2 tyX2_ok nmX2 hown hK hH hS hL3 rfl (by decide) (hts (.fieldLink RX2 18 "KindStreets$Moment" "pretended" "[I") (by decide +kernel)) (fun _ h9 => h9) rfl hin rfl (by decide +kernel) rfl rfl dX2_init_25 (fun H locs hH hS => ?_)
  refine lv_aload_n hx hb dX2_init_28 rfl (lv_at hl 0 rfl) ?_
  refine lv_bipush (v := 6) hx hb dX2_init_29 (by decide) ?_
  refine r_newa (N' := 6) 0 hx hb (hts (.arrayClass .int) (by decide +kernel)) rfl rfl hK rfl (fun _ h => by cases h) hH hS (by decide) (by decide) (by decide) (by decide) (by decide) dX2_init_31 (fun H hH hS => ?_)
  refine W.widen (k := 4) (n := 33) (by decide) (by decide) ?_
  obtain ⟨L4, hL4, hE⟩ := Option.bind_eq_some_iff.mp hE
  refine r_pF 3 (v := .ref L3.length) (ty := (.array .int)) (C := RX2) (T := TX2) (N := 5) (ci := 2) hx hb hts (by decide +kernel) tyX2 tyX2_ok nmX2 hown hK hH hS hL4 rfl (by decide) (hts (.fieldLink RX2 21 "KindStreets$Moment" "home" "[I") (by decide +kernel)) (fun _ h9 => h9) rfl hin rfl (by decide +kernel) rfl rfl dX2_init_33 (fun H locs hH hS => ?_)
  have hZ := Option.some.inj hE
  subst hZ
  exact W.vret hx hb hr (fun t ht hW => ⟨rfl, by rw [ht]; exact hH, hS.F ht⟩) hS.2.2 dX2_init_36
-- X3_init
def fX3_init (F : Nat) (L : HL) (a0 : Nat) : Option HL := (o_ob L a0 3).bind fun _ => (fX2_init F (L ++ [(.inr (.inr (2, [.null, .null, .null, .null, .int 0])) : SC)]) L.length).bind fun z1 => (o_p z1 a0 3 0 (.ref L.length)).bind fun L2 => (o_p (L2 ++ [(.inr (.inl (3, 10, fun _ => none)) : SC)]) a0 3 1 (.ref L2.length)).bind fun L3 => (o_gR L3 a0 3 1).bind fun v4 => (fX2_init F (L3 ++ [(.inr (.inr (2, [.null, .null, .null, .null, .int 0])) : SC)]) L3.length).bind fun z5 => (o_sR z5 v4 3 2 0 L3.length).bind fun L6 => (o_gR L6 a0 3 1).bind fun v7 => (fX2_init F (L6 ++ [(.inr (.inr (2, [.null, .null, .null, .null, .int 0])) : SC)]) L6.length).bind fun z8 => (o_sR z8 v7 3 2 1 L6.length).bind fun L9 => (o_gR L9 a0 3 1).bind fun v10 => (fX2_init F (L9 ++ [(.inr (.inr (2, [.null, .null, .null, .null, .int 0])) : SC)]) L9.length).bind fun z11 => (o_sR z11 v10 3 2 2 L9.length).bind fun L12 => (o_gR L12 a0 3 1).bind fun v13 => (fX2_init F (L12 ++ [(.inr (.inr (2, [.null, .null, .null, .null, .int 0])) : SC)]) L12.length).bind fun z14 => (o_sR z14 v13 3 2 3 L12.length).bind fun L15 => (o_gR L15 a0 3 1).bind fun v16 => (fX2_init F (L15 ++ [(.inr (.inr (2, [.null, .null, .null, .null, .int 0])) : SC)]) L15.length).bind fun z17 => (o_sR z17 v16 3 2 4 L15.length).bind fun L18 => (o_gR L18 a0 3 1).bind fun v19 => (fX2_init F (L18 ++ [(.inr (.inr (2, [.null, .null, .null, .null, .int 0])) : SC)]) L18.length).bind fun z20 => (o_sR z20 v19 3 2 5 L18.length).bind fun L21 => (o_gR L21 a0 3 1).bind fun v22 => (fX2_init F (L21 ++ [(.inr (.inr (2, [.null, .null, .null, .null, .int 0])) : SC)]) L21.length).bind fun z23 => (o_sR z23 v22 3 2 6 L21.length).bind fun L24 => (o_gR L24 a0 3 1).bind fun v25 => (fX2_init F (L24 ++ [(.inr (.inr (2, [.null, .null, .null, .null, .int 0])) : SC)]) L24.length).bind fun z26 => (o_sR z26 v25 3 2 7 L24.length).bind fun L27 => (o_gR L27 a0 3 1).bind fun v28 => (fX2_init F (L27 ++ [(.inr (.inr (2, [.null, .null, .null, .null, .int 0])) : SC)]) L27.length).bind fun z29 => (o_sR z29 v28 3 2 8 L27.length).bind fun L30 => (o_gR L30 a0 3 1).bind fun v31 => (fX2_init F (L30 ++ [(.inr (.inr (2, [.null, .null, .null, .null, .int 0])) : SC)]) L30.length).bind fun z32 => (o_sR z32 v31 3 2 9 L30.length).bind fun L33 => some L33
theorem oX3_init {F : Nat} {L : HL} {a0 : Nat} {z : HL} (hE : fX3_init F L a0 = some z) : o_ob L a0 3 = some () := by
  obtain ⟨_, h, _⟩ := Option.bind_eq_some_iff.mp hE
  exact h
set_option maxHeartbeats 4000000 in
set_option maxRecDepth 100000 in
theorem sX3_init (l : Launch) (b0 : Nat) (D : va_G) (cA : Nat → ClassId) {F : Nat} {L : HL} {a0 : Nat} {z : HL} (hE : fX3_init F L a0 = some z) : Met l yX3_init wsX3_init (RM 2 56 428) (Pk b0 D cA [.ref (b0 + a0)] L) (Qk b0 D cA none z) 56 428 (Ab b0) := by
  refine Met.ofW (cc := cX3_init) (maxL := 2) (ret := none) (by decide) rfl ?_
  intro p ev s m args below meth c s₁ B hml hv
  obtain ⟨rfl, hH, hK⟩ := hv
  have hx := B.exec
  have hb := B.bytes
  have hr := B.returns
  have hts := atoms_spec (ws := wsX3_init) B.pre
  have hown : s.vm.findClass RX3 = some m.cls := findClass_of_methodNamed B.named
  have hlocks := B.notSynchronized
  have hC : Cx D cA p s m _ meth c cX3_init 2 RX3 wsX3_init none := ⟨hx, hb, hml, hown, hts, hK, hr, hlocks⟩
  have hS : va_S (Ab b0) s.heap s.heap [] := va_S.rf
  have hl := lv_entry ([.ref (b0 + a0)]) (n := 2) (Nat.le_of_ble_eq_true rfl)
  rw [lg_entry_eq]
  generalize (lg_sl ([.ref (b0 + a0)]) ++ List.replicate (2 - (lg_sl ([.ref (b0 + a0)])).length) Slot.unset).toArray = ls at hl ⊢
  have hl : lv_has ls 2 [(0, .ref (b0 + a0))] := hl
  have hin : meth.name = "<init>" := (name_of_methodNamed B.named B.method).1
  unfold fX3_init at hE
  obtain ⟨_, _, hE⟩ := Option.bind_eq_some_iff.mp hE
  refine lv_aload_n hx hb dX3_init_0 rfl (lv_at hl 0 rfl) ?_
  refine W.objInit hx hb hown (hts (.methodLink RX3 3 objectInit) (by decide +kernel)) (hts (.instanceMethod objectInit) (by decide +kernel)) (hts (.code objectInit ⟨#[0xb1]⟩ 1 none) (by decide +kernel)) rfl (by rw [hml]; exact hl.1) rfl dX3_init_1 (Nat.le_of_ble_eq_true rfl) (Nat.le_of_ble_eq_true rfl) ?_
  refine W.eq (g2 := F0 m 4 ls []) rfl ?_
  refine lv_aload_n hx hb dX3_init_4 rfl (lv_at hl 0 rfl) ?_
  refine r_new (C := RX2) (T := TX2) (N := 5) (ci := 2) (fs := [.null, .null, .null, .null, .int 0]) hx hb hts (by decide +kernel) tyX2 tyX2_ok hown (hts (.classLink RX3 9 RX2) (by decide +kernel)) (hts (.instantiable RX2 5) (by decide +kernel)) (hts (.initialized RX2) (by decide +kernel)) hK hH hS rfl (by decide) rfl (by decide) (by decide) dX3_init_5 (fun H hH hS => ?_)
  refine W.widen (k := 1) (n := 5) (by decide) (by decide) ?_
  refine lv_dup hx hb dX3_init_8 rfl ?_
  obtain ⟨z1, hz1, hE⟩ := Option.bind_eq_some_iff.mp hE
  refine r_callV (va_runI (As := []) (rest := [.ref (b0 + L.length), .ref (b0 + a0)]) ⟨hx, hb, hml, hown, hts⟩ (sX2_init l b0 D cA hz1) (cwI 0 hts gX3_init_X2_init rfl rfl rfl (hts (.initialized RX2) (by decide +kernel)) (hts (.methodLink RX3 11 yX2_init) (by decide +kernel)) (hts (.instanceMethod yX2_init) (by decide +kernel)) rfl (by decide +kernel) (rm_ok (by decide) (by decide))) (pre_S hK hH) rfl rfl hl.1 rfl (lv_room (Nat.le_of_ble_eq_true rfl)) dX3_init_9 ⟨by decide, by decide⟩) hS (fun H locs hH hS => ?_)
  refine W.widen (k := 5) (n := 38) (by decide) (by decide) ?_
  obtain ⟨L2, hL2, hE⟩ := Option.bind_eq_some_iff.mp hE
  refine r_pF 0 (v := .ref L.length) (ty := (.object "KindStreets$Moment")) (C := RX3) (T := TX3) (N := 3) (ci := 3) hx hb hts (by decide +kernel) tyX3 tyX3_ok nmX3 hown hK hH hS hL2 rfl (by decide) (hts (.fieldLink RX3 12 "KindStreets$Now" "moment" "LKindStreets$Moment;") (by decide +kernel)) (fun _ h9 => h9) rfl hin rfl (by decide +kernel) rfl rfl dX3_init_12 (fun H locs hH hS => ?_)
  refine lv_aload_n hx hb dX3_init_15 rfl (lv_at hl 0 rfl) ?_
  refine lv_bipush (v := 10) hx hb dX3_init_16 (by decide) ?_
  refine r_anew (N' := 10) 3 hx hb hown (hts (.classLink RX3 9 RX2) (by decide +kernel)) (va_AO.use hK.2.1) hK rfl hH hS (by decide) (by decide) (by decide) (by decide) (by decide) dX3_init_18 (fun H hH hS => ?_)
  refine W.widen (k := 6) (n := 48) (by decide) (by decide) ?_
  obtain ⟨L3, hL3, hE⟩ := Option.bind_eq_some_iff.mp hE
  refine r_pF 1 (v := .ref L2.length) (ty := (.array (.object "KindStreets$Moment"))) (C := RX3) (T := TX3) (N := 3) (ci := 3) hx hb hts (by decide +kernel) tyX3 tyX3_ok nmX3 hown hK hH hS hL3 rfl (by decide) (hts (.fieldLink RX3 18 "KindStreets$Now" "past" "[LKindStreets$Moment;") (by decide +kernel)) (fun _ h9 => h9) rfl hin rfl (by decide +kernel) rfl rfl dX3_init_21 (fun H locs hH hS => ?_)
  refine lv_iconst (v := 0) hx hb dX3_init_24 (by decide) ?_
  refine lv_istore_n (lv' := [(1, .int 0), (0, .ref (b0 + a0))]) hx hb dX3_init_25 rfl hl (by decide) rfl (fun ls hl => ?_)
  refine lv_iload_n hx hb dX3_init_26 rfl (lv_at hl 0 rfl) ?_
  refine lv_bipush (v := 10) hx hb dX3_init_27 (by decide) ?_
  refine lv_icmp_ge (tgt := 51) hx hb dX3_init_29 (by decide) (fun hcz => absurd hcz (by decide)) (fun _ => ?_)
  refine lv_aload_n hx hb dX3_init_32 rfl (lv_at hl 1 rfl) ?_
  obtain ⟨v4, hv4, hE⟩ := Option.bind_eq_some_iff.mp hE
  refine r_gR 1 (C := RX3) (T := TX3) (N := 3) (ci := 3) hx hb hts (by decide +kernel) hown hK hH hv4 rfl (by decide) (hts (.fieldLink RX3 18 "KindStreets$Now" "past" "[LKindStreets$Moment;") (by decide +kernel)) (fun _ h9 => h9) dX3_init_33 ?_
  refine lv_iload_n hx hb dX3_init_36 rfl (lv_at hl 0 rfl) ?_
  refine r_new (C := RX2) (T := TX2) (N := 5) (ci := 2) (fs := [.null, .null, .null, .null, .int 0]) hx hb hts (by decide +kernel) tyX2 tyX2_ok hown (hts (.classLink RX3 9 RX2) (by decide +kernel)) (hts (.instantiable RX2 5) (by decide +kernel)) (hts (.initialized RX2) (by decide +kernel)) hK hH hS rfl (by decide) rfl (by decide) (by decide) dX3_init_37 (fun H hH hS => ?_)
  refine W.widen (k := 7) (n := 53) (by decide) (by decide) ?_
  refine lv_dup hx hb dX3_init_40 rfl ?_
  obtain ⟨z5, hz5, hE⟩ := Option.bind_eq_some_iff.mp hE
  refine r_callV (va_runI (As := []) (rest := [.ref (b0 + L3.length), .int 0, .ref (b0 + v4)]) ⟨hx, hb, hml, hown, hts⟩ (sX2_init l b0 D cA hz5) (cwI 0 hts gX3_init_X2_init rfl rfl rfl (hts (.initialized RX2) (by decide +kernel)) (hts (.methodLink RX3 11 yX2_init) (by decide +kernel)) (hts (.instanceMethod yX2_init) (by decide +kernel)) rfl (by decide +kernel) (rm_ok (by decide) (by decide))) (pre_S hK hH) rfl rfl hl.1 rfl (lv_room (Nat.le_of_ble_eq_true rfl)) dX3_init_41 ⟨by decide, by decide⟩) hS (fun H locs hH hS => ?_)
  refine W.widen (k := 11) (n := 86) (by decide) (by decide) ?_
  obtain ⟨L6, hL6, hE⟩ := Option.bind_eq_some_iff.mp hE
  refine r_aast (r := (RX2, TX2, 5)) hx hb hK hH hS hL6 rfl rfl dX3_init_44 (fun H locs hH hS => ?_)
  refine lv_iinc (v := 1) (lv' := [(1, .int 1), (0, .ref (b0 + a0))]) hx hb dX3_init_45 hl (k := 0) rfl rfl (by decide) rfl (fun ls hl => ?_)
  refine lv_goto (tgt := 26) hx hb dX3_init_48 (by decide) ?_
  refine lv_iload_n hx hb dX3_init_26 rfl (lv_at hl 0 rfl) ?_
  refine lv_bipush (v := 10) hx hb dX3_init_27 (by decide) ?_
  refine lv_icmp_ge (tgt := 51) hx hb dX3_init_29 (by decide) (fun hcz => absurd hcz (by decide)) (fun _ => ?_)
  refine lv_aload_n hx hb dX3_init_32 rfl (lv_at hl 1 rfl) ?_
  obtain ⟨v7, hv7, hE⟩ := Option.bind_eq_some_iff.mp hE
  refine r_gR 1 (C := RX3) (T := TX3) (N := 3) (ci := 3) hx hb hts (by decide +kernel) hown hK hH hv7 rfl (by decide) (hts (.fieldLink RX3 18 "KindStreets$Now" "past" "[LKindStreets$Moment;") (by decide +kernel)) (fun _ h9 => h9) dX3_init_33 ?_
  refine lv_iload_n hx hb dX3_init_36 rfl (lv_at hl 0 rfl) ?_
  refine r_new (C := RX2) (T := TX2) (N := 5) (ci := 2) (fs := [.null, .null, .null, .null, .int 0]) hx hb hts (by decide +kernel) tyX2 tyX2_ok hown (hts (.classLink RX3 9 RX2) (by decide +kernel)) (hts (.instantiable RX2 5) (by decide +kernel)) (hts (.initialized RX2) (by decide +kernel)) hK hH hS rfl (by decide) rfl (by decide) (by decide) dX3_init_37 (fun H hH hS => ?_)
  refine W.widen (k := 12) (n := 91) (by decide) (by decide) ?_
  refine lv_dup hx hb dX3_init_40 rfl ?_
  obtain ⟨z8, hz8, hE⟩ := Option.bind_eq_some_iff.mp hE
  refine r_callV (va_runI (As := []) (rest := [.ref (b0 + L6.length), .int 1, .ref (b0 + v7)]) ⟨hx, hb, hml, hown, hts⟩ (sX2_init l b0 D cA hz8) (cwI 0 hts gX3_init_X2_init rfl rfl rfl (hts (.initialized RX2) (by decide +kernel)) (hts (.methodLink RX3 11 yX2_init) (by decide +kernel)) (hts (.instanceMethod yX2_init) (by decide +kernel)) rfl (by decide +kernel) (rm_ok (by decide) (by decide))) (pre_S hK hH) rfl rfl hl.1 rfl (lv_room (Nat.le_of_ble_eq_true rfl)) dX3_init_41 ⟨by decide, by decide⟩) hS (fun H locs hH hS => ?_)
  refine W.widen (k := 16) (n := 124) (by decide) (by decide) ?_
  obtain ⟨L9, hL9, hE⟩ := Option.bind_eq_some_iff.mp hE
  refine r_aast (r := (RX2, TX2, 5)) hx hb hK hH hS hL9 rfl rfl dX3_init_44 (fun H locs hH hS => ?_)
  refine lv_iinc (v := 2) (lv' := [(1, .int 2), (0, .ref (b0 + a0))]) hx hb dX3_init_45 hl (k := 0) rfl rfl (by decide) rfl (fun ls hl => ?_)
  refine lv_goto (tgt := 26) hx hb dX3_init_48 (by decide) ?_
  refine lv_iload_n hx hb dX3_init_26 rfl (lv_at hl 0 rfl) ?_
  refine lv_bipush (v := 10) hx hb dX3_init_27 (by decide) ?_
  refine lv_icmp_ge (tgt := 51) hx hb dX3_init_29 (by decide) (fun hcz => absurd hcz (by decide)) (fun _ => ?_)
  refine lv_aload_n hx hb dX3_init_32 rfl (lv_at hl 1 rfl) ?_
  obtain ⟨v10, hv10, hE⟩ := Option.bind_eq_some_iff.mp hE
  refine r_gR 1 (C := RX3) (T := TX3) (N := 3) (ci := 3) hx hb hts (by decide +kernel) hown hK hH hv10 rfl (by decide) (hts (.fieldLink RX3 18 "KindStreets$Now" "past" "[LKindStreets$Moment;") (by decide +kernel)) (fun _ h9 => h9) dX3_init_33 ?_
  refine lv_iload_n hx hb dX3_init_36 rfl (lv_at hl 0 rfl) ?_
  refine r_new (C := RX2) (T := TX2) (N := 5) (ci := 2) (fs := [.null, .null, .null, .null, .int 0]) hx hb hts (by decide +kernel) tyX2 tyX2_ok hown (hts (.classLink RX3 9 RX2) (by decide +kernel)) (hts (.instantiable RX2 5) (by decide +kernel)) (hts (.initialized RX2) (by decide +kernel)) hK hH hS rfl (by decide) rfl (by decide) (by decide) dX3_init_37 (fun H hH hS => ?_)
  refine W.widen (k := 17) (n := 129) (by decide) (by decide) ?_
  refine lv_dup hx hb dX3_init_40 rfl ?_
  obtain ⟨z11, hz11, hE⟩ := Option.bind_eq_some_iff.mp hE
  refine r_callV (va_runI (As := []) (rest := [.ref (b0 + L9.length), .int 2, .ref (b0 + v10)]) ⟨hx, hb, hml, hown, hts⟩ (sX2_init l b0 D cA hz11) (cwI 0 hts gX3_init_X2_init rfl rfl rfl (hts (.initialized RX2) (by decide +kernel)) (hts (.methodLink RX3 11 yX2_init) (by decide +kernel)) (hts (.instanceMethod yX2_init) (by decide +kernel)) rfl (by decide +kernel) (rm_ok (by decide) (by decide))) (pre_S hK hH) rfl rfl hl.1 rfl (lv_room (Nat.le_of_ble_eq_true rfl)) dX3_init_41 ⟨by decide, by decide⟩) hS (fun H locs hH hS => ?_)
  refine W.widen (k := 21) (n := 162) (by decide) (by decide) ?_
  obtain ⟨L12, hL12, hE⟩ := Option.bind_eq_some_iff.mp hE
  refine r_aast (r := (RX2, TX2, 5)) hx hb hK hH hS hL12 rfl rfl dX3_init_44 (fun H locs hH hS => ?_)
  refine lv_iinc (v := 3) (lv' := [(1, .int 3), (0, .ref (b0 + a0))]) hx hb dX3_init_45 hl (k := 0) rfl rfl (by decide) rfl (fun ls hl => ?_)
  refine lv_goto (tgt := 26) hx hb dX3_init_48 (by decide) ?_
  refine lv_iload_n hx hb dX3_init_26 rfl (lv_at hl 0 rfl) ?_
  refine lv_bipush (v := 10) hx hb dX3_init_27 (by decide) ?_
  refine lv_icmp_ge (tgt := 51) hx hb dX3_init_29 (by decide) (fun hcz => absurd hcz (by decide)) (fun _ => ?_)
  refine lv_aload_n hx hb dX3_init_32 rfl (lv_at hl 1 rfl) ?_
  obtain ⟨v13, hv13, hE⟩ := Option.bind_eq_some_iff.mp hE
  refine r_gR 1 (C := RX3) (T := TX3) (N := 3) (ci := 3) hx hb hts (by decide +kernel) hown hK hH hv13 rfl (by decide) (hts (.fieldLink RX3 18 "KindStreets$Now" "past" "[LKindStreets$Moment;") (by decide +kernel)) (fun _ h9 => h9) dX3_init_33 ?_
  refine lv_iload_n hx hb dX3_init_36 rfl (lv_at hl 0 rfl) ?_
  refine r_new (C := RX2) (T := TX2) (N := 5) (ci := 2) (fs := [.null, .null, .null, .null, .int 0]) hx hb hts (by decide +kernel) tyX2 tyX2_ok hown (hts (.classLink RX3 9 RX2) (by decide +kernel)) (hts (.instantiable RX2 5) (by decide +kernel)) (hts (.initialized RX2) (by decide +kernel)) hK hH hS rfl (by decide) rfl (by decide) (by decide) dX3_init_37 (fun H hH hS => ?_)
  refine W.widen (k := 22) (n := 167) (by decide) (by decide) ?_
  refine lv_dup hx hb dX3_init_40 rfl ?_
  obtain ⟨z14, hz14, hE⟩ := Option.bind_eq_some_iff.mp hE
  refine r_callV (va_runI (As := []) (rest := [.ref (b0 + L12.length), .int 3, .ref (b0 + v13)]) ⟨hx, hb, hml, hown, hts⟩ (sX2_init l b0 D cA hz14) (cwI 0 hts gX3_init_X2_init rfl rfl rfl (hts (.initialized RX2) (by decide +kernel)) (hts (.methodLink RX3 11 yX2_init) (by decide +kernel)) (hts (.instanceMethod yX2_init) (by decide +kernel)) rfl (by decide +kernel) (rm_ok (by decide) (by decide))) (pre_S hK hH) rfl rfl hl.1 rfl (lv_room (Nat.le_of_ble_eq_true rfl)) dX3_init_41 ⟨by decide, by decide⟩) hS (fun H locs hH hS => ?_)
  refine W.widen (k := 26) (n := 200) (by decide) (by decide) ?_
  obtain ⟨L15, hL15, hE⟩ := Option.bind_eq_some_iff.mp hE
  refine r_aast (r := (RX2, TX2, 5)) hx hb hK hH hS hL15 rfl rfl dX3_init_44 (fun H locs hH hS => ?_)
  refine lv_iinc (v := 4) (lv' := [(1, .int 4), (0, .ref (b0 + a0))]) hx hb dX3_init_45 hl (k := 0) rfl rfl (by decide) rfl (fun ls hl => ?_)
  refine lv_goto (tgt := 26) hx hb dX3_init_48 (by decide) ?_
  refine lv_iload_n hx hb dX3_init_26 rfl (lv_at hl 0 rfl) ?_
  refine lv_bipush (v := 10) hx hb dX3_init_27 (by decide) ?_
  refine lv_icmp_ge (tgt := 51) hx hb dX3_init_29 (by decide) (fun hcz => absurd hcz (by decide)) (fun _ => ?_)
  refine lv_aload_n hx hb dX3_init_32 rfl (lv_at hl 1 rfl) ?_
  obtain ⟨v16, hv16, hE⟩ := Option.bind_eq_some_iff.mp hE
  refine r_gR 1 (C := RX3) (T := TX3) (N := 3) (ci := 3) hx hb hts (by decide +kernel) hown hK hH hv16 rfl (by decide) (hts (.fieldLink RX3 18 "KindStreets$Now" "past" "[LKindStreets$Moment;") (by decide +kernel)) (fun _ h9 => h9) dX3_init_33 ?_
  refine lv_iload_n hx hb dX3_init_36 rfl (lv_at hl 0 rfl) ?_
  refine r_new (C := RX2) (T := TX2) (N := 5) (ci := 2) (fs := [.null, .null, .null, .null, .int 0]) hx hb hts (by decide +kernel) tyX2 tyX2_ok hown (hts (.classLink RX3 9 RX2) (by decide +kernel)) (hts (.instantiable RX2 5) (by decide +kernel)) (hts (.initialized RX2) (by decide +kernel)) hK hH hS rfl (by decide) rfl (by decide) (by decide) dX3_init_37 (fun H hH hS => ?_)
  refine W.widen (k := 27) (n := 205) (by decide) (by decide) ?_
  refine lv_dup hx hb dX3_init_40 rfl ?_
  obtain ⟨z17, hz17, hE⟩ := Option.bind_eq_some_iff.mp hE
  refine r_callV (va_runI (As := []) (rest := [.ref (b0 + L15.length), .int 4, .ref (b0 + v16)]) ⟨hx, hb, hml, hown, hts⟩ (sX2_init l b0 D cA hz17) (cwI 0 hts gX3_init_X2_init rfl rfl rfl (hts (.initialized RX2) (by decide +kernel)) (hts (.methodLink RX3 11 yX2_init) (by decide +kernel)) (hts (.instanceMethod yX2_init) (by decide +kernel)) rfl (by decide +kernel) (rm_ok (by decide) (by decide))) (pre_S hK hH) rfl rfl hl.1 rfl (lv_room (Nat.le_of_ble_eq_true rfl)) dX3_init_41 ⟨by decide, by decide⟩) hS (fun H locs hH hS => ?_)
  refine W.widen (k := 31) (n := 238) (by decide) (by decide) ?_
  obtain ⟨L18, hL18, hE⟩ := Option.bind_eq_some_iff.mp hE
  refine r_aast (r := (RX2, TX2, 5)) hx hb hK hH hS hL18 rfl rfl dX3_init_44 (fun H locs hH hS => ?_)
  refine lv_iinc (v := 5) (lv' := [(1, .int 5), (0, .ref (b0 + a0))]) hx hb dX3_init_45 hl (k := 0) rfl rfl (by decide) rfl (fun ls hl => ?_)
  refine lv_goto (tgt := 26) hx hb dX3_init_48 (by decide) ?_
  refine lv_iload_n hx hb dX3_init_26 rfl (lv_at hl 0 rfl) ?_
  refine lv_bipush (v := 10) hx hb dX3_init_27 (by decide) ?_
  refine lv_icmp_ge (tgt := 51) hx hb dX3_init_29 (by decide) (fun hcz => absurd hcz (by decide)) (fun _ => ?_)
  refine lv_aload_n hx hb dX3_init_32 rfl (lv_at hl 1 rfl) ?_
  obtain ⟨v19, hv19, hE⟩ := Option.bind_eq_some_iff.mp hE
  refine r_gR 1 (C := RX3) (T := TX3) (N := 3) (ci := 3) hx hb hts (by decide +kernel) hown hK hH hv19 rfl (by decide) (hts (.fieldLink RX3 18 "KindStreets$Now" "past" "[LKindStreets$Moment;") (by decide +kernel)) (fun _ h9 => h9) dX3_init_33 ?_
  refine lv_iload_n hx hb dX3_init_36 rfl (lv_at hl 0 rfl) ?_
  refine r_new (C := RX2) (T := TX2) (N := 5) (ci := 2) (fs := [.null, .null, .null, .null, .int 0]) hx hb hts (by decide +kernel) tyX2 tyX2_ok hown (hts (.classLink RX3 9 RX2) (by decide +kernel)) (hts (.instantiable RX2 5) (by decide +kernel)) (hts (.initialized RX2) (by decide +kernel)) hK hH hS rfl (by decide) rfl (by decide) (by decide) dX3_init_37 (fun H hH hS => ?_)
  refine W.widen (k := 32) (n := 243) (by decide) (by decide) ?_
  refine lv_dup hx hb dX3_init_40 rfl ?_
  obtain ⟨z20, hz20, hE⟩ := Option.bind_eq_some_iff.mp hE
  refine r_callV (va_runI (As := []) (rest := [.ref (b0 + L18.length), .int 5, .ref (b0 + v19)]) ⟨hx, hb, hml, hown, hts⟩ (sX2_init l b0 D cA hz20) (cwI 0 hts gX3_init_X2_init rfl rfl rfl (hts (.initialized RX2) (by decide +kernel)) (hts (.methodLink RX3 11 yX2_init) (by decide +kernel)) (hts (.instanceMethod yX2_init) (by decide +kernel)) rfl (by decide +kernel) (rm_ok (by decide) (by decide))) (pre_S hK hH) rfl rfl hl.1 rfl (lv_room (Nat.le_of_ble_eq_true rfl)) dX3_init_41 ⟨by decide, by decide⟩) hS (fun H locs hH hS => ?_)
  refine W.widen (k := 36) (n := 276) (by decide) (by decide) ?_
  obtain ⟨L21, hL21, hE⟩ := Option.bind_eq_some_iff.mp hE
  refine r_aast (r := (RX2, TX2, 5)) hx hb hK hH hS hL21 rfl rfl dX3_init_44 (fun H locs hH hS => ?_)
  refine lv_iinc (v := 6) (lv' := [(1, .int 6), (0, .ref (b0 + a0))]) hx hb dX3_init_45 hl (k := 0) rfl rfl (by decide) rfl (fun ls hl => ?_)
  refine lv_goto (tgt := 26) hx hb dX3_init_48 (by decide) ?_
  refine lv_iload_n hx hb dX3_init_26 rfl (lv_at hl 0 rfl) ?_
  refine lv_bipush (v := 10) hx hb dX3_init_27 (by decide) ?_
  refine lv_icmp_ge (tgt := 51) hx hb dX3_init_29 (by decide) (fun hcz => absurd hcz (by decide)) (fun _ => ?_)
  refine lv_aload_n hx hb dX3_init_32 rfl (lv_at hl 1 rfl) ?_
  obtain ⟨v22, hv22, hE⟩ := Option.bind_eq_some_iff.mp hE
  refine r_gR 1 (C := RX3) (T := TX3) (N := 3) (ci := 3) hx hb hts (by decide +kernel) hown hK hH hv22 rfl (by decide) (hts (.fieldLink RX3 18 "KindStreets$Now" "past" "[LKindStreets$Moment;") (by decide +kernel)) (fun _ h9 => h9) dX3_init_33 ?_
  refine lv_iload_n hx hb dX3_init_36 rfl (lv_at hl 0 rfl) ?_
  refine r_new (C := RX2) (T := TX2) (N := 5) (ci := 2) (fs := [.null, .null, .null, .null, .int 0]) hx hb hts (by decide +kernel) tyX2 tyX2_ok hown (hts (.classLink RX3 9 RX2) (by decide +kernel)) (hts (.instantiable RX2 5) (by decide +kernel)) (hts (.initialized RX2) (by decide +kernel)) hK hH hS rfl (by decide) rfl (by decide) (by decide) dX3_init_37 (fun H hH hS => ?_)
  refine W.widen (k := 37) (n := 281) (by decide) (by decide) ?_
  refine lv_dup hx hb dX3_init_40 rfl ?_
  obtain ⟨z23, hz23, hE⟩ := Option.bind_eq_some_iff.mp hE
  refine r_callV (va_runI (As := []) (rest := [.ref (b0 + L21.length), .int 6, .ref (b0 + v22)]) ⟨hx, hb, hml, hown, hts⟩ (sX2_init l b0 D cA hz23) (cwI 0 hts gX3_init_X2_init rfl rfl rfl (hts (.initialized RX2) (by decide +kernel)) (hts (.methodLink RX3 11 yX2_init) (by decide +kernel)) (hts (.instanceMethod yX2_init) (by decide +kernel)) rfl (by decide +kernel) (rm_ok (by decide) (by decide))) (pre_S hK hH) rfl rfl hl.1 rfl (lv_room (Nat.le_of_ble_eq_true rfl)) dX3_init_41 ⟨by decide, by decide⟩) hS (fun H locs hH hS => ?_)
  refine W.widen (k := 41) (n := 314) (by decide) (by decide) ?_
  obtain ⟨L24, hL24, hE⟩ := Option.bind_eq_some_iff.mp hE
  refine r_aast (r := (RX2, TX2, 5)) hx hb hK hH hS hL24 rfl rfl dX3_init_44 (fun H locs hH hS => ?_)
  refine lv_iinc (v := 7) (lv' := [(1, .int 7), (0, .ref (b0 + a0))]) hx hb dX3_init_45 hl (k := 0) rfl rfl (by decide) rfl (fun ls hl => ?_)
  refine lv_goto (tgt := 26) hx hb dX3_init_48 (by decide) ?_
  refine lv_iload_n hx hb dX3_init_26 rfl (lv_at hl 0 rfl) ?_
  refine lv_bipush (v := 10) hx hb dX3_init_27 (by decide) ?_
  refine lv_icmp_ge (tgt := 51) hx hb dX3_init_29 (by decide) (fun hcz => absurd hcz (by decide)) (fun _ => ?_)
  refine lv_aload_n hx hb dX3_init_32 rfl (lv_at hl 1 rfl) ?_
  obtain ⟨v25, hv25, hE⟩ := Option.bind_eq_some_iff.mp hE
  refine r_gR 1 (C := RX3) (T := TX3) (N := 3) (ci := 3) hx hb hts (by decide +kernel) hown hK hH hv25 rfl (by decide) (hts (.fieldLink RX3 18 "KindStreets$Now" "past" "[LKindStreets$Moment;") (by decide +kernel)) (fun _ h9 => h9) dX3_init_33 ?_
  refine lv_iload_n hx hb dX3_init_36 rfl (lv_at hl 0 rfl) ?_
  refine r_new (C := RX2) (T := TX2) (N := 5) (ci := 2) (fs := [.null, .null, .null, .null, .int 0]) hx hb hts (by decide +kernel) tyX2 tyX2_ok hown (hts (.classLink RX3 9 RX2) (by decide +kernel)) (hts (.instantiable RX2 5) (by decide +kernel)) (hts (.initialized RX2) (by decide +kernel)) hK hH hS rfl (by decide) rfl (by decide) (by decide) dX3_init_37 (fun H hH hS => ?_)
  refine W.widen (k := 42) (n := 319) (by decide) (by decide) ?_
  refine lv_dup hx hb dX3_init_40 rfl ?_
  obtain ⟨z26, hz26, hE⟩ := Option.bind_eq_some_iff.mp hE
  refine r_callV (va_runI (As := []) (rest := [.ref (b0 + L24.length), .int 7, .ref (b0 + v25)]) ⟨hx, hb, hml, hown, hts⟩ (sX2_init l b0 D cA hz26) (cwI 0 hts gX3_init_X2_init rfl rfl rfl (hts (.initialized RX2) (by decide +kernel)) (hts (.methodLink RX3 11 yX2_init) (by decide +kernel)) (hts (.instanceMethod yX2_init) (by decide +kernel)) rfl (by decide +kernel) (rm_ok (by decide) (by decide))) (pre_S hK hH) rfl rfl hl.1 rfl (lv_room (Nat.le_of_ble_eq_true rfl)) dX3_init_41 ⟨by decide, by decide⟩) hS (fun H locs hH hS => ?_)
  refine W.widen (k := 46) (n := 352) (by decide) (by decide) ?_
  obtain ⟨L27, hL27, hE⟩ := Option.bind_eq_some_iff.mp hE
  refine r_aast (r := (RX2, TX2, 5)) hx hb hK hH hS hL27 rfl rfl dX3_init_44 (fun H locs hH hS => ?_)
  refine lv_iinc (v := 8) (lv' := [(1, .int 8), (0, .ref (b0 + a0))]) hx hb dX3_init_45 hl (k := 0) rfl rfl (by decide) rfl (fun ls hl => ?_)
  refine lv_goto (tgt := 26) hx hb dX3_init_48 (by decide) ?_
  refine lv_iload_n hx hb dX3_init_26 rfl (lv_at hl 0 rfl) ?_
  refine lv_bipush (v := 10) hx hb dX3_init_27 (by decide) ?_
  refine lv_icmp_ge (tgt := 51) hx hb dX3_init_29 (by decide) (fun hcz => absurd hcz (by decide)) (fun _ => ?_)
  refine lv_aload_n hx hb dX3_init_32 rfl (lv_at hl 1 rfl) ?_
  obtain ⟨v28, hv28, hE⟩ := Option.bind_eq_some_iff.mp hE
  refine r_gR 1 (C := RX3) (T := TX3) (N := 3) (ci := 3) hx hb hts (by decide +kernel) hown hK hH hv28 rfl (by decide) (hts (.fieldLink RX3 18 "KindStreets$Now" "past" "[LKindStreets$Moment;") (by decide +kernel)) (fun _ h9 => h9) dX3_init_33 ?_
  refine lv_iload_n hx hb dX3_init_36 rfl (lv_at hl 0 rfl) ?_
  refine r_new (C := RX2) (T := TX2) (N := 5) (ci := 2) (fs := [.null, .null, .null, .null, .int 0]) hx hb hts (by decide +kernel) tyX2 tyX2_ok hown (hts (.classLink RX3 9 RX2) (by decide +kernel)) (hts (.instantiable RX2 5) (by decide +kernel)) (hts (.initialized RX2) (by decide +kernel)) hK hH hS rfl (by decide) rfl (by decide) (by decide) dX3_init_37 (fun H hH hS => ?_)
  refine W.widen (k := 47) (n := 357) (by decide) (by decide) ?_
  refine lv_dup hx hb dX3_init_40 rfl ?_
  obtain ⟨z29, hz29, hE⟩ := Option.bind_eq_some_iff.mp hE
  refine r_callV (va_runI (As := []) (rest := [.ref (b0 + L27.length), .int 8, .ref (b0 + v28)]) ⟨hx, hb, hml, hown, hts⟩ (sX2_init l b0 D cA hz29) (cwI 0 hts gX3_init_X2_init rfl rfl rfl (hts (.initialized RX2) (by decide +kernel)) (hts (.methodLink RX3 11 yX2_init) (by decide +kernel)) (hts (.instanceMethod yX2_init) (by decide +kernel)) rfl (by decide +kernel) (rm_ok (by decide) (by decide))) (pre_S hK hH) rfl rfl hl.1 rfl (lv_room (Nat.le_of_ble_eq_true rfl)) dX3_init_41 ⟨by decide, by decide⟩) hS (fun H locs hH hS => ?_)
  refine W.widen (k := 51) (n := 390) (by decide) (by decide) ?_
  obtain ⟨L30, hL30, hE⟩ := Option.bind_eq_some_iff.mp hE
  refine r_aast (r := (RX2, TX2, 5)) hx hb hK hH hS hL30 rfl rfl dX3_init_44 (fun H locs hH hS => ?_)
  refine lv_iinc (v := 9) (lv' := [(1, .int 9), (0, .ref (b0 + a0))]) hx hb dX3_init_45 hl (k := 0) rfl rfl (by decide) rfl (fun ls hl => ?_)
  refine lv_goto (tgt := 26) hx hb dX3_init_48 (by decide) ?_
  refine lv_iload_n hx hb dX3_init_26 rfl (lv_at hl 0 rfl) ?_
  refine lv_bipush (v := 10) hx hb dX3_init_27 (by decide) ?_
  refine lv_icmp_ge (tgt := 51) hx hb dX3_init_29 (by decide) (fun hcz => absurd hcz (by decide)) (fun _ => ?_)
  refine lv_aload_n hx hb dX3_init_32 rfl (lv_at hl 1 rfl) ?_
  obtain ⟨v31, hv31, hE⟩ := Option.bind_eq_some_iff.mp hE
  refine r_gR 1 (C := RX3) (T := TX3) (N := 3) (ci := 3) hx hb hts (by decide +kernel) hown hK hH hv31 rfl (by decide) (hts (.fieldLink RX3 18 "KindStreets$Now" "past" "[LKindStreets$Moment;") (by decide +kernel)) (fun _ h9 => h9) dX3_init_33 ?_
  refine lv_iload_n hx hb dX3_init_36 rfl (lv_at hl 0 rfl) ?_
  refine r_new (C := RX2) (T := TX2) (N := 5) (ci := 2) (fs := [.null, .null, .null, .null, .int 0]) hx hb hts (by decide +kernel) tyX2 tyX2_ok hown (hts (.classLink RX3 9 RX2) (by decide +kernel)) (hts (.instantiable RX2 5) (by decide +kernel)) (hts (.initialized RX2) (by decide +kernel)) hK hH hS rfl (by decide) rfl (by decide) (by decide) dX3_init_37 (fun H hH hS => ?_)
  refine W.widen (k := 52) (n := 395) (by decide) (by decide) ?_
  refine lv_dup hx hb dX3_init_40 rfl ?_
  obtain ⟨z32, hz32, hE⟩ := Option.bind_eq_some_iff.mp hE
  refine r_callV (va_runI (As := []) (rest := [.ref (b0 + L30.length), .int 9, .ref (b0 + v31)]) ⟨hx, hb, hml, hown, hts⟩ (sX2_init l b0 D cA hz32) (cwI 0 hts gX3_init_X2_init rfl rfl rfl (hts (.initialized RX2) (by decide +kernel)) (hts (.methodLink RX3 11 yX2_init) (by decide +kernel)) (hts (.instanceMethod yX2_init) (by decide +kernel)) rfl (by decide +kernel) (rm_ok (by decide) (by decide))) (pre_S hK hH) rfl rfl hl.1 rfl (lv_room (Nat.le_of_ble_eq_true rfl)) dX3_init_41 ⟨by decide, by decide⟩) hS (fun H locs hH hS => ?_)
  refine W.widen (k := 56) (n := 428) (by decide) (by decide) ?_
  obtain ⟨L33, hL33, hE⟩ := Option.bind_eq_some_iff.mp hE
  refine r_aast (r := (RX2, TX2, 5)) hx hb hK hH hS hL33 rfl rfl dX3_init_44 (fun H locs hH hS => ?_)
  refine lv_iinc (v := 10) (lv' := [(1, .int 10), (0, .ref (b0 + a0))]) hx hb dX3_init_45 hl (k := 0) rfl rfl (by decide) rfl (fun ls hl => ?_)
  refine lv_goto (tgt := 26) hx hb dX3_init_48 (by decide) ?_
  refine lv_iload_n hx hb dX3_init_26 rfl (lv_at hl 0 rfl) ?_
  refine lv_bipush (v := 10) hx hb dX3_init_27 (by decide) ?_
  refine lv_icmp_ge (tgt := 51) hx hb dX3_init_29 (by decide) (fun _ => ?_) (fun hcz => absurd (by decide) hcz)
  have hZ := Option.some.inj hE
  subst hZ
  exact W.vret hx hb hr (fun t ht hW => ⟨rfl, by rw [ht]; exact hH, hS.F ht⟩) hS.2.2 dX3_init_51
-- X8_init
def fX8_init (F : Nat) (L : HL) (a0 : Nat) : Option HL := (o_ob L a0 7).bind fun _ => (fX4_init F (L ++ [(.inr (.inr (4, [.int 0, .int 0, .int 0, .null, .null, .null, .null, .null, .null])) : SC)]) L.length).bind fun z1 => (o_p z1 a0 7 0 (.ref L.length)).bind fun L2 => (o_p (L2 ++ [(.inl (0, 8, fun _ => 0) : SC)]) a0 7 1 (.ref L2.length)).bind fun L3 => some L3
theorem oX8_init {F : Nat} {L : HL} {a0 : Nat} {z : HL} (hE : fX8_init F L a0 = some z) : o_ob L a0 7 = some () := by
  obtain ⟨_, h, _⟩ := Option.bind_eq_some_iff.mp hE
  exact h
set_option maxHeartbeats 4000000 in
set_option maxRecDepth 100000 in
theorem sX8_init (l : Launch) (b0 : Nat) (D : va_G) (cA : Nat → ClassId) {F : Nat} {L : HL} {a0 : Nat} {z : HL} (hE : fX8_init F L a0 = some z) : Met l yX8_init wsX8_init (RM 3 8 65) (Pk b0 D cA [.ref (b0 + a0)] L) (Qk b0 D cA none z) 8 65 (Ab b0) := by
  refine Met.ofW (cc := cX8_init) (maxL := 1) (ret := none) (by decide) rfl ?_
  intro p ev s m args below meth c s₁ B hml hv
  obtain ⟨rfl, hH, hK⟩ := hv
  have hx := B.exec
  have hb := B.bytes
  have hr := B.returns
  have hts := atoms_spec (ws := wsX8_init) B.pre
  have hown : s.vm.findClass RX8 = some m.cls := findClass_of_methodNamed B.named
  have hlocks := B.notSynchronized
  have hC : Cx D cA p s m _ meth c cX8_init 1 RX8 wsX8_init none := ⟨hx, hb, hml, hown, hts, hK, hr, hlocks⟩
  have hS : va_S (Ab b0) s.heap s.heap [] := va_S.rf
  have hl := lv_entry ([.ref (b0 + a0)]) (n := 1) (Nat.le_of_ble_eq_true rfl)
  rw [lg_entry_eq]
  generalize (lg_sl ([.ref (b0 + a0)]) ++ List.replicate (1 - (lg_sl ([.ref (b0 + a0)])).length) Slot.unset).toArray = ls at hl ⊢
  have hl : lv_has ls 1 [(0, .ref (b0 + a0))] := hl
  have hin : meth.name = "<init>" := (name_of_methodNamed B.named B.method).1
  unfold fX8_init at hE
  obtain ⟨_, _, hE⟩ := Option.bind_eq_some_iff.mp hE
  refine lv_aload_n hx hb dX8_init_0 rfl (lv_at hl 0 rfl) ?_
  refine W.objInit hx hb hown (hts (.methodLink RX8 5 objectInit) (by decide +kernel)) (hts (.instanceMethod objectInit) (by decide +kernel)) (hts (.code objectInit ⟨#[0xb1]⟩ 1 none) (by decide +kernel)) rfl (by rw [hml]; exact hl.1) rfl dX8_init_1 (Nat.le_of_ble_eq_true rfl) (Nat.le_of_ble_eq_true rfl) ?_
  refine W.eq (g2 := F0 m 4 ls []) rfl ?_
  refine lv_aload_n hx hb dX8_init_4 rfl (lv_at hl 0 rfl) ?_
  refine r_new (C := RX4) (T := TX4) (N := 9) (ci := 4) (fs := [.int 0, .int 0, .int 0, .null, .null, .null, .null, .null, .null]) hx hb hts (by decide +kernel) tyX4 tyX4_ok hown (hts (.classLink RX8 11 RX4) (by decide +kernel)) (hts (.instantiable RX4 9) (by decide +kernel)) (hts (.initialized RX4) (by decide +kernel)) hK hH hS rfl (by decide) rfl (by decide) (by decide) dX8_init_5 (fun H hH hS => ?_)
  refine W.widen (k := 1) (n := 9) (by decide) (by decide) ?_
  refine lv_dup hx hb dX8_init_8 rfl ?_
  obtain ⟨z1, hz1, hE⟩ := Option.bind_eq_some_iff.mp hE
  refine r_callV (va_runI (As := []) (rest := [.ref (b0 + L.length), .ref (b0 + a0)]) ⟨hx, hb, hml, hown, hts⟩ (sX4_init l b0 D cA hz1) (cwI 0 hts gX8_init_X4_init rfl rfl rfl (hts (.initialized RX4) (by decide +kernel)) (hts (.methodLink RX8 13 yX4_init) (by decide +kernel)) (hts (.instanceMethod yX4_init) (by decide +kernel)) rfl (by decide +kernel) (rm_ok (by decide) (by decide))) (pre_S hK hH) rfl rfl hl.1 rfl (lv_room (Nat.le_of_ble_eq_true rfl)) dX8_init_9 ⟨by decide, by decide⟩) hS (fun H locs hH hS => ?_)
  refine W.widen (k := 7) (n := 57) (by decide) (by decide) ?_
  obtain ⟨L2, hL2, hE⟩ := Option.bind_eq_some_iff.mp hE
  refine r_pF 0 (v := .ref L.length) (ty := (.object "KindStreets$Plan")) (C := RX8) (T := TX8) (N := 2) (ci := 7) hx hb hts (by decide +kernel) tyX8 tyX8_ok nmX8 hown hK hH hS hL2 rfl (by decide) (hts (.fieldLink RX8 14 "KindStreets$Ways" "plan" "LKindStreets$Plan;") (by decide +kernel)) (fun _ h9 => h9) rfl hin rfl (by decide +kernel) rfl rfl dX8_init_12 (fun H locs hH hS => ?_)
  refine lv_aload_n hx hb dX8_init_15 rfl (lv_at hl 0 rfl) ?_
  refine lv_bipush (v := 8) hx hb dX8_init_16 (by decide) ?_
  refine r_newa (N' := 8) 0 hx hb (hts (.arrayClass .int) (by decide +kernel)) rfl rfl hK rfl (fun _ h => by cases h) hH hS (by decide) (by decide) (by decide) (by decide) (by decide) dX8_init_18 (fun H hH hS => ?_)
  refine W.widen (k := 8) (n := 65) (by decide) (by decide) ?_
  obtain ⟨L3, hL3, hE⟩ := Option.bind_eq_some_iff.mp hE
  refine r_pF 1 (v := .ref L2.length) (ty := (.array .int)) (C := RX8) (T := TX8) (N := 2) (ci := 7) hx hb hts (by decide +kernel) tyX8 tyX8_ok nmX8 hown hK hH hS hL3 rfl (by decide) (hts (.fieldLink RX8 18 "KindStreets$Ways" "price" "[I") (by decide +kernel)) (fun _ h9 => h9) rfl hin rfl (by decide +kernel) rfl rfl dX8_init_20 (fun H locs hH hS => ?_)
  have hZ := Option.some.inj hE
  subst hZ
  exact W.vret hx hb hr (fun t ht hW => ⟨rfl, by rw [ht]; exact hH, hS.F ht⟩) hS.2.2 dX8_init_23
-- X0_init
def fX0_init (F : Nat) (L : HL) (a0 : Nat) : Option HL := (o_ob L a0 0).bind fun _ => (o_p (L ++ [(.inl (0, 6, fun _ => 0) : SC)]) a0 0 0 (.ref L.length)).bind fun L1 => (fX4_init F (L1 ++ [(.inr (.inr (4, [.int 0, .int 0, .int 0, .null, .null, .null, .null, .null, .null])) : SC)]) L1.length).bind fun z2 => (o_p z2 a0 0 1 (.ref L1.length)).bind fun L3 => some L3
theorem oX0_init {F : Nat} {L : HL} {a0 : Nat} {z : HL} (hE : fX0_init F L a0 = some z) : o_ob L a0 0 = some () := by
  obtain ⟨_, h, _⟩ := Option.bind_eq_some_iff.mp hE
  exact h
set_option maxHeartbeats 4000000 in
set_option maxRecDepth 100000 in
theorem sX0_init (l : Launch) (b0 : Nat) (D : va_G) (cA : Nat → ClassId) {F : Nat} {L : HL} {a0 : Nat} {z : HL} (hE : fX0_init F L a0 = some z) : Met l yX0_init wsX0_init (RM 3 8 63) (Pk b0 D cA [.ref (b0 + a0)] L) (Qk b0 D cA none z) 8 63 (Ab b0) := by
  refine Met.ofW (cc := cX0_init) (maxL := 1) (ret := none) (by decide) rfl ?_
  intro p ev s m args below meth c s₁ B hml hv
  obtain ⟨rfl, hH, hK⟩ := hv
  have hx := B.exec
  have hb := B.bytes
  have hr := B.returns
  have hts := atoms_spec (ws := wsX0_init) B.pre
  have hown : s.vm.findClass RX0 = some m.cls := findClass_of_methodNamed B.named
  have hlocks := B.notSynchronized
  have hC : Cx D cA p s m _ meth c cX0_init 1 RX0 wsX0_init none := ⟨hx, hb, hml, hown, hts, hK, hr, hlocks⟩
  have hS : va_S (Ab b0) s.heap s.heap [] := va_S.rf
  have hl := lv_entry ([.ref (b0 + a0)]) (n := 1) (Nat.le_of_ble_eq_true rfl)
  rw [lg_entry_eq]
  generalize (lg_sl ([.ref (b0 + a0)]) ++ List.replicate (1 - (lg_sl ([.ref (b0 + a0)])).length) Slot.unset).toArray = ls at hl ⊢
  have hl : lv_has ls 1 [(0, .ref (b0 + a0))] := hl
  have hin : meth.name = "<init>" := (name_of_methodNamed B.named B.method).1
  unfold fX0_init at hE
  obtain ⟨_, _, hE⟩ := Option.bind_eq_some_iff.mp hE
  refine lv_aload_n hx hb dX0_init_0 rfl (lv_at hl 0 rfl) ?_
  refine W.objInit hx hb hown (hts (.methodLink RX0 3 objectInit) (by decide +kernel)) (hts (.instanceMethod objectInit) (by decide +kernel)) (hts (.code objectInit ⟨#[0xb1]⟩ 1 none) (by decide +kernel)) rfl (by rw [hml]; exact hl.1) rfl dX0_init_1 (Nat.le_of_ble_eq_true rfl) (Nat.le_of_ble_eq_true rfl) ?_
  refine W.eq (g2 := F0 m 4 ls []) rfl ?_
  refine lv_aload_n hx hb dX0_init_4 rfl (lv_at hl 0 rfl) ?_
  refine lv_bipush (v := 6) hx hb dX0_init_5 (by decide) ?_
  refine r_newa (N' := 6) 0 hx hb (hts (.arrayClass .int) (by decide +kernel)) rfl rfl hK rfl (fun _ h => by cases h) hH hS (by decide) (by decide) (by decide) (by decide) (by decide) dX0_init_7 (fun H hH hS => ?_)
  refine W.widen (k := 1) (n := 6) (by decide) (by decide) ?_
  obtain ⟨L1, hL1, hE⟩ := Option.bind_eq_some_iff.mp hE
  refine r_pF 0 (v := .ref L.length) (ty := (.array .int)) (C := RX0) (T := TX0) (N := 2) (ci := 0) hx hb hts (by decide +kernel) tyX0 tyX0_ok nmX0 hown hK hH hS hL1 rfl (by decide) (hts (.fieldLink RX0 9 "KindStreets$Carriages" "given" "[I") (by decide +kernel)) (fun _ h9 => h9) rfl hin rfl (by decide +kernel) rfl rfl dX0_init_9 (fun H locs hH hS => ?_)
  refine lv_aload_n hx hb dX0_init_12 rfl (lv_at hl 0 rfl) ?_
  refine r_new (C := RX4) (T := TX4) (N := 9) (ci := 4) (fs := [.int 0, .int 0, .int 0, .null, .null, .null, .null, .null, .null]) hx hb hts (by decide +kernel) tyX4 tyX4_ok hown (hts (.classLink RX0 15 RX4) (by decide +kernel)) (hts (.instantiable RX4 9) (by decide +kernel)) (hts (.initialized RX4) (by decide +kernel)) hK hH hS rfl (by decide) rfl (by decide) (by decide) dX0_init_13 (fun H hH hS => ?_)
  refine W.widen (k := 2) (n := 15) (by decide) (by decide) ?_
  refine lv_dup hx hb dX0_init_16 rfl ?_
  obtain ⟨z2, hz2, hE⟩ := Option.bind_eq_some_iff.mp hE
  refine r_callV (va_runI (As := []) (rest := [.ref (b0 + L1.length), .ref (b0 + a0)]) ⟨hx, hb, hml, hown, hts⟩ (sX4_init l b0 D cA hz2) (cwI 0 hts gX0_init_X4_init rfl rfl rfl (hts (.initialized RX4) (by decide +kernel)) (hts (.methodLink RX0 17 yX4_init) (by decide +kernel)) (hts (.instanceMethod yX4_init) (by decide +kernel)) rfl (by decide +kernel) (rm_ok (by decide) (by decide))) (pre_S hK hH) rfl rfl hl.1 rfl (lv_room (Nat.le_of_ble_eq_true rfl)) dX0_init_17 ⟨by decide, by decide⟩) hS (fun H locs hH hS => ?_)
  refine W.widen (k := 8) (n := 63) (by decide) (by decide) ?_
  obtain ⟨L3, hL3, hE⟩ := Option.bind_eq_some_iff.mp hE
  refine r_pF 1 (v := .ref L1.length) (ty := (.object "KindStreets$Plan")) (C := RX0) (T := TX0) (N := 2) (ci := 0) hx hb hts (by decide +kernel) tyX0 tyX0_ok nmX0 hown hK hH hS hL3 rfl (by decide) (hts (.fieldLink RX0 18 "KindStreets$Carriages" "plan" "LKindStreets$Plan;") (by decide +kernel)) (fun _ h9 => h9) rfl hin rfl (by decide +kernel) rfl rfl dX0_init_20 (fun H locs hH hS => ?_)
  have hZ := Option.some.inj hE
  subst hZ
  exact W.vret hx hb hr (fun t ht hW => ⟨rfl, by rw [ht]; exact hH, hS.F ht⟩) hS.2.2 dX0_init_23
-- X1_init
def fX1_init (F : Nat) (L : HL) (a0 : Nat) : Option HL := (o_ob L a0 1).bind fun _ => (o_p (L ++ [(.inl (0, 4, fun _ => 0) : SC)]) a0 1 0 (.ref L.length)).bind fun L1 => (o_p (L1 ++ [(.inl (0, 4, fun _ => 0) : SC)]) a0 1 1 (.ref L1.length)).bind fun L2 => (o_p (L2 ++ [(.inl (0, 11, fun _ => 0) : SC)]) a0 1 3 (.ref L2.length)).bind fun L3 => some L3
theorem oX1_init {F : Nat} {L : HL} {a0 : Nat} {z : HL} (hE : fX1_init F L a0 = some z) : o_ob L a0 1 = some () := by
  obtain ⟨_, h, _⟩ := Option.bind_eq_some_iff.mp hE
  exact h
set_option maxHeartbeats 4000000 in
set_option maxRecDepth 100000 in
theorem sX1_init (l : Launch) (b0 : Nat) (D : va_G) (cA : Nat → ClassId) {F : Nat} {L : HL} {a0 : Nat} {z : HL} (hE : fX1_init F L a0 = some z) : Met l yX1_init wsX1_init (RM 1 3 19) (Pk b0 D cA [.ref (b0 + a0)] L) (Qk b0 D cA none z) 3 19 (Ab b0) := by
  refine Met.ofW (cc := cX1_init) (maxL := 1) (ret := none) (by decide) rfl ?_
  intro p ev s m args below meth c s₁ B hml hv
  obtain ⟨rfl, hH, hK⟩ := hv
  have hx := B.exec
  have hb := B.bytes
  have hr := B.returns
  have hts := atoms_spec (ws := wsX1_init) B.pre
  have hown : s.vm.findClass RX1 = some m.cls := findClass_of_methodNamed B.named
  have hlocks := B.notSynchronized
  have hC : Cx D cA p s m _ meth c cX1_init 1 RX1 wsX1_init none := ⟨hx, hb, hml, hown, hts, hK, hr, hlocks⟩
  have hS : va_S (Ab b0) s.heap s.heap [] := va_S.rf
  have hl := lv_entry ([.ref (b0 + a0)]) (n := 1) (Nat.le_of_ble_eq_true rfl)
  rw [lg_entry_eq]
  generalize (lg_sl ([.ref (b0 + a0)]) ++ List.replicate (1 - (lg_sl ([.ref (b0 + a0)])).length) Slot.unset).toArray = ls at hl ⊢
  have hl : lv_has ls 1 [(0, .ref (b0 + a0))] := hl
  have hin : meth.name = "<init>" := (name_of_methodNamed B.named B.method).1
  unfold fX1_init at hE
  obtain ⟨_, _, hE⟩ := Option.bind_eq_some_iff.mp hE
  refine lv_aload_n hx hb dX1_init_0 rfl (lv_at hl 0 rfl) ?_
  refine W.objInit hx hb hown (hts (.methodLink RX1 3 objectInit) (by decide +kernel)) (hts (.instanceMethod objectInit) (by decide +kernel)) (hts (.code objectInit ⟨#[0xb1]⟩ 1 none) (by decide +kernel)) rfl (by rw [hml]; exact hl.1) rfl dX1_init_1 (Nat.le_of_ble_eq_true rfl) (Nat.le_of_ble_eq_true rfl) ?_
  refine W.eq (g2 := F0 m 4 ls []) rfl ?_
  refine lv_aload_n hx hb dX1_init_4 rfl (lv_at hl 0 rfl) ?_
  refine lv_iconst (v := 4) hx hb dX1_init_5 (by decide) ?_
  refine r_newa (N' := 4) 0 hx hb (hts (.arrayClass .int) (by decide +kernel)) rfl rfl hK rfl (fun _ h => by cases h) hH hS (by decide) (by decide) (by decide) (by decide) (by decide) dX1_init_6 (fun H hH hS => ?_)
  refine W.widen (k := 1) (n := 4) (by decide) (by decide) ?_
  obtain ⟨L1, hL1, hE⟩ := Option.bind_eq_some_iff.mp hE
  refine r_pF 0 (v := .ref L.length) (ty := (.array .int)) (C := RX1) (T := TX1) (N := 4) (ci := 1) hx hb hts (by decide +kernel) tyX1 tyX1_ok nmX1 hown hK hH hS hL1 rfl (by decide) (hts (.fieldLink RX1 9 "KindStreets$Measures" "width" "[I") (by decide +kernel)) (fun _ h9 => h9) rfl hin rfl (by decide +kernel) rfl rfl dX1_init_8 (fun H locs hH hS => ?_)
  refine lv_aload_n hx hb dX1_init_11 rfl (lv_at hl 0 rfl) ?_
  refine lv_iconst (v := 4) hx hb dX1_init_12 (by decide) ?_
  refine r_newa (N' := 4) 0 hx hb (hts (.arrayClass .int) (by decide +kernel)) rfl rfl hK rfl (fun _ h => by cases h) hH hS (by decide) (by decide) (by decide) (by decide) (by decide) dX1_init_13 (fun H hH hS => ?_)
  refine W.widen (k := 2) (n := 8) (by decide) (by decide) ?_
  obtain ⟨L2, hL2, hE⟩ := Option.bind_eq_some_iff.mp hE
  refine r_pF 1 (v := .ref L1.length) (ty := (.array .int)) (C := RX1) (T := TX1) (N := 4) (ci := 1) hx hb hts (by decide +kernel) tyX1 tyX1_ok nmX1 hown hK hH hS hL2 rfl (by decide) (hts (.fieldLink RX1 15 "KindStreets$Measures" "night" "[I") (by decide +kernel)) (fun _ h9 => h9) rfl hin rfl (by decide +kernel) rfl rfl dX1_init_15 (fun H locs hH hS => ?_)
  refine lv_aload_n hx hb dX1_init_18 rfl (lv_at hl 0 rfl) ?_
  refine lv_bipush (v := 11) hx hb dX1_init_19 (by decide) ?_
  refine r_newa (N' := 11) 0 hx hb (hts (.arrayClass .int) (by decide +kernel)) rfl rfl hK rfl (fun _ h => by cases h) hH hS (by decide) (by decide) (by decide) (by decide) (by decide) dX1_init_21 (fun H hH hS => ?_)
  refine W.widen (k := 3) (n := 19) (by decide) (by decide) ?_
  obtain ⟨L3, hL3, hE⟩ := Option.bind_eq_some_iff.mp hE
  refine r_pF 3 (v := .ref L2.length) (ty := (.array .int)) (C := RX1) (T := TX1) (N := 4) (ci := 1) hx hb hts (by decide +kernel) tyX1 tyX1_ok nmX1 hown hK hH hS hL3 rfl (by decide) (hts (.fieldLink RX1 18 "KindStreets$Measures" "alike" "[I") (by decide +kernel)) (fun _ h9 => h9) rfl hin rfl (by decide +kernel) rfl rfl dX1_init_23 (fun H locs hH hS => ?_)
  have hZ := Option.some.inj hE
  subst hZ
  exact W.vret hx hb hr (fun t ht hW => ⟨rfl, by rw [ht]; exact hH, hS.F ht⟩) hS.2.2 dX1_init_26
-- X9_init
def fX9_init (F : Nat) (L : HL) (a0 : Nat) : Option HL := (o_ob L a0 8).bind fun _ => (fX6_init F (L ++ [(.inr (.inr (5, [.null, .int 0, .int 0])) : SC)]) L.length).bind fun z1 => (o_p z1 a0 8 0 (.ref L.length)).bind fun L2 => (fX7_init_T F (L2 ++ [(.inr (.inr (6, [.int 0, .int 0, .int 0, .null, .null, .null, .null, .null])) : SC)]) L2.length).bind fun z3 => (o_p z3 a0 8 1 (.ref L2.length)).bind fun L4 => (fX7_init_T F (L4 ++ [(.inr (.inr (6, [.int 0, .int 0, .int 0, .null, .null, .null, .null, .null])) : SC)]) L4.length).bind fun z5 => (o_p z5 a0 8 2 (.ref L4.length)).bind fun L6 => (fX3_init F (L6 ++ [(.inr (.inr (3, [.null, .null, .int 0])) : SC)]) L6.length).bind fun z7 => (o_p z7 a0 8 3 (.ref L6.length)).bind fun L8 => (fX3_init F ((L8 ++ [(.inr (.inl (4, 2, fun _ => none)) : SC)]) ++ [(.inr (.inr (3, [.null, .null, .int 0])) : SC)]) ((L8 ++ [(.inr (.inl (4, 2, fun _ => none)) : SC)]).length)).bind fun z9 => (o_sR z9 L8.length 4 3 0 ((L8 ++ [(.inr (.inl (4, 2, fun _ => none)) : SC)]).length)).bind fun L10 => (fX3_init F (L10 ++ [(.inr (.inr (3, [.null, .null, .int 0])) : SC)]) L10.length).bind fun z11 => (o_sR z11 L8.length 4 3 1 L10.length).bind fun L12 => (o_p L12 a0 8 4 (.ref L8.length)).bind fun L13 => (fX8_init F (L13 ++ [(.inr (.inr (7, [.null, .null])) : SC)]) L13.length).bind fun z14 => (o_p z14 a0 8 6 (.ref L13.length)).bind fun L15 => (fX0_init F (L15 ++ [(.inr (.inr (0, [.null, .null])) : SC)]) L15.length).bind fun z16 => (o_p z16 a0 8 7 (.ref L15.length)).bind fun L17 => (fX1_init F (L17 ++ [(.inr (.inr (1, [.null, .null, .int 0, .null])) : SC)]) L17.length).bind fun z18 => (o_p z18 a0 8 8 (.ref L17.length)).bind fun L19 => some L19
theorem oX9_init {F : Nat} {L : HL} {a0 : Nat} {z : HL} (hE : fX9_init F L a0 = some z) : o_ob L a0 8 = some () := by
  obtain ⟨_, h, _⟩ := Option.bind_eq_some_iff.mp hE
  exact h
set_option maxHeartbeats 4000000 in
set_option maxRecDepth 100000 in
theorem sX9_init (l : Launch) (b0 : Nat) (D : va_G) (cA : Nat → ClassId) {F : Nat} {L : HL} {a0 : Nat} {z : HL} (hE : fX9_init F L a0 = some z) : Met l yX9_init wsX9_init (RM 4 208 1667) (Pk b0 D cA [.ref (b0 + a0)] L) (Qk b0 D cA none z) 208 1667 (Ab b0) := by
  refine Met.ofW (cc := cX9_init) (maxL := 1) (ret := none) (by decide) rfl ?_
  intro p ev s m args below meth c s₁ B hml hv
  obtain ⟨rfl, hH, hK⟩ := hv
  have hx := B.exec
  have hb := B.bytes
  have hr := B.returns
  have hts := atoms_spec (ws := wsX9_init) B.pre
  have hown : s.vm.findClass RX9 = some m.cls := findClass_of_methodNamed B.named
  have hlocks := B.notSynchronized
  have hC : Cx D cA p s m _ meth c cX9_init 1 RX9 wsX9_init none := ⟨hx, hb, hml, hown, hts, hK, hr, hlocks⟩
  have hS : va_S (Ab b0) s.heap s.heap [] := va_S.rf
  have hl := lv_entry ([.ref (b0 + a0)]) (n := 1) (Nat.le_of_ble_eq_true rfl)
  rw [lg_entry_eq]
  generalize (lg_sl ([.ref (b0 + a0)]) ++ List.replicate (1 - (lg_sl ([.ref (b0 + a0)])).length) Slot.unset).toArray = ls at hl ⊢
  have hl : lv_has ls 1 [(0, .ref (b0 + a0))] := hl
  have hin : meth.name = "<init>" := (name_of_methodNamed B.named B.method).1
  unfold fX9_init at hE
  obtain ⟨_, _, hE⟩ := Option.bind_eq_some_iff.mp hE
  refine lv_aload_n hx hb dX9_init_0 rfl (lv_at hl 0 rfl) ?_
  refine W.objInit hx hb hown (hts (.methodLink RX9 1 objectInit) (by decide +kernel)) (hts (.instanceMethod objectInit) (by decide +kernel)) (hts (.code objectInit ⟨#[0xb1]⟩ 1 none) (by decide +kernel)) rfl (by rw [hml]; exact hl.1) rfl dX9_init_1 (Nat.le_of_ble_eq_true rfl) (Nat.le_of_ble_eq_true rfl) ?_
  refine W.eq (g2 := F0 m 4 ls []) rfl ?_
  refine lv_aload_n hx hb dX9_init_4 rfl (lv_at hl 0 rfl) ?_
  refine r_new (C := RX6) (T := TX6) (N := 3) (ci := 5) (fs := [.null, .int 0, .int 0]) hx hb hts (by decide +kernel) tyX6 tyX6_ok hown (hts (.classLink RX9 7 RX6) (by decide +kernel)) (hts (.instantiable RX6 3) (by decide +kernel)) (hts (.initialized RX6) (by decide +kernel)) hK hH hS rfl (by decide) rfl (by decide) (by decide) dX9_init_5 (fun H hH hS => ?_)
  refine W.widen (k := 1) (n := 3) (by decide) (by decide) ?_
  refine lv_dup hx hb dX9_init_8 rfl ?_
  obtain ⟨z1, hz1, hE⟩ := Option.bind_eq_some_iff.mp hE
  refine r_callV (va_runI (As := []) (rest := [.ref (b0 + L.length), .ref (b0 + a0)]) ⟨hx, hb, hml, hown, hts⟩ (sX6_init l b0 D cA hz1) (cwI 0 hts gX9_init_X6_init rfl rfl rfl (hts (.initialized RX6) (by decide +kernel)) (hts (.methodLink RX9 9 yX6_init) (by decide +kernel)) (hts (.instanceMethod yX6_init) (by decide +kernel)) rfl (by decide +kernel) (rm_ok (by decide) (by decide))) (pre_S hK hH) rfl rfl hl.1 rfl (lv_room (Nat.le_of_ble_eq_true rfl)) dX9_init_9 ⟨by decide, by decide⟩) hS (fun H locs hH hS => ?_)
  refine W.widen (k := 2) (n := 123) (by decide) (by decide) ?_
  obtain ⟨L2, hL2, hE⟩ := Option.bind_eq_some_iff.mp hE
  refine r_pF 0 (v := .ref L.length) (ty := (.object "KindStreets$Text")) (C := RX9) (T := TX9) (N := 10) (ci := 8) hx hb hts (by decide +kernel) tyX9 tyX9_ok nmX9 hown hK hH hS hL2 rfl (by decide) (hts (.fieldLink RX9 10 "KindStreets" "text" "LKindStreets$Text;") (by decide +kernel)) (fun _ h9 => h9) rfl hin rfl (by decide +kernel) rfl rfl dX9_init_12 (fun H locs hH hS => ?_)
  refine lv_aload_n hx hb dX9_init_15 rfl (lv_at hl 0 rfl) ?_
  refine r_new (C := RX7) (T := TX7) (N := 8) (ci := 6) (fs := [.int 0, .int 0, .int 0, .null, .null, .null, .null, .null]) hx hb hts (by decide +kernel) tyX7 tyX7_ok hown (hts (.classLink RX9 16 RX7) (by decide +kernel)) (hts (.instantiable RX7 8) (by decide +kernel)) (hts (.initialized RX7) (by decide +kernel)) hK hH hS rfl (by decide) rfl (by decide) (by decide) dX9_init_16 (fun H hH hS => ?_)
  refine W.widen (k := 3) (n := 131) (by decide) (by decide) ?_
  refine lv_dup hx hb dX9_init_19 rfl ?_
  obtain ⟨z3, hz3, hE⟩ := Option.bind_eq_some_iff.mp hE
  refine r_callV (va_runI (As := []) (rest := [.ref (b0 + L2.length), .ref (b0 + a0)]) ⟨hx, hb, hml, hown, hts⟩ (sX7_init_T l b0 D cA hz3) (cwI 0 hts gX9_init_X7_init rfl rfl rfl (hts (.initialized RX7) (by decide +kernel)) (hts (.methodLink RX9 18 yX7_init) (by decide +kernel)) (hts (.instanceMethod yX7_init) (by decide +kernel)) rfl (by decide +kernel) (rm_ok (by decide) (by decide))) (pre_S hK hH) rfl rfl hl.1 rfl (lv_room (Nat.le_of_ble_eq_true rfl)) dX9_init_20 ⟨by decide, by decide⟩) hS (fun H locs hH hS => ?_)
  refine W.widen (k := 8) (n := 170) (by decide) (by decide) ?_
  obtain ⟨L4, hL4, hE⟩ := Option.bind_eq_some_iff.mp hE
  refine r_pF 1 (v := .ref L2.length) (ty := (.object "KindStreets$Town")) (C := RX9) (T := TX9) (N := 10) (ci := 8) hx hb hts (by decide +kernel) tyX9 tyX9_ok nmX9 hown hK hH hS hL4 rfl (by decide) (hts (.fieldLink RX9 19 "KindStreets" "draft" "LKindStreets$Town;") (by decide +kernel)) (fun _ h9 => h9) rfl hin rfl (by decide +kernel) rfl rfl dX9_init_23 (fun H locs hH hS => ?_)
  refine lv_aload_n hx hb dX9_init_26 rfl (lv_at hl 0 rfl) ?_
  refine r_new (C := RX7) (T := TX7) (N := 8) (ci := 6) (fs := [.int 0, .int 0, .int 0, .null, .null, .null, .null, .null]) hx hb hts (by decide +kernel) tyX7 tyX7_ok hown (hts (.classLink RX9 16 RX7) (by decide +kernel)) (hts (.instantiable RX7 8) (by decide +kernel)) (hts (.initialized RX7) (by decide +kernel)) hK hH hS rfl (by decide) rfl (by decide) (by decide) dX9_init_27 (fun H hH hS => ?_)
  refine W.widen (k := 9) (n := 178) (by decide) (by decide) ?_
  refine lv_dup hx hb dX9_init_30 rfl ?_
  obtain ⟨z5, hz5, hE⟩ := Option.bind_eq_some_iff.mp hE
  refine r_callV (va_runI (As := []) (rest := [.ref (b0 + L4.length), .ref (b0 + a0)]) ⟨hx, hb, hml, hown, hts⟩ (sX7_init_T l b0 D cA hz5) (cwI 0 hts gX9_init_X7_init rfl rfl rfl (hts (.initialized RX7) (by decide +kernel)) (hts (.methodLink RX9 18 yX7_init) (by decide +kernel)) (hts (.instanceMethod yX7_init) (by decide +kernel)) rfl (by decide +kernel) (rm_ok (by decide) (by decide))) (pre_S hK hH) rfl rfl hl.1 rfl (lv_room (Nat.le_of_ble_eq_true rfl)) dX9_init_31 ⟨by decide, by decide⟩) hS (fun H locs hH hS => ?_)
  refine W.widen (k := 14) (n := 217) (by decide) (by decide) ?_
  obtain ⟨L6, hL6, hE⟩ := Option.bind_eq_some_iff.mp hE
  refine r_pF 2 (v := .ref L4.length) (ty := (.object "KindStreets$Town")) (C := RX9) (T := TX9) (N := 10) (ci := 8) hx hb hts (by decide +kernel) tyX9 tyX9_ok nmX9 hown hK hH hS hL6 rfl (by decide) (hts (.fieldLink RX9 23 "KindStreets" "town" "LKindStreets$Town;") (by decide +kernel)) (fun _ h9 => h9) rfl hin rfl (by decide +kernel) rfl rfl dX9_init_34 (fun H locs hH hS => ?_)
  refine lv_aload_n hx hb dX9_init_37 rfl (lv_at hl 0 rfl) ?_
  refine r_new (C := RX3) (T := TX3) (N := 3) (ci := 3) (fs := [.null, .null, .int 0]) hx hb hts (by decide +kernel) tyX3 tyX3_ok hown (hts (.classLink RX9 26 RX3) (by decide +kernel)) (hts (.instantiable RX3 3) (by decide +kernel)) (hts (.initialized RX3) (by decide +kernel)) hK hH hS rfl (by decide) rfl (by decide) (by decide) dX9_init_38 (fun H hH hS => ?_)
  refine W.widen (k := 15) (n := 220) (by decide) (by decide) ?_
  refine lv_dup hx hb dX9_init_41 rfl ?_
  obtain ⟨z7, hz7, hE⟩ := Option.bind_eq_some_iff.mp hE
  refine r_callV (va_runI (As := []) (rest := [.ref (b0 + L6.length), .ref (b0 + a0)]) ⟨hx, hb, hml, hown, hts⟩ (sX3_init l b0 D cA hz7) (cwI 0 hts gX9_init_X3_init rfl rfl rfl (hts (.initialized RX3) (by decide +kernel)) (hts (.methodLink RX9 28 yX3_init) (by decide +kernel)) (hts (.instanceMethod yX3_init) (by decide +kernel)) rfl (by decide +kernel) (rm_ok (by decide) (by decide))) (pre_S hK hH) rfl rfl hl.1 rfl (lv_room (Nat.le_of_ble_eq_true rfl)) dX9_init_42 ⟨by decide, by decide⟩) hS (fun H locs hH hS => ?_)
  refine W.widen (k := 71) (n := 648) (by decide) (by decide) ?_
  obtain ⟨L8, hL8, hE⟩ := Option.bind_eq_some_iff.mp hE
  refine r_pF 3 (v := .ref L6.length) (ty := (.object "KindStreets$Now")) (C := RX9) (T := TX9) (N := 10) (ci := 8) hx hb hts (by decide +kernel) tyX9 tyX9_ok nmX9 hown hK hH hS hL8 rfl (by decide) (hts (.fieldLink RX9 29 "KindStreets" "now" "LKindStreets$Now;") (by decide +kernel)) (fun _ h9 => h9) rfl hin rfl (by decide +kernel) rfl rfl dX9_init_45 (fun H locs hH hS => ?_)
  refine lv_aload_n hx hb dX9_init_48 rfl (lv_at hl 0 rfl) ?_
  refine lv_iconst (v := 2) hx hb dX9_init_49 (by decide) ?_
  refine r_anew (N' := 2) 4 hx hb hown (hts (.classLink RX9 26 RX3) (by decide +kernel)) (va_AO.use hK.2.2) hK rfl hH hS (by decide) (by decide) (by decide) (by decide) (by decide) dX9_init_50 (fun H hH hS => ?_)
  refine W.widen (k := 72) (n := 650) (by decide) (by decide) ?_
  refine lv_dup hx hb dX9_init_53 rfl ?_
  refine lv_iconst (v := 0) hx hb dX9_init_54 (by decide) ?_
  refine r_new (C := RX3) (T := TX3) (N := 3) (ci := 3) (fs := [.null, .null, .int 0]) hx hb hts (by decide +kernel) tyX3 tyX3_ok hown (hts (.classLink RX9 26 RX3) (by decide +kernel)) (hts (.instantiable RX3 3) (by decide +kernel)) (hts (.initialized RX3) (by decide +kernel)) hK hH hS rfl (by decide) rfl (by decide) (by decide) dX9_init_55 (fun H hH hS => ?_)
  refine W.widen (k := 73) (n := 653) (by decide) (by decide) ?_
  refine lv_dup hx hb dX9_init_58 rfl ?_
  obtain ⟨z9, hz9, hE⟩ := Option.bind_eq_some_iff.mp hE
  refine r_callV (va_runI (As := []) (rest := [.ref (b0 + ((L8 ++ [(.inr (.inl (4, 2, fun _ => none)) : SC)]).length)), .int 0, .ref (b0 + L8.length), .ref (b0 + L8.length), .ref (b0 + a0)]) ⟨hx, hb, hml, hown, hts⟩ (sX3_init l b0 D cA hz9) (cwI 0 hts gX9_init_X3_init rfl rfl rfl (hts (.initialized RX3) (by decide +kernel)) (hts (.methodLink RX9 28 yX3_init) (by decide +kernel)) (hts (.instanceMethod yX3_init) (by decide +kernel)) rfl (by decide +kernel) (rm_ok (by decide) (by decide))) (pre_S hK hH) rfl rfl hl.1 rfl (lv_room (Nat.le_of_ble_eq_true rfl)) dX9_init_59 ⟨by decide, by decide⟩) hS (fun H locs hH hS => ?_)
  refine W.widen (k := 129) (n := 1081) (by decide) (by decide) ?_
  obtain ⟨L10, hL10, hE⟩ := Option.bind_eq_some_iff.mp hE
  refine r_aast (r := (RX3, TX3, 3)) hx hb hK hH hS hL10 rfl rfl dX9_init_62 (fun H locs hH hS => ?_)
  refine lv_dup hx hb dX9_init_63 rfl ?_
  refine lv_iconst (v := 1) hx hb dX9_init_64 (by decide) ?_
  refine r_new (C := RX3) (T := TX3) (N := 3) (ci := 3) (fs := [.null, .null, .int 0]) hx hb hts (by decide +kernel) tyX3 tyX3_ok hown (hts (.classLink RX9 26 RX3) (by decide +kernel)) (hts (.instantiable RX3 3) (by decide +kernel)) (hts (.initialized RX3) (by decide +kernel)) hK hH hS rfl (by decide) rfl (by decide) (by decide) dX9_init_65 (fun H hH hS => ?_)
  refine W.widen (k := 130) (n := 1084) (by decide) (by decide) ?_
  refine lv_dup hx hb dX9_init_68 rfl ?_
  obtain ⟨z11, hz11, hE⟩ := Option.bind_eq_some_iff.mp hE
  refine r_callV (va_runI (As := []) (rest := [.ref (b0 + L10.length), .int 1, .ref (b0 + L8.length), .ref (b0 + L8.length), .ref (b0 + a0)]) ⟨hx, hb, hml, hown, hts⟩ (sX3_init l b0 D cA hz11) (cwI 0 hts gX9_init_X3_init rfl rfl rfl (hts (.initialized RX3) (by decide +kernel)) (hts (.methodLink RX9 28 yX3_init) (by decide +kernel)) (hts (.instanceMethod yX3_init) (by decide +kernel)) rfl (by decide +kernel) (rm_ok (by decide) (by decide))) (pre_S hK hH) rfl rfl hl.1 rfl (lv_room (Nat.le_of_ble_eq_true rfl)) dX9_init_69 ⟨by decide, by decide⟩) hS (fun H locs hH hS => ?_)
  refine W.widen (k := 186) (n := 1512) (by decide) (by decide) ?_
  obtain ⟨L12, hL12, hE⟩ := Option.bind_eq_some_iff.mp hE
  refine r_aast (r := (RX3, TX3, 3)) hx hb hK hH hS hL12 rfl rfl dX9_init_72 (fun H locs hH hS => ?_)
  obtain ⟨L13, hL13, hE⟩ := Option.bind_eq_some_iff.mp hE
  refine r_pF 4 (v := .ref L8.length) (ty := (.array (.object "KindStreets$Now"))) (C := RX9) (T := TX9) (N := 10) (ci := 8) hx hb hts (by decide +kernel) tyX9 tyX9_ok nmX9 hown hK hH hS hL13 rfl (by decide) (hts (.fieldLink RX9 33 "KindStreets" "images" "[LKindStreets$Now;") (by decide +kernel)) (fun _ h9 => h9) rfl hin rfl (by decide +kernel) rfl rfl dX9_init_73 (fun H locs hH hS => ?_)
  refine lv_aload_n hx hb dX9_init_76 rfl (lv_at hl 0 rfl) ?_
  refine r_new (C := RX8) (T := TX8) (N := 2) (ci := 7) (fs := [.null, .null]) hx hb hts (by decide +kernel) tyX8 tyX8_ok hown (hts (.classLink RX9 37 RX8) (by decide +kernel)) (hts (.instantiable RX8 2) (by decide +kernel)) (hts (.initialized RX8) (by decide +kernel)) hK hH hS rfl (by decide) rfl (by decide) (by decide) dX9_init_77 (fun H hH hS => ?_)
  refine W.widen (k := 187) (n := 1514) (by decide) (by decide) ?_
  refine lv_dup hx hb dX9_init_80 rfl ?_
  obtain ⟨z14, hz14, hE⟩ := Option.bind_eq_some_iff.mp hE
  refine r_callV (va_runI (As := []) (rest := [.ref (b0 + L13.length), .ref (b0 + a0)]) ⟨hx, hb, hml, hown, hts⟩ (sX8_init l b0 D cA hz14) (cwI 0 hts gX9_init_X8_init rfl rfl rfl (hts (.initialized RX8) (by decide +kernel)) (hts (.methodLink RX9 39 yX8_init) (by decide +kernel)) (hts (.instanceMethod yX8_init) (by decide +kernel)) rfl (by decide +kernel) (rm_ok (by decide) (by decide))) (pre_S hK hH) rfl rfl hl.1 rfl (lv_room (Nat.le_of_ble_eq_true rfl)) dX9_init_81 ⟨by decide, by decide⟩) hS (fun H locs hH hS => ?_)
  refine W.widen (k := 195) (n := 1579) (by decide) (by decide) ?_
  obtain ⟨L15, hL15, hE⟩ := Option.bind_eq_some_iff.mp hE
  refine r_pF 6 (v := .ref L13.length) (ty := (.object "KindStreets$Ways")) (C := RX9) (T := TX9) (N := 10) (ci := 8) hx hb hts (by decide +kernel) tyX9 tyX9_ok nmX9 hown hK hH hS hL15 rfl (by decide) (hts (.fieldLink RX9 40 "KindStreets" "ways" "LKindStreets$Ways;") (by decide +kernel)) (fun _ h9 => h9) rfl hin rfl (by decide +kernel) rfl rfl dX9_init_84 (fun H locs hH hS => ?_)
  refine lv_aload_n hx hb dX9_init_87 rfl (lv_at hl 0 rfl) ?_
  refine r_new (C := RX0) (T := TX0) (N := 2) (ci := 0) (fs := [.null, .null]) hx hb hts (by decide +kernel) tyX0 tyX0_ok hown (hts (.classLink RX9 44 RX0) (by decide +kernel)) (hts (.instantiable RX0 2) (by decide +kernel)) (hts (.initialized RX0) (by decide +kernel)) hK hH hS rfl (by decide) rfl (by decide) (by decide) dX9_init_88 (fun H hH hS => ?_)
  refine W.widen (k := 196) (n := 1581) (by decide) (by decide) ?_
  refine lv_dup hx hb dX9_init_91 rfl ?_
  obtain ⟨z16, hz16, hE⟩ := Option.bind_eq_some_iff.mp hE
  refine r_callV (va_runI (As := []) (rest := [.ref (b0 + L15.length), .ref (b0 + a0)]) ⟨hx, hb, hml, hown, hts⟩ (sX0_init l b0 D cA hz16) (cwI 0 hts gX9_init_X0_init rfl rfl rfl (hts (.initialized RX0) (by decide +kernel)) (hts (.methodLink RX9 46 yX0_init) (by decide +kernel)) (hts (.instanceMethod yX0_init) (by decide +kernel)) rfl (by decide +kernel) (rm_ok (by decide) (by decide))) (pre_S hK hH) rfl rfl hl.1 rfl (lv_room (Nat.le_of_ble_eq_true rfl)) dX9_init_92 ⟨by decide, by decide⟩) hS (fun H locs hH hS => ?_)
  refine W.widen (k := 204) (n := 1644) (by decide) (by decide) ?_
  obtain ⟨L17, hL17, hE⟩ := Option.bind_eq_some_iff.mp hE
  refine r_pF 7 (v := .ref L15.length) (ty := (.object "KindStreets$Carriages")) (C := RX9) (T := TX9) (N := 10) (ci := 8) hx hb hts (by decide +kernel) tyX9 tyX9_ok nmX9 hown hK hH hS hL17 rfl (by decide) (hts (.fieldLink RX9 47 "KindStreets" "carriages" "LKindStreets$Carriages;") (by decide +kernel)) (fun _ h9 => h9) rfl hin rfl (by decide +kernel) rfl rfl dX9_init_95 (fun H locs hH hS => ?_)
  refine lv_aload_n hx hb dX9_init_98 rfl (lv_at hl 0 rfl) ?_
  refine r_new (C := RX1) (T := TX1) (N := 4) (ci := 1) (fs := [.null, .null, .int 0, .null]) hx hb hts (by decide +kernel) tyX1 tyX1_ok hown (hts (.classLink RX9 51 RX1) (by decide +kernel)) (hts (.instantiable RX1 4) (by decide +kernel)) (hts (.initialized RX1) (by decide +kernel)) hK hH hS rfl (by decide) rfl (by decide) (by decide) dX9_init_99 (fun H hH hS => ?_)
  refine W.widen (k := 205) (n := 1648) (by decide) (by decide) ?_
  refine lv_dup hx hb dX9_init_102 rfl ?_
  obtain ⟨z18, hz18, hE⟩ := Option.bind_eq_some_iff.mp hE
  refine r_callV (va_runI (As := []) (rest := [.ref (b0 + L17.length), .ref (b0 + a0)]) ⟨hx, hb, hml, hown, hts⟩ (sX1_init l b0 D cA hz18) (cwI 0 hts gX9_init_X1_init rfl rfl rfl (hts (.initialized RX1) (by decide +kernel)) (hts (.methodLink RX9 53 yX1_init) (by decide +kernel)) (hts (.instanceMethod yX1_init) (by decide +kernel)) rfl (by decide +kernel) (rm_ok (by decide) (by decide))) (pre_S hK hH) rfl rfl hl.1 rfl (lv_room (Nat.le_of_ble_eq_true rfl)) dX9_init_103 ⟨by decide, by decide⟩) hS (fun H locs hH hS => ?_)
  refine W.widen (k := 208) (n := 1667) (by decide) (by decide) ?_
  obtain ⟨L19, hL19, hE⟩ := Option.bind_eq_some_iff.mp hE
  refine r_pF 8 (v := .ref L17.length) (ty := (.object "KindStreets$Measures")) (C := RX9) (T := TX9) (N := 10) (ci := 8) hx hb hts (by decide +kernel) tyX9 tyX9_ok nmX9 hown hK hH hS hL19 rfl (by decide) (hts (.fieldLink RX9 54 "KindStreets" "measures" "LKindStreets$Measures;") (by decide +kernel)) (fun _ h9 => h9) rfl hin rfl (by decide +kernel) rfl rfl dX9_init_106 (fun H locs hH hS => ?_)
  have hZ := Option.some.inj hE
  subst hZ
  exact W.vret hx hb hr (fun t ht hW => ⟨rfl, by rw [ht]; exact hH, hS.F ht⟩) hS.2.2 dX9_init_109
-- X10_init
def fX10_init (F : Nat) (L : HL) (a0 : Nat) : Option HL := (o_ob L a0 9).bind fun _ => (o_p (L ++ [(.inl (1, 120, fun _ => 0) : SC)]) a0 9 0 (.ref L.length)).bind fun L1 => (o_p (L1 ++ [(.inl (0, 2, fun _ => 0) : SC)]) a0 9 2 (.ref L1.length)).bind fun L2 => (o_p (L2 ++ [(.inl (0, 2, fun _ => 0) : SC)]) a0 9 3 (.ref L2.length)).bind fun L3 => (o_p (L3 ++ [(.inl (0, 18, fun _ => 0) : SC)]) a0 9 4 (.ref L3.length)).bind fun L4 => (o_p (L4 ++ [(.inl (0, 18, fun _ => 0) : SC)]) a0 9 5 (.ref L4.length)).bind fun L5 => (o_p (L5 ++ [(.inl (0, 18, fun _ => 0) : SC)]) a0 9 6 (.ref L5.length)).bind fun L6 => (o_p (L6 ++ [(.inl (0, 2, fun _ => 0) : SC)]) a0 9 7 (.ref L6.length)).bind fun L7 => (o_p (L7 ++ [(.inl (0, 12, fun _ => 0) : SC)]) a0 9 8 (.ref L7.length)).bind fun L8 => (o_p (L8 ++ [(.inl (0, 12, fun _ => 0) : SC)]) a0 9 9 (.ref L8.length)).bind fun L9 => (o_p (L9 ++ [(.inl (0, 34, fun _ => 0) : SC)]) a0 9 16 (.ref L9.length)).bind fun L10 => (o_p (L10 ++ [(.inl (0, 3, fun _ => 0) : SC)]) a0 9 17 (.ref L10.length)).bind fun L11 => (o_p (L11 ++ [(.inl (0, 1020, fun _ => 0) : SC)]) a0 9 18 (.ref L11.length)).bind fun L12 => (o_p (L12 ++ [(.inl (0, 68, fun _ => 0) : SC)]) a0 9 19 (.ref L12.length)).bind fun L13 => (o_p (L13 ++ [(.inl (2, 2, fun _ => 0) : SC)]) a0 9 20 (.ref L13.length)).bind fun L14 => (o_p (L14 ++ [(.inl (0, 3584, fun _ => 0) : SC)]) a0 9 21 (.ref L14.length)).bind fun L15 => (o_p (L15 ++ [(.inl (0, 4, fun _ => 0) : SC)]) a0 9 22 (.ref L15.length)).bind fun L16 => (o_p (L16 ++ [(.inl (0, 4, fun _ => 0) : SC)]) a0 9 23 (.ref L16.length)).bind fun L17 => (o_gR L17 a0 9 2).bind fun v18 => (o_sI L17 v18 0 0 4).bind fun L19 => some L19
theorem oX10_init {F : Nat} {L : HL} {a0 : Nat} {z : HL} (hE : fX10_init F L a0 = some z) : o_ob L a0 9 = some () := by
  obtain ⟨_, h, _⟩ := Option.bind_eq_some_iff.mp hE
  exact h
set_option maxHeartbeats 4000000 in
set_option maxRecDepth 100000 in
theorem sX10_init (l : Launch) (b0 : Nat) (D : va_G) (cA : Nat → ClassId) {F : Nat} {L : HL} {a0 : Nat} {z : HL} (hE : fX10_init F L a0 = some z) : Met l yX10_init wsX10_init (RM 1 17 4923) (Pk b0 D cA [.ref (b0 + a0)] L) (Qk b0 D cA none z) 17 4923 (Ab b0) := by
  refine Met.ofW (cc := cX10_init) (maxL := 1) (ret := none) (by decide) rfl ?_
  intro p ev s m args below meth c s₁ B hml hv
  obtain ⟨rfl, hH, hK⟩ := hv
  have hx := B.exec
  have hb := B.bytes
  have hr := B.returns
  have hts := atoms_spec (ws := wsX10_init) B.pre
  have hown : s.vm.findClass RX10 = some m.cls := findClass_of_methodNamed B.named
  have hlocks := B.notSynchronized
  have hC : Cx D cA p s m _ meth c cX10_init 1 RX10 wsX10_init none := ⟨hx, hb, hml, hown, hts, hK, hr, hlocks⟩
  have hS : va_S (Ab b0) s.heap s.heap [] := va_S.rf
  have hl := lv_entry ([.ref (b0 + a0)]) (n := 1) (Nat.le_of_ble_eq_true rfl)
  rw [lg_entry_eq]
  generalize (lg_sl ([.ref (b0 + a0)]) ++ List.replicate (1 - (lg_sl ([.ref (b0 + a0)])).length) Slot.unset).toArray = ls at hl ⊢
  have hl : lv_has ls 1 [(0, .ref (b0 + a0))] := hl
  have hin : meth.name = "<init>" := (name_of_methodNamed B.named B.method).1
  unfold fX10_init at hE
  obtain ⟨_, _, hE⟩ := Option.bind_eq_some_iff.mp hE
  refine lv_aload_n hx hb dX10_init_0 rfl (lv_at hl 0 rfl) ?_
  refine W.objInit hx hb hown (hts (.methodLink RX10 1 objectInit) (by decide +kernel)) (hts (.instanceMethod objectInit) (by decide +kernel)) (hts (.code objectInit ⟨#[0xb1]⟩ 1 none) (by decide +kernel)) rfl (by rw [hml]; exact hl.1) rfl dX10_init_1 (Nat.le_of_ble_eq_true rfl) (Nat.le_of_ble_eq_true rfl) ?_
  refine W.eq (g2 := F0 m 4 ls []) rfl ?_
  refine lv_aload_n hx hb dX10_init_4 rfl (lv_at hl 0 rfl) ?_
  refine lv_bipush (v := 120) hx hb dX10_init_5 (by decide) ?_
  refine r_newa (N' := 120) 1 hx hb (hts (.arrayClass .byte) (by decide +kernel)) rfl rfl hK rfl (fun _ h => by cases h) hH hS (by decide) (by decide) (by decide) (by decide) (by decide) dX10_init_7 (fun H hH hS => ?_)
  refine W.widen (k := 1) (n := 120) (by decide) (by decide) ?_
  obtain ⟨L1, hL1, hE⟩ := Option.bind_eq_some_iff.mp hE
  refine r_pF 0 (v := .ref L.length) (ty := (.array .byte)) (C := RX10) (T := TX10) (N := 26) (ci := 9) hx hb hts (by decide +kernel) tyX10 tyX10_ok nmX10 hown hK hH hS hL1 rfl (by decide) (hts (.fieldLink RX10 7 "KindStreetsModel" "text" "[B") (by decide +kernel)) (fun _ h9 => h9) rfl hin rfl (by decide +kernel) rfl rfl dX10_init_9 (fun H locs hH hS => ?_)
  refine lv_aload_n hx hb dX10_init_12 rfl (lv_at hl 0 rfl) ?_
  refine lv_iconst (v := 2) hx hb dX10_init_13 (by decide) ?_
  refine r_newa (N' := 2) 0 hx hb (hts (.arrayClass .int) (by decide +kernel)) rfl rfl hK rfl (fun _ h => by cases h) hH hS (by decide) (by decide) (by decide) (by decide) (by decide) dX10_init_14 (fun H hH hS => ?_)
  refine W.widen (k := 2) (n := 122) (by decide) (by decide) ?_
  obtain ⟨L2, hL2, hE⟩ := Option.bind_eq_some_iff.mp hE
  refine r_pF 2 (v := .ref L1.length) (ty := (.array .int)) (C := RX10) (T := TX10) (N := 26) (ci := 9) hx hb hts (by decide +kernel) tyX10 tyX10_ok nmX10 hown hK hH hS hL2 rfl (by decide) (hts (.fieldLink RX10 13 "KindStreetsModel" "yards" "[I") (by decide +kernel)) (fun _ h9 => h9) rfl hin rfl (by decide +kernel) rfl rfl dX10_init_16 (fun H locs hH hS => ?_)
  refine lv_aload_n hx hb dX10_init_19 rfl (lv_at hl 0 rfl) ?_
  refine lv_iconst (v := 2) hx hb dX10_init_20 (by decide) ?_
  refine r_newa (N' := 2) 0 hx hb (hts (.arrayClass .int) (by decide +kernel)) rfl rfl hK rfl (fun _ h => by cases h) hH hS (by decide) (by decide) (by decide) (by decide) (by decide) dX10_init_21 (fun H hH hS => ?_)
  refine W.widen (k := 3) (n := 124) (by decide) (by decide) ?_
  obtain ⟨L3, hL3, hE⟩ := Option.bind_eq_some_iff.mp hE
  refine r_pF 3 (v := .ref L2.length) (ty := (.array .int)) (C := RX10) (T := TX10) (N := 26) (ci := 9) hx hb hts (by decide +kernel) tyX10 tyX10_ok nmX10 hown hK hH hS hL3 rfl (by decide) (hts (.fieldLink RX10 17 "KindStreetsModel" "streets" "[I") (by decide +kernel)) (fun _ h9 => h9) rfl hin rfl (by decide +kernel) rfl rfl dX10_init_23 (fun H locs hH hS => ?_)
  refine lv_aload_n hx hb dX10_init_26 rfl (lv_at hl 0 rfl) ?_
  refine lv_bipush (v := 18) hx hb dX10_init_27 (by decide) ?_
  refine r_newa (N' := 18) 0 hx hb (hts (.arrayClass .int) (by decide +kernel)) rfl rfl hK rfl (fun _ h => by cases h) hH hS (by decide) (by decide) (by decide) (by decide) (by decide) dX10_init_29 (fun H hH hS => ?_)
  refine W.widen (k := 4) (n := 142) (by decide) (by decide) ?_
  obtain ⟨L4, hL4, hE⟩ := Option.bind_eq_some_iff.mp hE
  refine r_pF 4 (v := .ref L3.length) (ty := (.array .int)) (C := RX10) (T := TX10) (N := 26) (ci := 9) hx hb hts (by decide +kernel) tyX10 tyX10_ok nmX10 hown hK hH hS hL4 rfl (by decide) (hts (.fieldLink RX10 20 "KindStreetsModel" "from" "[I") (by decide +kernel)) (fun _ h9 => h9) rfl hin rfl (by decide +kernel) rfl rfl dX10_init_31 (fun H locs hH hS => ?_)
  refine lv_aload_n hx hb dX10_init_34 rfl (lv_at hl 0 rfl) ?_
  refine lv_bipush (v := 18) hx hb dX10_init_35 (by decide) ?_
  refine r_newa (N' := 18) 0 hx hb (hts (.arrayClass .int) (by decide +kernel)) rfl rfl hK rfl (fun _ h => by cases h) hH hS (by decide) (by decide) (by decide) (by decide) (by decide) dX10_init_37 (fun H hH hS => ?_)
  refine W.widen (k := 5) (n := 160) (by decide) (by decide) ?_
  obtain ⟨L5, hL5, hE⟩ := Option.bind_eq_some_iff.mp hE
  refine r_pF 5 (v := .ref L4.length) (ty := (.array .int)) (C := RX10) (T := TX10) (N := 26) (ci := 9) hx hb hts (by decide +kernel) tyX10 tyX10_ok nmX10 hown hK hH hS hL5 rfl (by decide) (hts (.fieldLink RX10 23 "KindStreetsModel" "to" "[I") (by decide +kernel)) (fun _ h9 => h9) rfl hin rfl (by decide +kernel) rfl rfl dX10_init_39 (fun H locs hH hS => ?_)
  refine lv_aload_n hx hb dX10_init_42 rfl (lv_at hl 0 rfl) ?_
  refine lv_bipush (v := 18) hx hb dX10_init_43 (by decide) ?_
  refine r_newa (N' := 18) 0 hx hb (hts (.arrayClass .int) (by decide +kernel)) rfl rfl hK rfl (fun _ h => by cases h) hH hS (by decide) (by decide) (by decide) (by decide) (by decide) dX10_init_45 (fun H hH hS => ?_)
  refine W.widen (k := 6) (n := 178) (by decide) (by decide) ?_
  obtain ⟨L6, hL6, hE⟩ := Option.bind_eq_some_iff.mp hE
  refine r_pF 6 (v := .ref L5.length) (ty := (.array .int)) (C := RX10) (T := TX10) (N := 26) (ci := 9) hx hb hts (by decide +kernel) tyX10 tyX10_ok nmX10 hown hK hH hS hL6 rfl (by decide) (hts (.fieldLink RX10 26 "KindStreetsModel" "old" "[I") (by decide +kernel)) (fun _ h9 => h9) rfl hin rfl (by decide +kernel) rfl rfl dX10_init_47 (fun H locs hH hS => ?_)
  refine lv_aload_n hx hb dX10_init_50 rfl (lv_at hl 0 rfl) ?_
  refine lv_iconst (v := 2) hx hb dX10_init_51 (by decide) ?_
  refine r_newa (N' := 2) 0 hx hb (hts (.arrayClass .int) (by decide +kernel)) rfl rfl hK rfl (fun _ h => by cases h) hH hS (by decide) (by decide) (by decide) (by decide) (by decide) dX10_init_52 (fun H hH hS => ?_)
  refine W.widen (k := 7) (n := 180) (by decide) (by decide) ?_
  obtain ⟨L7, hL7, hE⟩ := Option.bind_eq_some_iff.mp hE
  refine r_pF 7 (v := .ref L6.length) (ty := (.array .int)) (C := RX10) (T := TX10) (N := 26) (ci := 9) hx hb hts (by decide +kernel) tyX10 tyX10_ok nmX10 hown hK hH hS hL7 rfl (by decide) (hts (.fieldLink RX10 29 "KindStreetsModel" "people" "[I") (by decide +kernel)) (fun _ h9 => h9) rfl hin rfl (by decide +kernel) rfl rfl dX10_init_54 (fun H locs hH hS => ?_)
  refine lv_aload_n hx hb dX10_init_57 rfl (lv_at hl 0 rfl) ?_
  refine lv_bipush (v := 12) hx hb dX10_init_58 (by decide) ?_
  refine r_newa (N' := 12) 0 hx hb (hts (.arrayClass .int) (by decide +kernel)) rfl rfl hK rfl (fun _ h => by cases h) hH hS (by decide) (by decide) (by decide) (by decide) (by decide) dX10_init_60 (fun H hH hS => ?_)
  refine W.widen (k := 8) (n := 192) (by decide) (by decide) ?_
  obtain ⟨L8, hL8, hE⟩ := Option.bind_eq_some_iff.mp hE
  refine r_pF 8 (v := .ref L7.length) (ty := (.array .int)) (C := RX10) (T := TX10) (N := 26) (ci := 9) hx hb hts (by decide +kernel) tyX10 tyX10_ok nmX10 hown hK hH hS hL8 rfl (by decide) (hts (.fieldLink RX10 32 "KindStreetsModel" "home" "[I") (by decide +kernel)) (fun _ h9 => h9) rfl hin rfl (by decide +kernel) rfl rfl dX10_init_62 (fun H locs hH hS => ?_)
  refine lv_aload_n hx hb dX10_init_65 rfl (lv_at hl 0 rfl) ?_
  refine lv_bipush (v := 12) hx hb dX10_init_66 (by decide) ?_
  refine r_newa (N' := 12) 0 hx hb (hts (.arrayClass .int) (by decide +kernel)) rfl rfl hK rfl (fun _ h => by cases h) hH hS (by decide) (by decide) (by decide) (by decide) (by decide) dX10_init_68 (fun H hH hS => ?_)
  refine W.widen (k := 9) (n := 204) (by decide) (by decide) ?_
  obtain ⟨L9, hL9, hE⟩ := Option.bind_eq_some_iff.mp hE
  refine r_pF 9 (v := .ref L8.length) (ty := (.array .int)) (C := RX10) (T := TX10) (N := 26) (ci := 9) hx hb hts (by decide +kernel) tyX10 tyX10_ok nmX10 hown hK hH hS hL9 rfl (by decide) (hts (.fieldLink RX10 35 "KindStreetsModel" "wants" "[I") (by decide +kernel)) (fun _ h9 => h9) rfl hin rfl (by decide +kernel) rfl rfl dX10_init_70 (fun H locs hH hS => ?_)
  refine lv_aload_n hx hb dX10_init_73 rfl (lv_at hl 0 rfl) ?_
  refine lv_bipush (v := 34) hx hb dX10_init_74 (by decide) ?_
  refine r_newa (N' := 34) 0 hx hb (hts (.arrayClass .int) (by decide +kernel)) rfl rfl hK rfl (fun _ h => by cases h) hH hS (by decide) (by decide) (by decide) (by decide) (by decide) dX10_init_76 (fun H hH hS => ?_)
  refine W.widen (k := 10) (n := 238) (by decide) (by decide) ?_
  obtain ⟨L10, hL10, hE⟩ := Option.bind_eq_some_iff.mp hE
  refine r_pF 16 (v := .ref L9.length) (ty := (.array .int)) (C := RX10) (T := TX10) (N := 26) (ci := 9) hx hb hts (by decide +kernel) tyX10 tyX10_ok nmX10 hown hK hH hS hL10 rfl (by decide) (hts (.fieldLink RX10 38 "KindStreetsModel" "now" "[I") (by decide +kernel)) (fun _ h9 => h9) rfl hin rfl (by decide +kernel) rfl rfl dX10_init_78 (fun H locs hH hS => ?_)
  refine lv_aload_n hx hb dX10_init_81 rfl (lv_at hl 0 rfl) ?_
  refine lv_iconst (v := 3) hx hb dX10_init_82 (by decide) ?_
  refine r_newa (N' := 3) 0 hx hb (hts (.arrayClass .int) (by decide +kernel)) rfl rfl hK rfl (fun _ h => by cases h) hH hS (by decide) (by decide) (by decide) (by decide) (by decide) dX10_init_83 (fun H hH hS => ?_)
  refine W.widen (k := 11) (n := 241) (by decide) (by decide) ?_
  obtain ⟨L11, hL11, hE⟩ := Option.bind_eq_some_iff.mp hE
  refine r_pF 17 (v := .ref L10.length) (ty := (.array .int)) (C := RX10) (T := TX10) (N := 26) (ci := 9) hx hb hts (by decide +kernel) tyX10 tyX10_ok nmX10 hown hK hH hS hL11 rfl (by decide) (hts (.fieldLink RX10 41 "KindStreetsModel" "known" "[I") (by decide +kernel)) (fun _ h9 => h9) rfl hin rfl (by decide +kernel) rfl rfl dX10_init_85 (fun H locs hH hS => ?_)
  refine lv_aload_n hx hb dX10_init_88 rfl (lv_at hl 0 rfl) ?_
  refine lv_sipush (v := 1020) hx hb dX10_init_89 (by decide) ?_
  refine r_newa (N' := 1020) 0 hx hb (hts (.arrayClass .int) (by decide +kernel)) rfl rfl hK rfl (fun _ h => by cases h) hH hS (by decide) (by decide) (by decide) (by decide) (by decide) dX10_init_92 (fun H hH hS => ?_)
  refine W.widen (k := 12) (n := 1261) (by decide) (by decide) ?_
  obtain ⟨L12, hL12, hE⟩ := Option.bind_eq_some_iff.mp hE
  refine r_pF 18 (v := .ref L11.length) (ty := (.array .int)) (C := RX10) (T := TX10) (N := 26) (ci := 9) hx hb hts (by decide +kernel) tyX10 tyX10_ok nmX10 hown hK hH hS hL12 rfl (by decide) (hts (.fieldLink RX10 44 "KindStreetsModel" "before" "[I") (by decide +kernel)) (fun _ h9 => h9) rfl hin rfl (by decide +kernel) rfl rfl dX10_init_94 (fun H locs hH hS => ?_)
  refine lv_aload_n hx hb dX10_init_97 rfl (lv_at hl 0 rfl) ?_
  refine lv_bipush (v := 68) hx hb dX10_init_98 (by decide) ?_
  refine r_newa (N' := 68) 0 hx hb (hts (.arrayClass .int) (by decide +kernel)) rfl rfl hK rfl (fun _ h => by cases h) hH hS (by decide) (by decide) (by decide) (by decide) (by decide) dX10_init_100 (fun H hH hS => ?_)
  refine W.widen (k := 13) (n := 1329) (by decide) (by decide) ?_
  obtain ⟨L13, hL13, hE⟩ := Option.bind_eq_some_iff.mp hE
  refine r_pF 19 (v := .ref L12.length) (ty := (.array .int)) (C := RX10) (T := TX10) (N := 26) (ci := 9) hx hb hts (by decide +kernel) tyX10 tyX10_ok nmX10 hown hK hH hS hL13 rfl (by decide) (hts (.fieldLink RX10 47 "KindStreetsModel" "store" "[I") (by decide +kernel)) (fun _ h9 => h9) rfl hin rfl (by decide +kernel) rfl rfl dX10_init_102 (fun H locs hH hS => ?_)
  refine lv_aload_n hx hb dX10_init_105 rfl (lv_at hl 0 rfl) ?_
  refine lv_iconst (v := 2) hx hb dX10_init_106 (by decide) ?_
  refine r_newa (N' := 2) 2 hx hb (hts (.arrayClass .boolean) (by decide +kernel)) rfl rfl hK rfl (fun _ h => by cases h) hH hS (by decide) (by decide) (by decide) (by decide) (by decide) dX10_init_107 (fun H hH hS => ?_)
  refine W.widen (k := 14) (n := 1331) (by decide) (by decide) ?_
  obtain ⟨L14, hL14, hE⟩ := Option.bind_eq_some_iff.mp hE
  refine r_pF 20 (v := .ref L13.length) (ty := (.array .boolean)) (C := RX10) (T := TX10) (N := 26) (ci := 9) hx hb hts (by decide +kernel) tyX10 tyX10_ok nmX10 hown hK hH hS hL14 rfl (by decide) (hts (.fieldLink RX10 50 "KindStreetsModel" "isKept" "[Z") (by decide +kernel)) (fun _ h9 => h9) rfl hin rfl (by decide +kernel) rfl rfl dX10_init_109 (fun H locs hH hS => ?_)
  refine lv_aload_n hx hb dX10_init_112 rfl (lv_at hl 0 rfl) ?_
  refine lv_sipush (v := 3584) hx hb dX10_init_113 (by decide) ?_
  refine r_newa (N' := 3584) 0 hx hb (hts (.arrayClass .int) (by decide +kernel)) rfl rfl hK rfl (fun _ h => by cases h) hH hS (by decide) (by decide) (by decide) (by decide) (by decide) dX10_init_116 (fun H hH hS => ?_)
  refine W.widen (k := 15) (n := 4915) (by decide) (by decide) ?_
  obtain ⟨L15, hL15, hE⟩ := Option.bind_eq_some_iff.mp hE
  refine r_pF 21 (v := .ref L14.length) (ty := (.array .int)) (C := RX10) (T := TX10) (N := 26) (ci := 9) hx hb hts (by decide +kernel) tyX10 tyX10_ok nmX10 hown hK hH hS hL15 rfl (by decide) (hts (.fieldLink RX10 54 "KindStreetsModel" "most" "[I") (by decide +kernel)) (fun _ h9 => h9) rfl hin rfl (by decide +kernel) rfl rfl dX10_init_118 (fun H locs hH hS => ?_)
  refine lv_aload_n hx hb dX10_init_121 rfl (lv_at hl 0 rfl) ?_
  refine lv_iconst (v := 4) hx hb dX10_init_122 (by decide) ?_
  refine r_newa (N' := 4) 0 hx hb (hts (.arrayClass .int) (by decide +kernel)) rfl rfl hK rfl (fun _ h => by cases h) hH hS (by decide) (by decide) (by decide) (by decide) (by decide) dX10_init_123 (fun H hH hS => ?_)
  refine W.widen (k := 16) (n := 4919) (by decide) (by decide) ?_
  obtain ⟨L16, hL16, hE⟩ := Option.bind_eq_some_iff.mp hE
  refine r_pF 22 (v := .ref L15.length) (ty := (.array .int)) (C := RX10) (T := TX10) (N := 26) (ci := 9) hx hb hts (by decide +kernel) tyX10 tyX10_ok nmX10 hown hK hH hS hL16 rfl (by decide) (hts (.fieldLink RX10 57 "KindStreetsModel" "factWidth" "[I") (by decide +kernel)) (fun _ h9 => h9) rfl hin rfl (by decide +kernel) rfl rfl dX10_init_125 (fun H locs hH hS => ?_)
  refine lv_aload_n hx hb dX10_init_128 rfl (lv_at hl 0 rfl) ?_
  refine lv_iconst (v := 4) hx hb dX10_init_129 (by decide) ?_
  refine r_newa (N' := 4) 0 hx hb (hts (.arrayClass .int) (by decide +kernel)) rfl rfl hK rfl (fun _ h => by cases h) hH hS (by decide) (by decide) (by decide) (by decide) (by decide) dX10_init_130 (fun H hH hS => ?_)
  refine W.widen (k := 17) (n := 4923) (by decide) (by decide) ?_
  obtain ⟨L17, hL17, hE⟩ := Option.bind_eq_some_iff.mp hE
  refine r_pF 23 (v := .ref L16.length) (ty := (.array .int)) (C := RX10) (T := TX10) (N := 26) (ci := 9) hx hb hts (by decide +kernel) tyX10 tyX10_ok nmX10 hown hK hH hS hL17 rfl (by decide) (hts (.fieldLink RX10 60 "KindStreetsModel" "factNight" "[I") (by decide +kernel)) (fun _ h9 => h9) rfl hin rfl (by decide +kernel) rfl rfl dX10_init_132 (fun H locs hH hS => ?_)
  refine lv_aload_n hx hb dX10_init_135 rfl (lv_at hl 0 rfl) ?_
  obtain ⟨v18, hv18, hE⟩ := Option.bind_eq_some_iff.mp hE
  refine r_gR 2 (C := RX10) (T := TX10) (N := 26) (ci := 9) hx hb hts (by decide +kernel) hown hK hH hv18 rfl (by decide) (hts (.fieldLink RX10 13 "KindStreetsModel" "yards" "[I") (by decide +kernel)) (fun _ h9 => h9) dX10_init_136 ?_
  refine lv_iconst (v := 0) hx hb dX10_init_139 (by decide) ?_
  refine lv_iconst (v := 4) hx hb dX10_init_140 (by decide) ?_
  obtain ⟨L19, hL19, hE⟩ := Option.bind_eq_some_iff.mp hE
  refine r_iast hx hb hK hH hS hL19 dX10_init_141 (fun H locs hH hS => ?_)
  have hZ := Option.some.inj hE
  subst hZ
  exact W.vret hx hb hr (fun t ht hW => ⟨rfl, by rw [ht]; exact hH, hS.F ht⟩) hS.2.2 dX10_init_142

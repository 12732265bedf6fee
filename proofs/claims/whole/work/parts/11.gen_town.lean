-- X7_begin
def fX7_begin_T (F : Nat) (L : HL) (a0 : Nat) : Option HL := (o_ob L a0 6).bind fun _ => (o_p L a0 6 0 (.int 4)).bind fun L1 => (o_p L1 a0 6 1 (.int 0)).bind fun L2 => (o_p L2 a0 6 2 (.int 0)).bind fun L3 => some L3
theorem oX7_begin_T {F : Nat} {L : HL} {a0 : Nat} {z : HL} (hE : fX7_begin_T F L a0 = some z) : o_ob L a0 6 = some () := by
  obtain ⟨_, h, _⟩ := Option.bind_eq_some_iff.mp hE
  exact h
set_option maxHeartbeats 4000000 in
set_option maxRecDepth 100000 in
theorem sX7_begin_T (l : Launch) (b0 : Nat) (D : va_G) (cA : Nat → ClassId) {F : Nat} {L : HL} {a0 : Nat} {z : HL} (hE : fX7_begin_T F L a0 = some z) : Met l yX7_begin wsX7_begin (RM 0 0 0) (Pk b0 D cA [.ref (b0 + a0)] L) (Qk b0 D cA none z) 0 0 (Ab b0) := by
  refine Met.ofW (cc := cX7_begin) (maxL := 1) (ret := none) (by decide) rfl ?_
  intro p ev s m args below meth c s₁ B hml hv
  obtain ⟨rfl, hH, hK⟩ := hv
  have hx := B.exec
  have hb := B.bytes
  have hr := B.returns
  have hts := atoms_spec (ws := wsX7_begin) B.pre
  have hown : s.vm.findClass RX7 = some m.cls := findClass_of_methodNamed B.named
  have hlocks := B.notSynchronized
  have hC : Cx D cA p s m _ meth c cX7_begin 1 RX7 wsX7_begin none := ⟨hx, hb, hml, hown, hts, hK, hr, hlocks⟩
  have hS : va_S (Ab b0) s.heap s.heap [] := va_S.rf
  have hl := lv_entry ([.ref (b0 + a0)]) (n := 1) (Nat.le_of_ble_eq_true rfl)
  rw [lg_entry_eq]
  generalize (lg_sl ([.ref (b0 + a0)]) ++ List.replicate (1 - (lg_sl ([.ref (b0 + a0)])).length) Slot.unset).toArray = ls at hl ⊢
  have hl : lv_has ls 1 [(0, .ref (b0 + a0))] := hl
  unfold fX7_begin_T at hE
  obtain ⟨_, _, hE⟩ := Option.bind_eq_some_iff.mp hE
  refine lv_aload_n hx hb dX7_begin_0 rfl (lv_at hl 0 rfl) ?_
  refine lv_iconst (v := 4) hx hb dX7_begin_1 (by decide) ?_
  obtain ⟨L1, hL1, hE⟩ := Option.bind_eq_some_iff.mp hE
  refine r_p 0 (v := .int 4) (ty := .int) (C := RX7) (T := TX7) (N := 8) (ci := 6) hx hb hts (by decide +kernel) tyX7 tyX7_ok nmX7 hown hK hH hS hL1 rfl (by decide) (hts (.fieldLink RX7 9 "KindStreets$Town" "yards" "I") (by decide +kernel)) (fun _ h9 => h9) rfl (by decide +kernel) rfl rfl dX7_begin_2 (fun H locs hH hS => ?_)
  refine lv_aload_n hx hb dX7_begin_5 rfl (lv_at hl 0 rfl) ?_
  refine lv_iconst (v := 0) hx hb dX7_begin_6 (by decide) ?_
  obtain ⟨L2, hL2, hE⟩ := Option.bind_eq_some_iff.mp hE
  refine r_p 1 (v := .int 0) (ty := .int) (C := RX7) (T := TX7) (N := 8) (ci := 6) hx hb hts (by decide +kernel) tyX7 tyX7_ok nmX7 hown hK hH hS hL2 rfl (by decide) (hts (.fieldLink RX7 31 "KindStreets$Town" "streets" "I") (by decide +kernel)) (fun _ h9 => h9) rfl (by decide +kernel) rfl rfl dX7_begin_7 (fun H locs hH hS => ?_)
  refine lv_aload_n hx hb dX7_begin_10 rfl (lv_at hl 0 rfl) ?_
  refine lv_iconst (v := 0) hx hb dX7_begin_11 (by decide) ?_
  obtain ⟨L3, hL3, hE⟩ := Option.bind_eq_some_iff.mp hE
  refine r_p 2 (v := .int 0) (ty := .int) (C := RX7) (T := TX7) (N := 8) (ci := 6) hx hb hts (by decide +kernel) tyX7 tyX7_ok nmX7 hown hK hH hS hL3 rfl (by decide) (hts (.fieldLink RX7 34 "KindStreets$Town" "citizens" "I") (by decide +kernel)) (fun _ h9 => h9) rfl (by decide +kernel) rfl rfl dX7_begin_12 (fun H locs hH hS => ?_)
  have hZ := Option.some.inj hE
  subst hZ
  exact W.vret hx hb hr (fun t ht hW => ⟨rfl, by rw [ht]; exact hH, hS.F ht⟩) hS.2.2 dX7_begin_15
-- X7_become
def fX7_become_T (F : Nat) (L : HL) (a0 : Nat) (x1 : Nat) : Option HL := (o_ob L a0 6).bind fun _ => (o_gI L x1 6 0).bind fun v1 => (o_p L a0 6 0 (.int v1)).bind fun L2 => (o_gI L2 x1 6 1).bind fun v3 => (o_p L2 a0 6 1 (.int v3)).bind fun L4 => (o_gI L4 x1 6 2).bind fun v5 => (o_p L4 a0 6 2 (.int v5)).bind fun L6 => (o_gR L6 x1 6 3).bind fun v7 => (o_gR L6 a0 6 3).bind fun v8 => (o_cp L6 v7 0 v8 0 9).bind fun L9 => (o_gR L9 x1 6 4).bind fun v10 => (o_gR L9 a0 6 4).bind fun v11 => (o_cp L9 v10 0 v11 0 9).bind fun L12 => (o_gR L12 x1 6 5).bind fun v13 => (o_gR L12 a0 6 5).bind fun v14 => (o_cp L12 v13 0 v14 0 9).bind fun L15 => (o_gR L15 x1 6 6).bind fun v16 => (o_gR L15 a0 6 6).bind fun v17 => (o_cp L15 v16 0 v17 0 6).bind fun L18 => (o_gR L18 x1 6 7).bind fun v19 => (o_gR L18 a0 6 7).bind fun v20 => (o_cp L18 v19 0 v20 0 6).bind fun L21 => some L21
theorem oX7_become_T {F : Nat} {L : HL} {a0 : Nat} {x1 : Nat} {z : HL} (hE : fX7_become_T F L a0 x1 = some z) : o_ob L a0 6 = some () := by
  obtain ⟨_, h, _⟩ := Option.bind_eq_some_iff.mp hE
  exact h
set_option maxHeartbeats 4000000 in
set_option maxRecDepth 100000 in
theorem sX7_become_T (l : Launch) (b0 : Nat) (D : va_G) (cA : Nat → ClassId) {F : Nat} {L : HL} {a0 : Nat} {x1 : Nat} {z : HL} (hE : fX7_become_T F L a0 x1 = some z) : Met l yX7_become wsX7_become (RM 1 0 0) (Pk b0 D cA [.ref (b0 + a0), .ref (b0 + x1)] L) (Qk b0 D cA none z) 0 0 (Ab b0) := by
  refine Met.ofW (cc := cX7_become) (maxL := 2) (ret := none) (by decide) rfl ?_
  intro p ev s m args below meth c s₁ B hml hv
  obtain ⟨rfl, hH, hK⟩ := hv
  have hx := B.exec
  have hb := B.bytes
  have hr := B.returns
  have hts := atoms_spec (ws := wsX7_become) B.pre
  have hown : s.vm.findClass RX7 = some m.cls := findClass_of_methodNamed B.named
  have hlocks := B.notSynchronized
  have hC : Cx D cA p s m _ meth c cX7_become 2 RX7 wsX7_become none := ⟨hx, hb, hml, hown, hts, hK, hr, hlocks⟩
  have hS : va_S (Ab b0) s.heap s.heap [] := va_S.rf
  have hl := lv_entry ([.ref (b0 + a0), .ref (b0 + x1)]) (n := 2) (Nat.le_of_ble_eq_true rfl)
  rw [lg_entry_eq]
  generalize (lg_sl ([.ref (b0 + a0), .ref (b0 + x1)]) ++ List.replicate (2 - (lg_sl ([.ref (b0 + a0), .ref (b0 + x1)])).length) Slot.unset).toArray = ls at hl ⊢
  have hl : lv_has ls 2 [(0, .ref (b0 + a0)), (1, .ref (b0 + x1))] := hl
  unfold fX7_become_T at hE
  obtain ⟨_, _, hE⟩ := Option.bind_eq_some_iff.mp hE
  refine lv_aload_n hx hb dX7_become_0 rfl (lv_at hl 0 rfl) ?_
  refine lv_aload_n hx hb dX7_become_1 rfl (lv_at hl 1 rfl) ?_
  obtain ⟨v1, hv1, hE⟩ := Option.bind_eq_some_iff.mp hE
  refine r_gI 0 (C := RX7) (T := TX7) (N := 8) (ci := 6) hx hb hts (by decide +kernel) hown hK hH hv1 rfl (by decide) (hts (.fieldLink RX7 9 "KindStreets$Town" "yards" "I") (by decide +kernel)) (fun _ h9 => h9) dX7_become_2 ?_
  obtain ⟨L2, hL2, hE⟩ := Option.bind_eq_some_iff.mp hE
  refine r_p 0 (v := .int v1) (ty := .int) (C := RX7) (T := TX7) (N := 8) (ci := 6) hx hb hts (by decide +kernel) tyX7 tyX7_ok nmX7 hown hK hH hS hL2 rfl (by decide) (hts (.fieldLink RX7 9 "KindStreets$Town" "yards" "I") (by decide +kernel)) (fun _ h9 => h9) rfl (by decide +kernel) rfl rfl dX7_become_5 (fun H locs hH hS => ?_)
  refine lv_aload_n hx hb dX7_become_8 rfl (lv_at hl 0 rfl) ?_
  refine lv_aload_n hx hb dX7_become_9 rfl (lv_at hl 1 rfl) ?_
  obtain ⟨v3, hv3, hE⟩ := Option.bind_eq_some_iff.mp hE
  refine r_gI 1 (C := RX7) (T := TX7) (N := 8) (ci := 6) hx hb hts (by decide +kernel) hown hK hH hv3 rfl (by decide) (hts (.fieldLink RX7 31 "KindStreets$Town" "streets" "I") (by decide +kernel)) (fun _ h9 => h9) dX7_become_10 ?_
  obtain ⟨L4, hL4, hE⟩ := Option.bind_eq_some_iff.mp hE
  refine r_p 1 (v := .int v3) (ty := .int) (C := RX7) (T := TX7) (N := 8) (ci := 6) hx hb hts (by decide +kernel) tyX7 tyX7_ok nmX7 hown hK hH hS hL4 rfl (by decide) (hts (.fieldLink RX7 31 "KindStreets$Town" "streets" "I") (by decide +kernel)) (fun _ h9 => h9) rfl (by decide +kernel) rfl rfl dX7_become_13 (fun H locs hH hS => ?_)
  refine lv_aload_n hx hb dX7_become_16 rfl (lv_at hl 0 rfl) ?_
  refine lv_aload_n hx hb dX7_become_17 rfl (lv_at hl 1 rfl) ?_
  obtain ⟨v5, hv5, hE⟩ := Option.bind_eq_some_iff.mp hE
  refine r_gI 2 (C := RX7) (T := TX7) (N := 8) (ci := 6) hx hb hts (by decide +kernel) hown hK hH hv5 rfl (by decide) (hts (.fieldLink RX7 34 "KindStreets$Town" "citizens" "I") (by decide +kernel)) (fun _ h9 => h9) dX7_become_18 ?_
  obtain ⟨L6, hL6, hE⟩ := Option.bind_eq_some_iff.mp hE
  refine r_p 2 (v := .int v5) (ty := .int) (C := RX7) (T := TX7) (N := 8) (ci := 6) hx hb hts (by decide +kernel) tyX7 tyX7_ok nmX7 hown hK hH hS hL6 rfl (by decide) (hts (.fieldLink RX7 34 "KindStreets$Town" "citizens" "I") (by decide +kernel)) (fun _ h9 => h9) rfl (by decide +kernel) rfl rfl dX7_become_21 (fun H locs hH hS => ?_)
  refine lv_aload_n hx hb dX7_become_24 rfl (lv_at hl 1 rfl) ?_
  obtain ⟨v7, hv7, hE⟩ := Option.bind_eq_some_iff.mp hE
  refine r_gR 3 (C := RX7) (T := TX7) (N := 8) (ci := 6) hx hb hts (by decide +kernel) hown hK hH hv7 rfl (by decide) (hts (.fieldLink RX7 15 "KindStreets$Town" "one" "[I") (by decide +kernel)) (fun _ h9 => h9) dX7_become_25 ?_
  refine lv_iconst (v := 0) hx hb dX7_become_28 (by decide) ?_
  refine lv_aload_n hx hb dX7_become_29 rfl (lv_at hl 0 rfl) ?_
  obtain ⟨v8, hv8, hE⟩ := Option.bind_eq_some_iff.mp hE
  refine r_gR 3 (C := RX7) (T := TX7) (N := 8) (ci := 6) hx hb hts (by decide +kernel) hown hK hH hv8 rfl (by decide) (hts (.fieldLink RX7 15 "KindStreets$Town" "one" "[I") (by decide +kernel)) (fun _ h9 => h9) dX7_become_30 ?_
  refine lv_iconst (v := 0) hx hb dX7_become_33 (by decide) ?_
  refine lv_bipush (v := 9) hx hb dX7_become_34 (by decide) ?_
  obtain ⟨L9, hL9, hE⟩ := Option.bind_eq_some_iff.mp hE
  refine r_cp hx hb (hml.trans hl.1.symm) hown (hts (.methodLink RX7 37 arraycopyName) (by decide +kernel)) (hts (.native arraycopyName) (by decide +kernel)) (hts (.static arraycopyName) (by decide +kernel)) (hts (.initialized "java/lang/System") (by decide +kernel)) hK hH hS hL9 (by decide) (by decide) dX7_become_36 (fun H locs hH hS => ?_)
  refine lv_aload_n hx hb dX7_become_39 rfl (lv_at hl 1 rfl) ?_
  obtain ⟨v10, hv10, hE⟩ := Option.bind_eq_some_iff.mp hE
  refine r_gR 4 (C := RX7) (T := TX7) (N := 8) (ci := 6) hx hb hts (by decide +kernel) hown hK hH hv10 rfl (by decide) (hts (.fieldLink RX7 19 "KindStreets$Town" "other" "[I") (by decide +kernel)) (fun _ h9 => h9) dX7_become_40 ?_
  refine lv_iconst (v := 0) hx hb dX7_become_43 (by decide) ?_
  refine lv_aload_n hx hb dX7_become_44 rfl (lv_at hl 0 rfl) ?_
  obtain ⟨v11, hv11, hE⟩ := Option.bind_eq_some_iff.mp hE
  refine r_gR 4 (C := RX7) (T := TX7) (N := 8) (ci := 6) hx hb hts (by decide +kernel) hown hK hH hv11 rfl (by decide) (hts (.fieldLink RX7 19 "KindStreets$Town" "other" "[I") (by decide +kernel)) (fun _ h9 => h9) dX7_become_45 ?_
  refine lv_iconst (v := 0) hx hb dX7_become_48 (by decide) ?_
  refine lv_bipush (v := 9) hx hb dX7_become_49 (by decide) ?_
  obtain ⟨L12, hL12, hE⟩ := Option.bind_eq_some_iff.mp hE
  refine r_cp hx hb (hml.trans hl.1.symm) hown (hts (.methodLink RX7 37 arraycopyName) (by decide +kernel)) (hts (.native arraycopyName) (by decide +kernel)) (hts (.static arraycopyName) (by decide +kernel)) (hts (.initialized "java/lang/System") (by decide +kernel)) hK hH hS hL12 (by decide) (by decide) dX7_become_51 (fun H locs hH hS => ?_)
  refine lv_aload_n hx hb dX7_become_54 rfl (lv_at hl 1 rfl) ?_
  obtain ⟨v13, hv13, hE⟩ := Option.bind_eq_some_iff.mp hE
  refine r_gR 5 (C := RX7) (T := TX7) (N := 8) (ci := 6) hx hb hts (by decide +kernel) hown hK hH hv13 rfl (by decide) (hts (.fieldLink RX7 22 "KindStreets$Town" "old" "[I") (by decide +kernel)) (fun _ h9 => h9) dX7_become_55 ?_
  refine lv_iconst (v := 0) hx hb dX7_become_58 (by decide) ?_
  refine lv_aload_n hx hb dX7_become_59 rfl (lv_at hl 0 rfl) ?_
  obtain ⟨v14, hv14, hE⟩ := Option.bind_eq_some_iff.mp hE
  refine r_gR 5 (C := RX7) (T := TX7) (N := 8) (ci := 6) hx hb hts (by decide +kernel) hown hK hH hv14 rfl (by decide) (hts (.fieldLink RX7 22 "KindStreets$Town" "old" "[I") (by decide +kernel)) (fun _ h9 => h9) dX7_become_60 ?_
  refine lv_iconst (v := 0) hx hb dX7_become_63 (by decide) ?_
  refine lv_bipush (v := 9) hx hb dX7_become_64 (by decide) ?_
  obtain ⟨L15, hL15, hE⟩ := Option.bind_eq_some_iff.mp hE
  refine r_cp hx hb (hml.trans hl.1.symm) hown (hts (.methodLink RX7 37 arraycopyName) (by decide +kernel)) (hts (.native arraycopyName) (by decide +kernel)) (hts (.static arraycopyName) (by decide +kernel)) (hts (.initialized "java/lang/System") (by decide +kernel)) hK hH hS hL15 (by decide) (by decide) dX7_become_66 (fun H locs hH hS => ?_)
  refine lv_aload_n hx hb dX7_become_69 rfl (lv_at hl 1 rfl) ?_
  obtain ⟨v16, hv16, hE⟩ := Option.bind_eq_some_iff.mp hE
  refine r_gR 6 (C := RX7) (T := TX7) (N := 8) (ci := 6) hx hb hts (by decide +kernel) hown hK hH hv16 rfl (by decide) (hts (.fieldLink RX7 25 "KindStreets$Town" "home" "[I") (by decide +kernel)) (fun _ h9 => h9) dX7_become_70 ?_
  refine lv_iconst (v := 0) hx hb dX7_become_73 (by decide) ?_
  refine lv_aload_n hx hb dX7_become_74 rfl (lv_at hl 0 rfl) ?_
  obtain ⟨v17, hv17, hE⟩ := Option.bind_eq_some_iff.mp hE
  refine r_gR 6 (C := RX7) (T := TX7) (N := 8) (ci := 6) hx hb hts (by decide +kernel) hown hK hH hv17 rfl (by decide) (hts (.fieldLink RX7 25 "KindStreets$Town" "home" "[I") (by decide +kernel)) (fun _ h9 => h9) dX7_become_75 ?_
  refine lv_iconst (v := 0) hx hb dX7_become_78 (by decide) ?_
  refine lv_bipush (v := 6) hx hb dX7_become_79 (by decide) ?_
  obtain ⟨L18, hL18, hE⟩ := Option.bind_eq_some_iff.mp hE
  refine r_cp hx hb (hml.trans hl.1.symm) hown (hts (.methodLink RX7 37 arraycopyName) (by decide +kernel)) (hts (.native arraycopyName) (by decide +kernel)) (hts (.static arraycopyName) (by decide +kernel)) (hts (.initialized "java/lang/System") (by decide +kernel)) hK hH hS hL18 (by decide) (by decide) dX7_become_81 (fun H locs hH hS => ?_)
  refine lv_aload_n hx hb dX7_become_84 rfl (lv_at hl 1 rfl) ?_
  obtain ⟨v19, hv19, hE⟩ := Option.bind_eq_some_iff.mp hE
  refine r_gR 7 (C := RX7) (T := TX7) (N := 8) (ci := 6) hx hb hts (by decide +kernel) hown hK hH hv19 rfl (by decide) (hts (.fieldLink RX7 28 "KindStreets$Town" "wants" "[I") (by decide +kernel)) (fun _ h9 => h9) dX7_become_85 ?_
  refine lv_iconst (v := 0) hx hb dX7_become_88 (by decide) ?_
  refine lv_aload_n hx hb dX7_become_89 rfl (lv_at hl 0 rfl) ?_
  obtain ⟨v20, hv20, hE⟩ := Option.bind_eq_some_iff.mp hE
  refine r_gR 7 (C := RX7) (T := TX7) (N := 8) (ci := 6) hx hb hts (by decide +kernel) hown hK hH hv20 rfl (by decide) (hts (.fieldLink RX7 28 "KindStreets$Town" "wants" "[I") (by decide +kernel)) (fun _ h9 => h9) dX7_become_90 ?_
  refine lv_iconst (v := 0) hx hb dX7_become_93 (by decide) ?_
  refine lv_bipush (v := 6) hx hb dX7_become_94 (by decide) ?_
  obtain ⟨L21, hL21, hE⟩ := Option.bind_eq_some_iff.mp hE
  refine r_cp hx hb (hml.trans hl.1.symm) hown (hts (.methodLink RX7 37 arraycopyName) (by decide +kernel)) (hts (.native arraycopyName) (by decide +kernel)) (hts (.static arraycopyName) (by decide +kernel)) (hts (.initialized "java/lang/System") (by decide +kernel)) hK hH hS hL21 (by decide) (by decide) dX7_become_96 (fun H locs hH hS => ?_)
  have hZ := Option.some.inj hE
  subst hZ
  exact W.vret hx hb hr (fun t ht hW => ⟨rfl, by rw [ht]; exact hH, hS.F ht⟩) hS.2.2 dX7_become_99
-- X7_become
def fX7_become_P (F : Nat) (L : HL) (a0 : Nat) (x1 : Nat) : Option HL := (o_ob L a0 4).bind fun _ => (o_gI L x1 6 0).bind fun v1 => (o_p L a0 4 0 (.int v1)).bind fun L2 => (o_gI L2 x1 6 1).bind fun v3 => (o_p L2 a0 4 1 (.int v3)).bind fun L4 => (o_gI L4 x1 6 2).bind fun v5 => (o_p L4 a0 4 2 (.int v5)).bind fun L6 => (o_gR L6 x1 6 3).bind fun v7 => (o_gR L6 a0 4 3).bind fun v8 => (o_cp L6 v7 0 v8 0 9).bind fun L9 => (o_gR L9 x1 6 4).bind fun v10 => (o_gR L9 a0 4 4).bind fun v11 => (o_cp L9 v10 0 v11 0 9).bind fun L12 => (o_gR L12 x1 6 5).bind fun v13 => (o_gR L12 a0 4 5).bind fun v14 => (o_cp L12 v13 0 v14 0 9).bind fun L15 => (o_gR L15 x1 6 6).bind fun v16 => (o_gR L15 a0 4 6).bind fun v17 => (o_cp L15 v16 0 v17 0 6).bind fun L18 => (o_gR L18 x1 6 7).bind fun v19 => (o_gR L18 a0 4 7).bind fun v20 => (o_cp L18 v19 0 v20 0 6).bind fun L21 => some L21
theorem oX7_become_P {F : Nat} {L : HL} {a0 : Nat} {x1 : Nat} {z : HL} (hE : fX7_become_P F L a0 x1 = some z) : o_ob L a0 4 = some () := by
  obtain ⟨_, h, _⟩ := Option.bind_eq_some_iff.mp hE
  exact h
set_option maxHeartbeats 4000000 in
set_option maxRecDepth 100000 in
theorem sX7_become_P (l : Launch) (b0 : Nat) (D : va_G) (cA : Nat → ClassId) {F : Nat} {L : HL} {a0 : Nat} {x1 : Nat} {z : HL} (hE : fX7_become_P F L a0 x1 = some z) : Met l yX7_become wsX7_become (RM 1 0 0) (Pk b0 D cA [.ref (b0 + a0), .ref (b0 + x1)] L) (Qk b0 D cA none z) 0 0 (Ab b0) := by
  refine Met.ofW (cc := cX7_become) (maxL := 2) (ret := none) (by decide) rfl ?_
  intro p ev s m args below meth c s₁ B hml hv
  obtain ⟨rfl, hH, hK⟩ := hv
  have hx := B.exec
  have hb := B.bytes
  have hr := B.returns
  have hts := atoms_spec (ws := wsX7_become) B.pre
  have hown : s.vm.findClass RX7 = some m.cls := findClass_of_methodNamed B.named
  have hlocks := B.notSynchronized
  have hC : Cx D cA p s m _ meth c cX7_become 2 RX7 wsX7_become none := ⟨hx, hb, hml, hown, hts, hK, hr, hlocks⟩
  have hS : va_S (Ab b0) s.heap s.heap [] := va_S.rf
  have hl := lv_entry ([.ref (b0 + a0), .ref (b0 + x1)]) (n := 2) (Nat.le_of_ble_eq_true rfl)
  rw [lg_entry_eq]
  generalize (lg_sl ([.ref (b0 + a0), .ref (b0 + x1)]) ++ List.replicate (2 - (lg_sl ([.ref (b0 + a0), .ref (b0 + x1)])).length) Slot.unset).toArray = ls at hl ⊢
  have hl : lv_has ls 2 [(0, .ref (b0 + a0)), (1, .ref (b0 + x1))] := hl
  unfold fX7_become_P at hE
  obtain ⟨_, _, hE⟩ := Option.bind_eq_some_iff.mp hE
  refine lv_aload_n hx hb dX7_become_0 rfl (lv_at hl 0 rfl) ?_
  refine lv_aload_n hx hb dX7_become_1 rfl (lv_at hl 1 rfl) ?_
  obtain ⟨v1, hv1, hE⟩ := Option.bind_eq_some_iff.mp hE
  refine r_gI 0 (C := RX7) (T := TX7) (N := 8) (ci := 6) hx hb hts (by decide +kernel) hown hK hH hv1 rfl (by decide) (hts (.fieldLink RX7 9 "KindStreets$Town" "yards" "I") (by decide +kernel)) (fun _ h9 => h9) dX7_become_2 ?_
  obtain ⟨L2, hL2, hE⟩ := Option.bind_eq_some_iff.mp hE
  refine r_p 0 (v := .int v1) (ty := .int) (C := RX4) (T := TX4) (N := 9) (ci := 4) hx hb hts (by decide +kernel) tyX4 tyX4_ok nmX4 hown hK hH hS hL2 rfl (by decide) (hts (.fieldLink RX7 9 "KindStreets$Town" "yards" "I") (by decide +kernel)) (fun _ h9 => h9) rfl (by decide +kernel) rfl rfl dX7_become_5 (fun H locs hH hS => ?_)
  refine lv_aload_n hx hb dX7_become_8 rfl (lv_at hl 0 rfl) ?_
  refine lv_aload_n hx hb dX7_become_9 rfl (lv_at hl 1 rfl) ?_
  obtain ⟨v3, hv3, hE⟩ := Option.bind_eq_some_iff.mp hE
  refine r_gI 1 (C := RX7) (T := TX7) (N := 8) (ci := 6) hx hb hts (by decide +kernel) hown hK hH hv3 rfl (by decide) (hts (.fieldLink RX7 31 "KindStreets$Town" "streets" "I") (by decide +kernel)) (fun _ h9 => h9) dX7_become_10 ?_
  obtain ⟨L4, hL4, hE⟩ := Option.bind_eq_some_iff.mp hE
  refine r_p 1 (v := .int v3) (ty := .int) (C := RX4) (T := TX4) (N := 9) (ci := 4) hx hb hts (by decide +kernel) tyX4 tyX4_ok nmX4 hown hK hH hS hL4 rfl (by decide) (hts (.fieldLink RX7 31 "KindStreets$Town" "streets" "I") (by decide +kernel)) (fun _ h9 => h9) rfl (by decide +kernel) rfl rfl dX7_become_13 (fun H locs hH hS => ?_)
  refine lv_aload_n hx hb dX7_become_16 rfl (lv_at hl 0 rfl) ?_
  refine lv_aload_n hx hb dX7_become_17 rfl (lv_at hl 1 rfl) ?_
  obtain ⟨v5, hv5, hE⟩ := Option.bind_eq_some_iff.mp hE
  refine r_gI 2 (C := RX7) (T := TX7) (N := 8) (ci := 6) hx hb hts (by decide +kernel) hown hK hH hv5 rfl (by decide) (hts (.fieldLink RX7 34 "KindStreets$Town" "citizens" "I") (by decide +kernel)) (fun _ h9 => h9) dX7_become_18 ?_
  obtain ⟨L6, hL6, hE⟩ := Option.bind_eq_some_iff.mp hE
  refine r_p 2 (v := .int v5) (ty := .int) (C := RX4) (T := TX4) (N := 9) (ci := 4) hx hb hts (by decide +kernel) tyX4 tyX4_ok nmX4 hown hK hH hS hL6 rfl (by decide) (hts (.fieldLink RX7 34 "KindStreets$Town" "citizens" "I") (by decide +kernel)) (fun _ h9 => h9) rfl (by decide +kernel) rfl rfl dX7_become_21 (fun H locs hH hS => ?_)
  refine lv_aload_n hx hb dX7_become_24 rfl (lv_at hl 1 rfl) ?_
  obtain ⟨v7, hv7, hE⟩ := Option.bind_eq_some_iff.mp hE
  refine r_gR 3 (C := RX7) (T := TX7) (N := 8) (ci := 6) hx hb hts (by decide +kernel) hown hK hH hv7 rfl (by decide) (hts (.fieldLink RX7 15 "KindStreets$Town" "one" "[I") (by decide +kernel)) (fun _ h9 => h9) dX7_become_25 ?_
  refine lv_iconst (v := 0) hx hb dX7_become_28 (by decide) ?_
  refine lv_aload_n hx hb dX7_become_29 rfl (lv_at hl 0 rfl) ?_
  obtain ⟨v8, hv8, hE⟩ := Option.bind_eq_some_iff.mp hE
  refine r_gR 3 (C := RX4) (T := TX4) (N := 9) (ci := 4) hx hb hts (by decide +kernel) hown hK hH hv8 rfl (by decide) (hts (.fieldLink RX7 15 "KindStreets$Town" "one" "[I") (by decide +kernel)) (fun _ h9 => h9) dX7_become_30 ?_
  refine lv_iconst (v := 0) hx hb dX7_become_33 (by decide) ?_
  refine lv_bipush (v := 9) hx hb dX7_become_34 (by decide) ?_
  obtain ⟨L9, hL9, hE⟩ := Option.bind_eq_some_iff.mp hE
  refine r_cp hx hb (hml.trans hl.1.symm) hown (hts (.methodLink RX7 37 arraycopyName) (by decide +kernel)) (hts (.native arraycopyName) (by decide +kernel)) (hts (.static arraycopyName) (by decide +kernel)) (hts (.initialized "java/lang/System") (by decide +kernel)) hK hH hS hL9 (by decide) (by decide) dX7_become_36 (fun H locs hH hS => ?_)
  refine lv_aload_n hx hb dX7_become_39 rfl (lv_at hl 1 rfl) ?_
  obtain ⟨v10, hv10, hE⟩ := Option.bind_eq_some_iff.mp hE
  refine r_gR 4 (C := RX7) (T := TX7) (N := 8) (ci := 6) hx hb hts (by decide +kernel) hown hK hH hv10 rfl (by decide) (hts (.fieldLink RX7 19 "KindStreets$Town" "other" "[I") (by decide +kernel)) (fun _ h9 => h9) dX7_become_40 ?_
  refine lv_iconst (v := 0) hx hb dX7_become_43 (by decide) ?_
  refine lv_aload_n hx hb dX7_become_44 rfl (lv_at hl 0 rfl) ?_
  obtain ⟨v11, hv11, hE⟩ := Option.bind_eq_some_iff.mp hE
  refine r_gR 4 (C := RX4) (T := TX4) (N := 9) (ci := 4) hx hb hts (by decide +kernel) hown hK hH hv11 rfl (by decide) (hts (.fieldLink RX7 19 "KindStreets$Town" "other" "[I") (by decide +kernel)) (fun _ h9 => h9) dX7_become_45 ?_
  refine lv_iconst (v := 0) hx hb dX7_become_48 (by decide) ?_
  refine lv_bipush (v := 9) hx hb dX7_become_49 (by decide) ?_
  obtain ⟨L12, hL12, hE⟩ := Option.bind_eq_some_iff.mp hE
  refine r_cp hx hb (hml.trans hl.1.symm) hown (hts (.methodLink RX7 37 arraycopyName) (by decide +kernel)) (hts (.native arraycopyName) (by decide +kernel)) (hts (.static arraycopyName) (by decide +kernel)) (hts (.initialized "java/lang/System") (by decide +kernel)) hK hH hS hL12 (by decide) (by decide) dX7_become_51 (fun H locs hH hS => ?_)
  refine lv_aload_n hx hb dX7_become_54 rfl (lv_at hl 1 rfl) ?_
  obtain ⟨v13, hv13, hE⟩ := Option.bind_eq_some_iff.mp hE
  refine r_gR 5 (C := RX7) (T := TX7) (N := 8) (ci := 6) hx hb hts (by decide +kernel) hown hK hH hv13 rfl (by decide) (hts (.fieldLink RX7 22 "KindStreets$Town" "old" "[I") (by decide +kernel)) (fun _ h9 => h9) dX7_become_55 ?_
  refine lv_iconst (v := 0) hx hb dX7_become_58 (by decide) ?_
  refine lv_aload_n hx hb dX7_become_59 rfl (lv_at hl 0 rfl) ?_
  obtain ⟨v14, hv14, hE⟩ := Option.bind_eq_some_iff.mp hE
  refine r_gR 5 (C := RX4) (T := TX4) (N := 9) (ci := 4) hx hb hts (by decide +kernel) hown hK hH hv14 rfl (by decide) (hts (.fieldLink RX7 22 "KindStreets$Town" "old" "[I") (by decide +kernel)) (fun _ h9 => h9) dX7_become_60 ?_
  refine lv_iconst (v := 0) hx hb dX7_become_63 (by decide) ?_
  refine lv_bipush (v := 9) hx hb dX7_become_64 (by decide) ?_
  obtain ⟨L15, hL15, hE⟩ := Option.bind_eq_some_iff.mp hE
  refine r_cp hx hb (hml.trans hl.1.symm) hown (hts (.methodLink RX7 37 arraycopyName) (by decide +kernel)) (hts (.native arraycopyName) (by decide +kernel)) (hts (.static arraycopyName) (by decide +kernel)) (hts (.initialized "java/lang/System") (by decide +kernel)) hK hH hS hL15 (by decide) (by decide) dX7_become_66 (fun H locs hH hS => ?_)
  refine lv_aload_n hx hb dX7_become_69 rfl (lv_at hl 1 rfl) ?_
  obtain ⟨v16, hv16, hE⟩ := Option.bind_eq_some_iff.mp hE
  refine r_gR 6 (C := RX7) (T := TX7) (N := 8) (ci := 6) hx hb hts (by decide +kernel) hown hK hH hv16 rfl (by decide) (hts (.fieldLink RX7 25 "KindStreets$Town" "home" "[I") (by decide +kernel)) (fun _ h9 => h9) dX7_become_70 ?_
  refine lv_iconst (v := 0) hx hb dX7_become_73 (by decide) ?_
  refine lv_aload_n hx hb dX7_become_74 rfl (lv_at hl 0 rfl) ?_
  obtain ⟨v17, hv17, hE⟩ := Option.bind_eq_some_iff.mp hE
  refine r_gR 6 (C := RX4) (T := TX4) (N := 9) (ci := 4) hx hb hts (by decide +kernel) hown hK hH hv17 rfl (by decide) (hts (.fieldLink RX7 25 "KindStreets$Town" "home" "[I") (by decide +kernel)) (fun _ h9 => h9) dX7_become_75 ?_
  refine lv_iconst (v := 0) hx hb dX7_become_78 (by decide) ?_
  refine lv_bipush (v := 6) hx hb dX7_become_79 (by decide) ?_
  obtain ⟨L18, hL18, hE⟩ := Option.bind_eq_some_iff.mp hE
  refine r_cp hx hb (hml.trans hl.1.symm) hown (hts (.methodLink RX7 37 arraycopyName) (by decide +kernel)) (hts (.native arraycopyName) (by decide +kernel)) (hts (.static arraycopyName) (by decide +kernel)) (hts (.initialized "java/lang/System") (by decide +kernel)) hK hH hS hL18 (by decide) (by decide) dX7_become_81 (fun H locs hH hS => ?_)
  refine lv_aload_n hx hb dX7_become_84 rfl (lv_at hl 1 rfl) ?_
  obtain ⟨v19, hv19, hE⟩ := Option.bind_eq_some_iff.mp hE
  refine r_gR 7 (C := RX7) (T := TX7) (N := 8) (ci := 6) hx hb hts (by decide +kernel) hown hK hH hv19 rfl (by decide) (hts (.fieldLink RX7 28 "KindStreets$Town" "wants" "[I") (by decide +kernel)) (fun _ h9 => h9) dX7_become_85 ?_
  refine lv_iconst (v := 0) hx hb dX7_become_88 (by decide) ?_
  refine lv_aload_n hx hb dX7_become_89 rfl (lv_at hl 0 rfl) ?_
  obtain ⟨v20, hv20, hE⟩ := Option.bind_eq_some_iff.mp hE
  refine r_gR 7 (C := RX4) (T := TX4) (N := 9) (ci := 4) hx hb hts (by decide +kernel) hown hK hH hv20 rfl (by decide) (hts (.fieldLink RX7 28 "KindStreets$Town" "wants" "[I") (by decide +kernel)) (fun _ h9 => h9) dX7_become_90 ?_
  refine lv_iconst (v := 0) hx hb dX7_become_93 (by decide) ?_
  refine lv_bipush (v := 6) hx hb dX7_become_94 (by decide) ?_
  obtain ⟨L21, hL21, hE⟩ := Option.bind_eq_some_iff.mp hE
  refine r_cp hx hb (hml.trans hl.1.symm) hown (hts (.methodLink RX7 37 arraycopyName) (by decide +kernel)) (hts (.native arraycopyName) (by decide +kernel)) (hts (.static arraycopyName) (by decide +kernel)) (hts (.initialized "java/lang/System") (by decide +kernel)) hK hH hS hL21 (by decide) (by decide) dX7_become_96 (fun H locs hH hS => ?_)
  have hZ := Option.some.inj hE
  subst hZ
  exact W.vret hx hb hr (fun t ht hW => ⟨rfl, by rw [ht]; exact hH, hS.F ht⟩) hS.2.2 dX7_become_99
-- X7_endsOf
def fX7_endsOf_T (F : Nat) (L : HL) (a0 : Nat) (x1 : Int32) : Option (Int32 × HL) := (o_ob L a0 6).bind fun _ => (o_gR L a0 6 3).bind fun v1 => (o_aI L v1 0 x1).bind fun v2 => (o_gR L a0 6 4).bind fun v3 => (o_aI L v3 0 x1).bind fun v4 => some (((1 : Int32) <<< (v2 &&& 31)) ||| ((1 : Int32) <<< (v4 &&& 31)), L)
theorem oX7_endsOf_T {F : Nat} {L : HL} {a0 : Nat} {x1 : Int32} {z : (Int32 × HL)} (hE : fX7_endsOf_T F L a0 x1 = some z) : o_ob L a0 6 = some () := by
  obtain ⟨_, h, _⟩ := Option.bind_eq_some_iff.mp hE
  exact h
set_option maxHeartbeats 4000000 in
set_option maxRecDepth 100000 in
theorem sX7_endsOf_T (l : Launch) (b0 : Nat) (D : va_G) (cA : Nat → ClassId) {F : Nat} {L : HL} {a0 : Nat} {x1 : Int32} {z : (Int32 × HL)} (hE : fX7_endsOf_T F L a0 x1 = some z) : Met l yX7_endsOf wsX7_endsOf (RM 0 0 0) (Pk b0 D cA [.ref (b0 + a0), .int x1] L) (Qk b0 D cA (some (.int z.1)) z.2) 0 0 (Ab b0) := by
  refine Met.ofW (cc := cX7_endsOf) (maxL := 2) (ret := (some .int)) (by decide) rfl ?_
  intro p ev s m args below meth c s₁ B hml hv
  obtain ⟨rfl, hH, hK⟩ := hv
  have hx := B.exec
  have hb := B.bytes
  have hr := B.returns
  have hts := atoms_spec (ws := wsX7_endsOf) B.pre
  have hown : s.vm.findClass RX7 = some m.cls := findClass_of_methodNamed B.named
  have hlocks := B.notSynchronized
  have hC : Cx D cA p s m _ meth c cX7_endsOf 2 RX7 wsX7_endsOf (some .int) := ⟨hx, hb, hml, hown, hts, hK, hr, hlocks⟩
  have hS : va_S (Ab b0) s.heap s.heap [] := va_S.rf
  have hl := lv_entry ([.ref (b0 + a0), .int x1]) (n := 2) (Nat.le_of_ble_eq_true rfl)
  rw [lg_entry_eq]
  generalize (lg_sl ([.ref (b0 + a0), .int x1]) ++ List.replicate (2 - (lg_sl ([.ref (b0 + a0), .int x1])).length) Slot.unset).toArray = ls at hl ⊢
  have hl : lv_has ls 2 [(0, .ref (b0 + a0)), (1, .int x1)] := hl
  unfold fX7_endsOf_T at hE
  obtain ⟨_, _, hE⟩ := Option.bind_eq_some_iff.mp hE
  refine lv_iconst (v := 1) hx hb dX7_endsOf_0 (by decide) ?_
  refine lv_aload_n hx hb dX7_endsOf_1 rfl (lv_at hl 0 rfl) ?_
  obtain ⟨v1, hv1, hE⟩ := Option.bind_eq_some_iff.mp hE
  refine r_gR 3 (C := RX7) (T := TX7) (N := 8) (ci := 6) hx hb hts (by decide +kernel) hown hK hH hv1 rfl (by decide) (hts (.fieldLink RX7 15 "KindStreets$Town" "one" "[I") (by decide +kernel)) (fun _ h9 => h9) dX7_endsOf_2 ?_
  refine lv_iload_n hx hb dX7_endsOf_5 rfl (lv_at hl 1 rfl) ?_
  obtain ⟨v2, hv2, hE⟩ := Option.bind_eq_some_iff.mp hE
  refine r_iald hx hb hK hH hv2 dX7_endsOf_6 ?_
  refine lv_ishl hx hb dX7_endsOf_7 ?_
  refine lv_iconst (v := 1) hx hb dX7_endsOf_8 (by decide) ?_
  refine lv_aload_n hx hb dX7_endsOf_9 rfl (lv_at hl 0 rfl) ?_
  obtain ⟨v3, hv3, hE⟩ := Option.bind_eq_some_iff.mp hE
  refine r_gR 4 (C := RX7) (T := TX7) (N := 8) (ci := 6) hx hb hts (by decide +kernel) hown hK hH hv3 rfl (by decide) (hts (.fieldLink RX7 19 "KindStreets$Town" "other" "[I") (by decide +kernel)) (fun _ h9 => h9) dX7_endsOf_10 ?_
  refine lv_iload_n hx hb dX7_endsOf_13 rfl (lv_at hl 1 rfl) ?_
  obtain ⟨v4, hv4, hE⟩ := Option.bind_eq_some_iff.mp hE
  refine r_iald hx hb hK hH hv4 dX7_endsOf_14 ?_
  refine lv_ishl hx hb dX7_endsOf_15 ?_
  refine lv_ior hx hb dX7_endsOf_16 ?_
  have hZ := Option.some.inj hE
  subst hZ
  exact W.iret (v := (((1 : Int32) <<< (v2 &&& 31)) ||| ((1 : Int32) <<< (v4 &&& 31)))) hx hb hr (fun t ht hW => ⟨rfl, by rw [ht]; exact hH, hS.F ht⟩) hS.2.2 dX7_endsOf_17
-- X7_endsOf
def fX7_endsOf_P (F : Nat) (L : HL) (a0 : Nat) (x1 : Int32) : Option (Int32 × HL) := (o_ob L a0 4).bind fun _ => (o_gR L a0 4 3).bind fun v1 => (o_aI L v1 0 x1).bind fun v2 => (o_gR L a0 4 4).bind fun v3 => (o_aI L v3 0 x1).bind fun v4 => some (((1 : Int32) <<< (v2 &&& 31)) ||| ((1 : Int32) <<< (v4 &&& 31)), L)
theorem oX7_endsOf_P {F : Nat} {L : HL} {a0 : Nat} {x1 : Int32} {z : (Int32 × HL)} (hE : fX7_endsOf_P F L a0 x1 = some z) : o_ob L a0 4 = some () := by
  obtain ⟨_, h, _⟩ := Option.bind_eq_some_iff.mp hE
  exact h
set_option maxHeartbeats 4000000 in
set_option maxRecDepth 100000 in
theorem sX7_endsOf_P (l : Launch) (b0 : Nat) (D : va_G) (cA : Nat → ClassId) {F : Nat} {L : HL} {a0 : Nat} {x1 : Int32} {z : (Int32 × HL)} (hE : fX7_endsOf_P F L a0 x1 = some z) : Met l yX7_endsOf wsX7_endsOf (RM 0 0 0) (Pk b0 D cA [.ref (b0 + a0), .int x1] L) (Qk b0 D cA (some (.int z.1)) z.2) 0 0 (Ab b0) := by
  refine Met.ofW (cc := cX7_endsOf) (maxL := 2) (ret := (some .int)) (by decide) rfl ?_
  intro p ev s m args below meth c s₁ B hml hv
  obtain ⟨rfl, hH, hK⟩ := hv
  have hx := B.exec
  have hb := B.bytes
  have hr := B.returns
  have hts := atoms_spec (ws := wsX7_endsOf) B.pre
  have hown : s.vm.findClass RX7 = some m.cls := findClass_of_methodNamed B.named
  have hlocks := B.notSynchronized
  have hC : Cx D cA p s m _ meth c cX7_endsOf 2 RX7 wsX7_endsOf (some .int) := ⟨hx, hb, hml, hown, hts, hK, hr, hlocks⟩
  have hS : va_S (Ab b0) s.heap s.heap [] := va_S.rf
  have hl := lv_entry ([.ref (b0 + a0), .int x1]) (n := 2) (Nat.le_of_ble_eq_true rfl)
  rw [lg_entry_eq]
  generalize (lg_sl ([.ref (b0 + a0), .int x1]) ++ List.replicate (2 - (lg_sl ([.ref (b0 + a0), .int x1])).length) Slot.unset).toArray = ls at hl ⊢
  have hl : lv_has ls 2 [(0, .ref (b0 + a0)), (1, .int x1)] := hl
  unfold fX7_endsOf_P at hE
  obtain ⟨_, _, hE⟩ := Option.bind_eq_some_iff.mp hE
  refine lv_iconst (v := 1) hx hb dX7_endsOf_0 (by decide) ?_
  refine lv_aload_n hx hb dX7_endsOf_1 rfl (lv_at hl 0 rfl) ?_
  obtain ⟨v1, hv1, hE⟩ := Option.bind_eq_some_iff.mp hE
  refine r_gR 3 (C := RX4) (T := TX4) (N := 9) (ci := 4) hx hb hts (by decide +kernel) hown hK hH hv1 rfl (by decide) (hts (.fieldLink RX7 15 "KindStreets$Town" "one" "[I") (by decide +kernel)) (fun _ h9 => h9) dX7_endsOf_2 ?_
  refine lv_iload_n hx hb dX7_endsOf_5 rfl (lv_at hl 1 rfl) ?_
  obtain ⟨v2, hv2, hE⟩ := Option.bind_eq_some_iff.mp hE
  refine r_iald hx hb hK hH hv2 dX7_endsOf_6 ?_
  refine lv_ishl hx hb dX7_endsOf_7 ?_
  refine lv_iconst (v := 1) hx hb dX7_endsOf_8 (by decide) ?_
  refine lv_aload_n hx hb dX7_endsOf_9 rfl (lv_at hl 0 rfl) ?_
  obtain ⟨v3, hv3, hE⟩ := Option.bind_eq_some_iff.mp hE
  refine r_gR 4 (C := RX4) (T := TX4) (N := 9) (ci := 4) hx hb hts (by decide +kernel) hown hK hH hv3 rfl (by decide) (hts (.fieldLink RX7 19 "KindStreets$Town" "other" "[I") (by decide +kernel)) (fun _ h9 => h9) dX7_endsOf_10 ?_
  refine lv_iload_n hx hb dX7_endsOf_13 rfl (lv_at hl 1 rfl) ?_
  obtain ⟨v4, hv4, hE⟩ := Option.bind_eq_some_iff.mp hE
  refine r_iald hx hb hK hH hv4 dX7_endsOf_14 ?_
  refine lv_ishl hx hb dX7_endsOf_15 ?_
  refine lv_ior hx hb dX7_endsOf_16 ?_
  have hZ := Option.some.inj hE
  subst hZ
  exact W.iret (v := (((1 : Int32) <<< (v2 &&& 31)) ||| ((1 : Int32) <<< (v4 &&& 31)))) hx hb hr (fun t ht hW => ⟨rfl, by rw [ht]; exact hH, hS.F ht⟩) hS.2.2 dX7_endsOf_17
-- X4_draw
def fX4_draw_b7c (F : Nat) (k7 : Nat → Nat → Nat → Int32 → HL → Option HL) (a0 : Nat) (x1 : Nat) (x2 : Nat) (x3 : Int32) (L : HL) : Option HL := (o_gI L x1 6 1).bind fun v2 => if v2 ≤ x3 then (some L) else ((o_gR L a0 4 8).bind fun v4 => (fX2_widthOf F L x2 x3).bind fun z5 => (o_sI z5.2 v4 0 x3 z5.1).bind fun L6 => k7 a0 x1 x2 (x3 + 1) L6)
def fX4_draw_b7 (F : Nat) : Nat → Nat → Nat → Nat → Int32 → HL → Option HL
  | 0 => fun _ _ _ _ _ => none
  | n + 1 => fun a0 x1 x2 x3 L => fX4_draw_b7c F (fX4_draw_b7 F n) a0 x1 x2 x3 L
set_option maxHeartbeats 4000000 in
set_option maxRecDepth 100000 in
theorem sX4_draw_b7c {b0 : Nat} {D : va_G} {cA : Nat → ClassId} {p : Program} {l : Launch} {ev : Env} {s : State} {m : MethodId} {args : Array Value} {below : List Frame} {meth : Method} {c : Code} {F : Nat} {z : HL} {k7 : Nat → Nat → Nat → Int32 → HL → Option HL} {a0 : Nat} {x1 : Nat} {x2 : Nat} {x3 : Int32} {L : HL} (hC : Cx D cA p s m args meth c cX4_draw 4 RX4 wsX4_draw none) (hk7 : ∀ (a0' : Nat) (x1' : Nat) (x2' : Nat) (x3' : Int32) (L' : HL), k7 a0' x1' x2' x3' L' = some z → WB b0 D cA p l ev (RM 3 0 0) s m args below meth c 4 0 0 (MQ below (Qk b0 D cA none z) args s 0 0 (Ab b0)) 7 [(0, .ref (b0 + a0')), (1, .ref (b0 + x1')), (2, .ref (b0 + x2')), (3, .int x3')] [] L') (hE : fX4_draw_b7c F k7 a0 x1 x2 x3 L = some z) : WB b0 D cA p l ev (RM 3 0 0) s m args below meth c 4 0 0 (MQ below (Qk b0 D cA none z) args s 0 0 (Ab b0)) 7 [(0, .ref (b0 + a0)), (1, .ref (b0 + x1)), (2, .ref (b0 + x2)), (3, .int x3)] [] L := by
  obtain ⟨hx, hb, hml, hown, hts, hK, hr, hlocks⟩ := id hC
  intro H locs ls hH hS hl
  unfold fX4_draw_b7c at hE
  refine lv_iload_n hx hb dX4_draw_7 rfl (lv_at hl 3 rfl) ?_
  refine lv_aload_n hx hb dX4_draw_8 rfl (lv_at hl 1 rfl) ?_
  obtain ⟨v2, hv2, hE⟩ := Option.bind_eq_some_iff.mp hE
  refine r_gI 1 (C := RX7) (T := TX7) (N := 8) (ci := 6) hx hb hts (by decide +kernel) hown hK hH hv2 rfl (by decide) (hts (.fieldLink RX4 19 "KindStreets$Town" "streets" "I") (by decide +kernel)) (fun _ h9 => h9) dX4_draw_9 ?_
  refine lv_icmp_ge (tgt := 32) hx hb dX4_draw_12 (by decide) (fun c3 => ?_) (fun c3 => ?_)
  · rw [if_pos c3] at hE
    have hZ := Option.some.inj hE
    subst hZ
    exact W.vret hx hb hr (fun t ht hW => ⟨rfl, by rw [ht]; exact hH, hS.F ht⟩) hS.2.2 dX4_draw_32
  · rw [if_neg c3] at hE
    refine lv_aload_n hx hb dX4_draw_15 rfl (lv_at hl 0 rfl) ?_
    obtain ⟨v4, hv4, hE⟩ := Option.bind_eq_some_iff.mp hE
    refine r_gR 8 (C := RX4) (T := TX4) (N := 9) (ci := 4) hx hb hts (by decide +kernel) hown hK hH hv4 rfl (by decide) (hts (.fieldLink RX4 9 "KindStreets$Plan" "width" "[I") (by decide +kernel)) (fun _ h9 => h9) dX4_draw_16 ?_
    refine lv_iload_n hx hb dX4_draw_19 rfl (lv_at hl 3 rfl) ?_
    refine lv_aload_n hx hb dX4_draw_20 rfl (lv_at hl 2 rfl) ?_
    refine lv_iload_n hx hb dX4_draw_21 rfl (lv_at hl 3 rfl) ?_
    obtain ⟨z5, hz5, hE⟩ := Option.bind_eq_some_iff.mp hE
    refine r_callI (va_runV (As := [.int x3]) (rest := [.int x3, .ref (b0 + v4)]) ⟨hx, hb, hml, hown, hts⟩ (sX2_widthOf l b0 D cA hz5) (cwV 1 hts gX4_draw_X2_widthOf rfl rfl rfl (by decide +kernel) (rm_ok (by decide) (by decide))) (pre_V (ci := 2) hK hH (oX2_widthOf hz5) rfl) rfl rfl hl.1 rfl (lv_room (Nat.le_of_ble_eq_true rfl)) dX4_draw_22 ⟨Nat.zero_le _, Nat.zero_le _⟩) hS (fun H locs hH hS => ?_)
    obtain ⟨L6, hL6, hE⟩ := Option.bind_eq_some_iff.mp hE
    refine r_iast hx hb hK hH hS hL6 dX4_draw_25 (fun H locs hH hS => ?_)
    refine lv_iinc (v := (x3 + 1)) (lv' := [(3, .int (x3 + 1)), (0, .ref (b0 + a0)), (1, .ref (b0 + x1)), (2, .ref (b0 + x2))]) hx hb dX4_draw_26 hl (k := 3) rfl rfl (by decide) rfl (fun ls hl => ?_)
    refine lv_goto (tgt := 7) hx hb dX4_draw_29 (by decide) ?_
    exact hk7 _ _ _ _ _ hE _ _ _ hH hS (lv_sub hl [1, 2, 3, 0] rfl)
theorem sX4_draw_b7 {b0 : Nat} {D : va_G} {cA : Nat → ClassId} {p : Program} {l : Launch} {ev : Env} {s : State} {m : MethodId} {args : Array Value} {below : List Frame} {meth : Method} {c : Code} {F : Nat} {z : HL} (hC : Cx D cA p s m args meth c cX4_draw 4 RX4 wsX4_draw none) : ∀ (n : Nat) (a0 : Nat) (x1 : Nat) (x2 : Nat) (x3 : Int32) (L : HL), fX4_draw_b7 F n a0 x1 x2 x3 L = some z → WB b0 D cA p l ev (RM 3 0 0) s m args below meth c 4 0 0 (MQ below (Qk b0 D cA none z) args s 0 0 (Ab b0)) 7 [(0, .ref (b0 + a0)), (1, .ref (b0 + x1)), (2, .ref (b0 + x2)), (3, .int x3)] [] L := by
  intro n
  induction n with
  | zero => intro a0 x1 x2 x3 L hE; cases hE
  | succ n ih => intro a0 x1 x2 x3 L hE; exact sX4_draw_b7c (F := F) hC ih hE
def fX4_draw (F : Nat) (L : HL) (a0 : Nat) (x1 : Nat) (x2 : Nat) : Option HL := (o_ob L a0 4).bind fun _ => (fX7_become_P F L a0 x1).bind fun z1 => fX4_draw_b7 F F a0 x1 x2 0 z1
theorem oX4_draw {F : Nat} {L : HL} {a0 : Nat} {x1 : Nat} {x2 : Nat} {z : HL} (hE : fX4_draw F L a0 x1 x2 = some z) : o_ob L a0 4 = some () := by
  obtain ⟨_, h, _⟩ := Option.bind_eq_some_iff.mp hE
  exact h
set_option maxHeartbeats 4000000 in
set_option maxRecDepth 100000 in
theorem sX4_draw (l : Launch) (b0 : Nat) (D : va_G) (cA : Nat → ClassId) {F : Nat} {L : HL} {a0 : Nat} {x1 : Nat} {x2 : Nat} {z : HL} (hE : fX4_draw F L a0 x1 x2 = some z) : Met l yX4_draw wsX4_draw (RM 3 0 0) (Pk b0 D cA [.ref (b0 + a0), .ref (b0 + x1), .ref (b0 + x2)] L) (Qk b0 D cA none z) 0 0 (Ab b0) := by
  refine Met.ofW (cc := cX4_draw) (maxL := 4) (ret := none) (by decide) rfl ?_
  intro p ev s m args below meth c s₁ B hml hv
  obtain ⟨rfl, hH, hK⟩ := hv
  have hx := B.exec
  have hb := B.bytes
  have hr := B.returns
  have hts := atoms_spec (ws := wsX4_draw) B.pre
  have hown : s.vm.findClass RX4 = some m.cls := findClass_of_methodNamed B.named
  have hlocks := B.notSynchronized
  have hC : Cx D cA p s m _ meth c cX4_draw 4 RX4 wsX4_draw none := ⟨hx, hb, hml, hown, hts, hK, hr, hlocks⟩
  have hS : va_S (Ab b0) s.heap s.heap [] := va_S.rf
  have hl := lv_entry ([.ref (b0 + a0), .ref (b0 + x1), .ref (b0 + x2)]) (n := 4) (Nat.le_of_ble_eq_true rfl)
  rw [lg_entry_eq]
  generalize (lg_sl ([.ref (b0 + a0), .ref (b0 + x1), .ref (b0 + x2)]) ++ List.replicate (4 - (lg_sl ([.ref (b0 + a0), .ref (b0 + x1), .ref (b0 + x2)])).length) Slot.unset).toArray = ls at hl ⊢
  have hl : lv_has ls 4 [(0, .ref (b0 + a0)), (1, .ref (b0 + x1)), (2, .ref (b0 + x2))] := hl
  unfold fX4_draw at hE
  obtain ⟨_, _, hE⟩ := Option.bind_eq_some_iff.mp hE
  refine lv_aload_n hx hb dX4_draw_0 rfl (lv_at hl 0 rfl) ?_
  refine lv_aload_n hx hb dX4_draw_1 rfl (lv_at hl 1 rfl) ?_
  obtain ⟨z1, hz1, hE⟩ := Option.bind_eq_some_iff.mp hE
  refine r_callV (va_runU (As := [.ref (b0 + x1)]) (rest := []) ⟨hx, hb, hml, hown, hts⟩ (sX7_become_P l b0 D cA hz1) (va_cwU 1 hts gX4_draw_X7_become_u15X4 rfl rfl rfl rfl (by decide +kernel) (rm_ok (by decide) (by decide))) (pre_V (ci := 4) hK hH (oX7_become_P hz1) rfl) rfl rfl hl.1 rfl (lv_room (Nat.le_of_ble_eq_true rfl)) dX4_draw_2 ⟨Nat.zero_le _, Nat.zero_le _⟩) hS (fun H locs hH hS => ?_)
  refine lv_iconst (v := 0) hx hb dX4_draw_5 (by decide) ?_
  refine lv_istore_n (lv' := [(3, .int 0), (0, .ref (b0 + a0)), (1, .ref (b0 + x1)), (2, .ref (b0 + x2))]) hx hb dX4_draw_6 rfl hl (by decide) rfl (fun ls hl => ?_)
  exact sX4_draw_b7 (F := F) hC F _ _ _ _ _ hE _ _ _ hH hS (lv_sub hl [1, 2, 3, 0] rfl)
-- X4_leadsOut
def fX4_leadsOut (F : Nat) (L : HL) (a0 : Nat) (x1 : Int32) (x2 : Int32) : Option (Int32 × HL) := (o_ob L a0 4).bind fun _ => (o_gR L a0 4 3).bind fun v1 => (o_aI L v1 0 x1).bind fun v2 => (fX5_has F L x2 v2).bind fun z3 => (o_gR z3.2 a0 4 4).bind fun v4 => (o_aI z3.2 v4 0 x1).bind fun v5 => (fX5_has F z3.2 x2 v5).bind fun z6 => if z3.1 = z6.1 then (some (0, z6.2)) else (some (1, z6.2))
theorem oX4_leadsOut {F : Nat} {L : HL} {a0 : Nat} {x1 : Int32} {x2 : Int32} {z : (Int32 × HL)} (hE : fX4_leadsOut F L a0 x1 x2 = some z) : o_ob L a0 4 = some () := by
  obtain ⟨_, h, _⟩ := Option.bind_eq_some_iff.mp hE
  exact h
set_option maxHeartbeats 4000000 in
set_option maxRecDepth 100000 in
theorem sX4_leadsOut (l : Launch) (b0 : Nat) (D : va_G) (cA : Nat → ClassId) {F : Nat} {L : HL} {a0 : Nat} {x1 : Int32} {x2 : Int32} {z : (Int32 × HL)} (hE : fX4_leadsOut F L a0 x1 x2 = some z) : Met l yX4_leadsOut wsX4_leadsOut (RM 1 0 0) (Pk b0 D cA [.ref (b0 + a0), .int x1, .int x2] L) (Qk b0 D cA (some (.int z.1)) z.2) 0 0 (Ab b0) := by
  refine Met.ofW (cc := cX4_leadsOut) (maxL := 3) (ret := (some .boolean)) (by decide) rfl ?_
  intro p ev s m args below meth c s₁ B hml hv
  obtain ⟨rfl, hH, hK⟩ := hv
  have hx := B.exec
  have hb := B.bytes
  have hr := B.returns
  have hts := atoms_spec (ws := wsX4_leadsOut) B.pre
  have hown : s.vm.findClass RX4 = some m.cls := findClass_of_methodNamed B.named
  have hlocks := B.notSynchronized
  have hC : Cx D cA p s m _ meth c cX4_leadsOut 3 RX4 wsX4_leadsOut (some .boolean) := ⟨hx, hb, hml, hown, hts, hK, hr, hlocks⟩
  have hS : va_S (Ab b0) s.heap s.heap [] := va_S.rf
  have hl := lv_entry ([.ref (b0 + a0), .int x1, .int x2]) (n := 3) (Nat.le_of_ble_eq_true rfl)
  rw [lg_entry_eq]
  generalize (lg_sl ([.ref (b0 + a0), .int x1, .int x2]) ++ List.replicate (3 - (lg_sl ([.ref (b0 + a0), .int x1, .int x2])).length) Slot.unset).toArray = ls at hl ⊢
  have hl : lv_has ls 3 [(0, .ref (b0 + a0)), (1, .int x1), (2, .int x2)] := hl
  unfold fX4_leadsOut at hE
  obtain ⟨_, _, hE⟩ := Option.bind_eq_some_iff.mp hE
  refine lv_iload_n hx hb dX4_leadsOut_0 rfl (lv_at hl 2 rfl) ?_
  refine lv_aload_n hx hb dX4_leadsOut_1 rfl (lv_at hl 0 rfl) ?_
  obtain ⟨v1, hv1, hE⟩ := Option.bind_eq_some_iff.mp hE
  refine r_gR 3 (C := RX4) (T := TX4) (N := 9) (ci := 4) hx hb hts (by decide +kernel) hown hK hH hv1 rfl (by decide) (hts (.fieldLink RX4 29 "KindStreets$Plan" "one" "[I") (by decide +kernel)) (u_same (hts (.sameField "KindStreets$Plan" "KindStreets$Town" "one" "[I") (by decide +kernel))) dX4_leadsOut_2 ?_
  refine lv_iload_n hx hb dX4_leadsOut_5 rfl (lv_at hl 1 rfl) ?_
  obtain ⟨v2, hv2, hE⟩ := Option.bind_eq_some_iff.mp hE
  refine r_iald hx hb hK hH hv2 dX4_leadsOut_6 ?_
  obtain ⟨z3, hz3, hE⟩ := Option.bind_eq_some_iff.mp hE
  refine r_callI (va_runS (As := [.int x2, .int v2]) (rest := []) ⟨hx, hb, hml, hown, hts⟩ (sX5_has l b0 D cA hz3) (va_cwS 2 hts gX4_leadsOut_X5_has rfl rfl rfl (by decide +kernel) (rm_ok (by decide) (by decide))) (pre_S hK hH) rfl rfl hl.1 rfl (lv_room (Nat.le_of_ble_eq_true rfl)) dX4_leadsOut_7 ⟨Nat.zero_le _, Nat.zero_le _⟩) hS (fun H locs hH hS => ?_)
  refine lv_iload_n hx hb dX4_leadsOut_10 rfl (lv_at hl 2 rfl) ?_
  refine lv_aload_n hx hb dX4_leadsOut_11 rfl (lv_at hl 0 rfl) ?_
  obtain ⟨v4, hv4, hE⟩ := Option.bind_eq_some_iff.mp hE
  refine r_gR 4 (C := RX4) (T := TX4) (N := 9) (ci := 4) hx hb hts (by decide +kernel) hown hK hH hv4 rfl (by decide) (hts (.fieldLink RX4 38 "KindStreets$Plan" "other" "[I") (by decide +kernel)) (u_same (hts (.sameField "KindStreets$Plan" "KindStreets$Town" "other" "[I") (by decide +kernel))) dX4_leadsOut_12 ?_
  refine lv_iload_n hx hb dX4_leadsOut_15 rfl (lv_at hl 1 rfl) ?_
  obtain ⟨v5, hv5, hE⟩ := Option.bind_eq_some_iff.mp hE
  refine r_iald hx hb hK hH hv5 dX4_leadsOut_16 ?_
  obtain ⟨z6, hz6, hE⟩ := Option.bind_eq_some_iff.mp hE
  refine r_callI (va_runS (As := [.int x2, .int v5]) (rest := [.int z3.1]) ⟨hx, hb, hml, hown, hts⟩ (sX5_has l b0 D cA hz6) (va_cwS 2 hts gX4_leadsOut_X5_has rfl rfl rfl (by decide +kernel) (rm_ok (by decide) (by decide))) (pre_S hK hH) rfl rfl hl.1 rfl (lv_room (Nat.le_of_ble_eq_true rfl)) dX4_leadsOut_17 ⟨Nat.zero_le _, Nat.zero_le _⟩) hS (fun H locs hH hS => ?_)
  refine lv_icmp_eq (tgt := 27) hx hb dX4_leadsOut_20 (by decide) (fun c7 => ?_) (fun c7 => ?_)
  · rw [if_pos c7] at hE
    refine lv_iconst (v := 0) hx hb dX4_leadsOut_27 (by decide) ?_
    have hZ := Option.some.inj hE
    subst hZ
    exact W.zret (v := 0) (ty := .boolean) hx hb hr rfl (fun t ht hW => ⟨rfl, by rw [ht]; exact hH, hS.F ht⟩) hS.2.2 dX4_leadsOut_28
  · rw [if_neg c7] at hE
    refine lv_iconst (v := 1) hx hb dX4_leadsOut_23 (by decide) ?_
    refine lv_goto (tgt := 28) hx hb dX4_leadsOut_24 (by decide) ?_
    have hZ := Option.some.inj hE
    subst hZ
    exact W.zret (v := 1) (ty := .boolean) hx hb hr rfl (fun t ht hW => ⟨rfl, by rw [ht]; exact hH, hS.F ht⟩) hS.2.2 dX4_leadsOut_28
-- X1_add
def fX1_add (F : Nat) (L : HL) (a0 : Nat) (x1 : Int32) (x2 : Int32) : Option HL := (o_ob L a0 1).bind fun _ => (o_gI L a0 1 2).bind fun v1 => if 4 ≤ v1 then (some L) else ((o_gR L a0 1 0).bind fun v3 => (o_gI L a0 1 2).bind fun v4 => (o_sI L v3 0 v4 x1).bind fun L5 => (o_gR L5 a0 1 1).bind fun v6 => (o_gI L5 a0 1 2).bind fun v7 => (o_sI L5 v6 0 v7 x2).bind fun L8 => (o_gI L8 a0 1 2).bind fun v9 => (o_p L8 a0 1 2 (.int (v9 + 1))).bind fun L10 => some L10)
theorem oX1_add {F : Nat} {L : HL} {a0 : Nat} {x1 : Int32} {x2 : Int32} {z : HL} (hE : fX1_add F L a0 x1 x2 = some z) : o_ob L a0 1 = some () := by
  obtain ⟨_, h, _⟩ := Option.bind_eq_some_iff.mp hE
  exact h
set_option maxHeartbeats 4000000 in
set_option maxRecDepth 100000 in
theorem sX1_add (l : Launch) (b0 : Nat) (D : va_G) (cA : Nat → ClassId) {F : Nat} {L : HL} {a0 : Nat} {x1 : Int32} {x2 : Int32} {z : HL} (hE : fX1_add F L a0 x1 x2 = some z) : Met l yX1_add wsX1_add (RM 0 0 0) (Pk b0 D cA [.ref (b0 + a0), .int x1, .int x2] L) (Qk b0 D cA none z) 0 0 (Ab b0) := by
  refine Met.ofW (cc := cX1_add) (maxL := 3) (ret := none) (by decide) rfl ?_
  intro p ev s m args below meth c s₁ B hml hv
  obtain ⟨rfl, hH, hK⟩ := hv
  have hx := B.exec
  have hb := B.bytes
  have hr := B.returns
  have hts := atoms_spec (ws := wsX1_add) B.pre
  have hown : s.vm.findClass RX1 = some m.cls := findClass_of_methodNamed B.named
  have hlocks := B.notSynchronized
  have hC : Cx D cA p s m _ meth c cX1_add 3 RX1 wsX1_add none := ⟨hx, hb, hml, hown, hts, hK, hr, hlocks⟩
  have hS : va_S (Ab b0) s.heap s.heap [] := va_S.rf
  have hl := lv_entry ([.ref (b0 + a0), .int x1, .int x2]) (n := 3) (Nat.le_of_ble_eq_true rfl)
  rw [lg_entry_eq]
  generalize (lg_sl ([.ref (b0 + a0), .int x1, .int x2]) ++ List.replicate (3 - (lg_sl ([.ref (b0 + a0), .int x1, .int x2])).length) Slot.unset).toArray = ls at hl ⊢
  have hl : lv_has ls 3 [(0, .ref (b0 + a0)), (1, .int x1), (2, .int x2)] := hl
  unfold fX1_add at hE
  obtain ⟨_, _, hE⟩ := Option.bind_eq_some_iff.mp hE
  refine lv_aload_n hx hb dX1_add_0 rfl (lv_at hl 0 rfl) ?_
  obtain ⟨v1, hv1, hE⟩ := Option.bind_eq_some_iff.mp hE
  refine r_gI 2 (C := RX1) (T := TX1) (N := 4) (ci := 1) hx hb hts (by decide +kernel) hown hK hH hv1 rfl (by decide) (hts (.fieldLink RX1 21 "KindStreets$Measures" "measured" "I") (by decide +kernel)) (fun _ h9 => h9) dX1_add_1 ?_
  refine lv_iconst (v := 4) hx hb dX1_add_4 (by decide) ?_
  refine lv_icmp_ge (tgt := 38) hx hb dX1_add_5 (by decide) (fun c2 => ?_) (fun c2 => ?_)
  · rw [if_pos c2] at hE
    have hZ := Option.some.inj hE
    subst hZ
    exact W.vret hx hb hr (fun t ht hW => ⟨rfl, by rw [ht]; exact hH, hS.F ht⟩) hS.2.2 dX1_add_38
  · rw [if_neg c2] at hE
    refine lv_aload_n hx hb dX1_add_8 rfl (lv_at hl 0 rfl) ?_
    obtain ⟨v3, hv3, hE⟩ := Option.bind_eq_some_iff.mp hE
    refine r_gR 0 (C := RX1) (T := TX1) (N := 4) (ci := 1) hx hb hts (by decide +kernel) hown hK hH hv3 rfl (by decide) (hts (.fieldLink RX1 9 "KindStreets$Measures" "width" "[I") (by decide +kernel)) (fun _ h9 => h9) dX1_add_9 ?_
    refine lv_aload_n hx hb dX1_add_12 rfl (lv_at hl 0 rfl) ?_
    obtain ⟨v4, hv4, hE⟩ := Option.bind_eq_some_iff.mp hE
    refine r_gI 2 (C := RX1) (T := TX1) (N := 4) (ci := 1) hx hb hts (by decide +kernel) hown hK hH hv4 rfl (by decide) (hts (.fieldLink RX1 21 "KindStreets$Measures" "measured" "I") (by decide +kernel)) (fun _ h9 => h9) dX1_add_13 ?_
    refine lv_iload_n hx hb dX1_add_16 rfl (lv_at hl 1 rfl) ?_
    obtain ⟨L5, hL5, hE⟩ := Option.bind_eq_some_iff.mp hE
    refine r_iast hx hb hK hH hS hL5 dX1_add_17 (fun H locs hH hS => ?_)
    refine lv_aload_n hx hb dX1_add_18 rfl (lv_at hl 0 rfl) ?_
    obtain ⟨v6, hv6, hE⟩ := Option.bind_eq_some_iff.mp hE
    refine r_gR 1 (C := RX1) (T := TX1) (N := 4) (ci := 1) hx hb hts (by decide +kernel) hown hK hH hv6 rfl (by decide) (hts (.fieldLink RX1 15 "KindStreets$Measures" "night" "[I") (by decide +kernel)) (fun _ h9 => h9) dX1_add_19 ?_
    refine lv_aload_n hx hb dX1_add_22 rfl (lv_at hl 0 rfl) ?_
    obtain ⟨v7, hv7, hE⟩ := Option.bind_eq_some_iff.mp hE
    refine r_gI 2 (C := RX1) (T := TX1) (N := 4) (ci := 1) hx hb hts (by decide +kernel) hown hK hH hv7 rfl (by decide) (hts (.fieldLink RX1 21 "KindStreets$Measures" "measured" "I") (by decide +kernel)) (fun _ h9 => h9) dX1_add_23 ?_
    refine lv_iload_n hx hb dX1_add_26 rfl (lv_at hl 2 rfl) ?_
    obtain ⟨L8, hL8, hE⟩ := Option.bind_eq_some_iff.mp hE
    refine r_iast hx hb hK hH hS hL8 dX1_add_27 (fun H locs hH hS => ?_)
    refine lv_aload_n hx hb dX1_add_28 rfl (lv_at hl 0 rfl) ?_
    refine lv_dup hx hb dX1_add_29 rfl ?_
    obtain ⟨v9, hv9, hE⟩ := Option.bind_eq_some_iff.mp hE
    refine r_gI 2 (C := RX1) (T := TX1) (N := 4) (ci := 1) hx hb hts (by decide +kernel) hown hK hH hv9 rfl (by decide) (hts (.fieldLink RX1 21 "KindStreets$Measures" "measured" "I") (by decide +kernel)) (fun _ h9 => h9) dX1_add_30 ?_
    refine lv_iconst (v := 1) hx hb dX1_add_33 (by decide) ?_
    refine lv_iadd hx hb dX1_add_34 ?_
    obtain ⟨L10, hL10, hE⟩ := Option.bind_eq_some_iff.mp hE
    refine r_p 2 (v := .int (v9 + 1)) (ty := .int) (C := RX1) (T := TX1) (N := 4) (ci := 1) hx hb hts (by decide +kernel) tyX1 tyX1_ok nmX1 hown hK hH hS hL10 rfl (by decide) (hts (.fieldLink RX1 21 "KindStreets$Measures" "measured" "I") (by decide +kernel)) (fun _ h9 => h9) rfl (by decide +kernel) rfl rfl dX1_add_35 (fun H locs hH hS => ?_)
    have hZ := Option.some.inj hE
    subst hZ
    exact W.vret hx hb hr (fun t ht hW => ⟨rfl, by rw [ht]; exact hH, hS.F ht⟩) hS.2.2 dX1_add_38
-- X1_widthBy
def fX1_widthBy (F : Nat) (L : HL) (x0 : Int32) (x1 : Int32) : Option (Int32 × HL) := (fX2_widthBy F L (x0 / 10) (x0 - x0 / 10 * 10) x1).bind fun z1 => some (z1.1, z1.2)
set_option maxHeartbeats 4000000 in
set_option maxRecDepth 100000 in
theorem sX1_widthBy (l : Launch) (b0 : Nat) (D : va_G) (cA : Nat → ClassId) {F : Nat} {L : HL} {x0 : Int32} {x1 : Int32} {z : (Int32 × HL)} (hE : fX1_widthBy F L x0 x1 = some z) : Met l yX1_widthBy wsX1_widthBy (RM 2 0 0) (Pk b0 D cA [.int x0, .int x1] L) (Qk b0 D cA (some (.int z.1)) z.2) 0 0 (Ab b0) := by
  refine Met.ofW (cc := cX1_widthBy) (maxL := 2) (ret := (some .int)) (by decide) rfl ?_
  intro p ev s m args below meth c s₁ B hml hv
  obtain ⟨rfl, hH, hK⟩ := hv
  have hx := B.exec
  have hb := B.bytes
  have hr := B.returns
  have hts := atoms_spec (ws := wsX1_widthBy) B.pre
  have hown : s.vm.findClass RX1 = some m.cls := findClass_of_methodNamed B.named
  have hlocks := B.notSynchronized
  have hC : Cx D cA p s m _ meth c cX1_widthBy 2 RX1 wsX1_widthBy (some .int) := ⟨hx, hb, hml, hown, hts, hK, hr, hlocks⟩
  have hS : va_S (Ab b0) s.heap s.heap [] := va_S.rf
  have hl := lv_entry ([.int x0, .int x1]) (n := 2) (Nat.le_of_ble_eq_true rfl)
  rw [lg_entry_eq]
  generalize (lg_sl ([.int x0, .int x1]) ++ List.replicate (2 - (lg_sl ([.int x0, .int x1])).length) Slot.unset).toArray = ls at hl ⊢
  have hl : lv_has ls 2 [(0, .int x0), (1, .int x1)] := hl
  unfold fX1_widthBy at hE
  refine lv_iload_n hx hb dX1_widthBy_0 rfl (lv_at hl 0 rfl) ?_
  refine lv_bipush (v := 10) hx hb dX1_widthBy_1 (by decide) ?_
  refine lv_idiv hx hb dX1_widthBy_3 (by decide) ?_
  refine lv_iload_n hx hb dX1_widthBy_4 rfl (lv_at hl 0 rfl) ?_
  refine lv_bipush (v := 10) hx hb dX1_widthBy_5 (by decide) ?_
  refine lv_irem hx hb dX1_widthBy_7 (by decide) ?_
  refine lv_iload_n hx hb dX1_widthBy_8 rfl (lv_at hl 1 rfl) ?_
  obtain ⟨z1, hz1, hE⟩ := Option.bind_eq_some_iff.mp hE
  refine r_callI (va_runS (As := [.int (x0 / 10), .int (x0 - x0 / 10 * 10), .int x1]) (rest := []) ⟨hx, hb, hml, hown, hts⟩ (sX2_widthBy l b0 D cA hz1) (va_cwS 3 hts gX1_widthBy_X2_widthBy rfl rfl rfl (by decide +kernel) (rm_ok (by decide) (by decide))) (pre_S hK hH) rfl rfl hl.1 rfl (lv_room (Nat.le_of_ble_eq_true rfl)) dX1_widthBy_9 ⟨Nat.zero_le _, Nat.zero_le _⟩) hS (fun H locs hH hS => ?_)
  have hZ := Option.some.inj hE
  subst hZ
  exact W.iret (v := z1.1) hx hb hr (fun t ht hW => ⟨rfl, by rw [ht]; exact hH, hS.F ht⟩) hS.2.2 dX1_widthBy_12
-- X1_areSo
def fX1_areSo_b2c (F : Nat) (k2 : Nat → Int32 → Int32 → HL → Option (Int32 × HL)) (a0 : Nat) (x1 : Int32) (x2 : Int32) (L : HL) : Option (Int32 × HL) := (o_gI L a0 1 2).bind fun v1 => if v1 ≤ x2 then (some (1, L)) else ((o_gR L a0 1 1).bind fun v3 => (o_aI L v3 0 x2).bind fun v4 => (fX1_widthBy F L x1 v4).bind fun z5 => (o_gR z5.2 a0 1 0).bind fun v6 => (o_aI z5.2 v6 0 x2).bind fun v7 => if z5.1 = v7 then (k2 a0 x1 (x2 + 1) z5.2) else (some (0, z5.2)))
def fX1_areSo_b2 (F : Nat) : Nat → Nat → Int32 → Int32 → HL → Option (Int32 × HL)
  | 0 => fun _ _ _ _ => none
  | n + 1 => fun a0 x1 x2 L => fX1_areSo_b2c F (fX1_areSo_b2 F n) a0 x1 x2 L
set_option maxHeartbeats 4000000 in
set_option maxRecDepth 100000 in
theorem sX1_areSo_b2c {b0 : Nat} {D : va_G} {cA : Nat → ClassId} {p : Program} {l : Launch} {ev : Env} {s : State} {m : MethodId} {args : Array Value} {below : List Frame} {meth : Method} {c : Code} {F : Nat} {z : (Int32 × HL)} {k2 : Nat → Int32 → Int32 → HL → Option (Int32 × HL)} {a0 : Nat} {x1 : Int32} {x2 : Int32} {L : HL} (hC : Cx D cA p s m args meth c cX1_areSo 3 RX1 wsX1_areSo (some .boolean)) (hk2 : ∀ (a0' : Nat) (x1' : Int32) (x2' : Int32) (L' : HL), k2 a0' x1' x2' L' = some z → WB b0 D cA p l ev (RM 3 0 0) s m args below meth c 3 0 0 (MQ below (Qk b0 D cA (some (.int z.1)) z.2) args s 0 0 (Ab b0)) 2 [(0, .ref (b0 + a0')), (1, .int x1'), (2, .int x2')] [] L') (hE : fX1_areSo_b2c F k2 a0 x1 x2 L = some z) : WB b0 D cA p l ev (RM 3 0 0) s m args below meth c 3 0 0 (MQ below (Qk b0 D cA (some (.int z.1)) z.2) args s 0 0 (Ab b0)) 2 [(0, .ref (b0 + a0)), (1, .int x1), (2, .int x2)] [] L := by
  obtain ⟨hx, hb, hml, hown, hts, hK, hr, hlocks⟩ := id hC
  intro H locs ls hH hS hl
  unfold fX1_areSo_b2c at hE
  refine lv_iload_n hx hb dX1_areSo_2 rfl (lv_at hl 2 rfl) ?_
  refine lv_aload_n hx hb dX1_areSo_3 rfl (lv_at hl 0 rfl) ?_
  obtain ⟨v1, hv1, hE⟩ := Option.bind_eq_some_iff.mp hE
  refine r_gI 2 (C := RX1) (T := TX1) (N := 4) (ci := 1) hx hb hts (by decide +kernel) hown hK hH hv1 rfl (by decide) (hts (.fieldLink RX1 21 "KindStreets$Measures" "measured" "I") (by decide +kernel)) (fun _ h9 => h9) dX1_areSo_4 ?_
  refine lv_icmp_ge (tgt := 37) hx hb dX1_areSo_7 (by decide) (fun c2 => ?_) (fun c2 => ?_)
  · rw [if_pos c2] at hE
    refine lv_iconst (v := 1) hx hb dX1_areSo_37 (by decide) ?_
    have hZ := Option.some.inj hE
    subst hZ
    exact W.zret (v := 1) (ty := .boolean) hx hb hr rfl (fun t ht hW => ⟨rfl, by rw [ht]; exact hH, hS.F ht⟩) hS.2.2 dX1_areSo_38
  · rw [if_neg c2] at hE
    refine lv_iload_n hx hb dX1_areSo_10 rfl (lv_at hl 1 rfl) ?_
    refine lv_aload_n hx hb dX1_areSo_11 rfl (lv_at hl 0 rfl) ?_
    obtain ⟨v3, hv3, hE⟩ := Option.bind_eq_some_iff.mp hE
    refine r_gR 1 (C := RX1) (T := TX1) (N := 4) (ci := 1) hx hb hts (by decide +kernel) hown hK hH hv3 rfl (by decide) (hts (.fieldLink RX1 15 "KindStreets$Measures" "night" "[I") (by decide +kernel)) (fun _ h9 => h9) dX1_areSo_12 ?_
    refine lv_iload_n hx hb dX1_areSo_15 rfl (lv_at hl 2 rfl) ?_
    obtain ⟨v4, hv4, hE⟩ := Option.bind_eq_some_iff.mp hE
    refine r_iald hx hb hK hH hv4 dX1_areSo_16 ?_
    obtain ⟨z5, hz5, hE⟩ := Option.bind_eq_some_iff.mp hE
    refine r_callI (va_runS (As := [.int x1, .int v4]) (rest := []) ⟨hx, hb, hml, hown, hts⟩ (sX1_widthBy l b0 D cA hz5) (va_cwS 2 hts gX1_areSo_X1_widthBy rfl rfl rfl (by decide +kernel) (rm_ok (by decide) (by decide))) (pre_S hK hH) rfl rfl hl.1 rfl (lv_room (Nat.le_of_ble_eq_true rfl)) dX1_areSo_17 ⟨Nat.zero_le _, Nat.zero_le _⟩) hS (fun H locs hH hS => ?_)
    refine lv_aload_n hx hb dX1_areSo_20 rfl (lv_at hl 0 rfl) ?_
    obtain ⟨v6, hv6, hE⟩ := Option.bind_eq_some_iff.mp hE
    refine r_gR 0 (C := RX1) (T := TX1) (N := 4) (ci := 1) hx hb hts (by decide +kernel) hown hK hH hv6 rfl (by decide) (hts (.fieldLink RX1 9 "KindStreets$Measures" "width" "[I") (by decide +kernel)) (fun _ h9 => h9) dX1_areSo_21 ?_
    refine lv_iload_n hx hb dX1_areSo_24 rfl (lv_at hl 2 rfl) ?_
    obtain ⟨v7, hv7, hE⟩ := Option.bind_eq_some_iff.mp hE
    refine r_iald hx hb hK hH hv7 dX1_areSo_25 ?_
    refine lv_icmp_eq (tgt := 31) hx hb dX1_areSo_26 (by decide) (fun c8 => ?_) (fun c8 => ?_)
    · rw [if_pos c8] at hE
      refine lv_iinc (v := (x2 + 1)) (lv' := [(2, .int (x2 + 1)), (0, .ref (b0 + a0)), (1, .int x1)]) hx hb dX1_areSo_31 hl (k := 2) rfl rfl (by decide) rfl (fun ls hl => ?_)
      refine lv_goto (tgt := 2) hx hb dX1_areSo_34 (by decide) ?_
      exact hk2 _ _ _ _ hE _ _ _ hH hS (lv_sub hl [1, 2, 0] rfl)
    · rw [if_neg c8] at hE
      refine lv_iconst (v := 0) hx hb dX1_areSo_29 (by decide) ?_
      have hZ := Option.some.inj hE
      subst hZ
      exact W.zret (v := 0) (ty := .boolean) hx hb hr rfl (fun t ht hW => ⟨rfl, by rw [ht]; exact hH, hS.F ht⟩) hS.2.2 dX1_areSo_30
theorem sX1_areSo_b2 {b0 : Nat} {D : va_G} {cA : Nat → ClassId} {p : Program} {l : Launch} {ev : Env} {s : State} {m : MethodId} {args : Array Value} {below : List Frame} {meth : Method} {c : Code} {F : Nat} {z : (Int32 × HL)} (hC : Cx D cA p s m args meth c cX1_areSo 3 RX1 wsX1_areSo (some .boolean)) : ∀ (n : Nat) (a0 : Nat) (x1 : Int32) (x2 : Int32) (L : HL), fX1_areSo_b2 F n a0 x1 x2 L = some z → WB b0 D cA p l ev (RM 3 0 0) s m args below meth c 3 0 0 (MQ below (Qk b0 D cA (some (.int z.1)) z.2) args s 0 0 (Ab b0)) 2 [(0, .ref (b0 + a0)), (1, .int x1), (2, .int x2)] [] L := by
  intro n
  induction n with
  | zero => intro a0 x1 x2 L hE; cases hE
  | succ n ih => intro a0 x1 x2 L hE; exact sX1_areSo_b2c (F := F) hC ih hE
def fX1_areSo (F : Nat) (L : HL) (a0 : Nat) (x1 : Int32) : Option (Int32 × HL) := (o_ob L a0 1).bind fun _ => fX1_areSo_b2 F F a0 x1 0 L
theorem oX1_areSo {F : Nat} {L : HL} {a0 : Nat} {x1 : Int32} {z : (Int32 × HL)} (hE : fX1_areSo F L a0 x1 = some z) : o_ob L a0 1 = some () := by
  obtain ⟨_, h, _⟩ := Option.bind_eq_some_iff.mp hE
  exact h
set_option maxHeartbeats 4000000 in
set_option maxRecDepth 100000 in
theorem sX1_areSo (l : Launch) (b0 : Nat) (D : va_G) (cA : Nat → ClassId) {F : Nat} {L : HL} {a0 : Nat} {x1 : Int32} {z : (Int32 × HL)} (hE : fX1_areSo F L a0 x1 = some z) : Met l yX1_areSo wsX1_areSo (RM 3 0 0) (Pk b0 D cA [.ref (b0 + a0), .int x1] L) (Qk b0 D cA (some (.int z.1)) z.2) 0 0 (Ab b0) := by
  refine Met.ofW (cc := cX1_areSo) (maxL := 3) (ret := (some .boolean)) (by decide) rfl ?_
  intro p ev s m args below meth c s₁ B hml hv
  obtain ⟨rfl, hH, hK⟩ := hv
  have hx := B.exec
  have hb := B.bytes
  have hr := B.returns
  have hts := atoms_spec (ws := wsX1_areSo) B.pre
  have hown : s.vm.findClass RX1 = some m.cls := findClass_of_methodNamed B.named
  have hlocks := B.notSynchronized
  have hC : Cx D cA p s m _ meth c cX1_areSo 3 RX1 wsX1_areSo (some .boolean) := ⟨hx, hb, hml, hown, hts, hK, hr, hlocks⟩
  have hS : va_S (Ab b0) s.heap s.heap [] := va_S.rf
  have hl := lv_entry ([.ref (b0 + a0), .int x1]) (n := 3) (Nat.le_of_ble_eq_true rfl)
  rw [lg_entry_eq]
  generalize (lg_sl ([.ref (b0 + a0), .int x1]) ++ List.replicate (3 - (lg_sl ([.ref (b0 + a0), .int x1])).length) Slot.unset).toArray = ls at hl ⊢
  have hl : lv_has ls 3 [(0, .ref (b0 + a0)), (1, .int x1)] := hl
  unfold fX1_areSo at hE
  obtain ⟨_, _, hE⟩ := Option.bind_eq_some_iff.mp hE
  refine lv_iconst (v := 0) hx hb dX1_areSo_0 (by decide) ?_
  refine lv_istore_n (lv' := [(2, .int 0), (0, .ref (b0 + a0)), (1, .int x1)]) hx hb dX1_areSo_1 rfl hl (by decide) rfl (fun ls hl => ?_)
  exact sX1_areSo_b2 (F := F) hC F _ _ _ _ hE _ _ _ hH hS (lv_sub hl [1, 2, 0] rfl)
-- X1_manyDeeds
def fX1_manyDeeds_b21 (F : Nat) (k4 : Nat → Int32 → Int32 → HL → Option (Int32 × HL)) (a0 : Nat) (x1 : Int32) (x2 : Int32) (L : HL) : Option (Int32 × HL) := k4 a0 x1 (x2 + 1) L
set_option maxHeartbeats 4000000 in
set_option maxRecDepth 100000 in
theorem sX1_manyDeeds_b21 {b0 : Nat} {D : va_G} {cA : Nat → ClassId} {p : Program} {l : Launch} {ev : Env} {s : State} {m : MethodId} {args : Array Value} {below : List Frame} {meth : Method} {c : Code} {F : Nat} {z : (Int32 × HL)} {k4 : Nat → Int32 → Int32 → HL → Option (Int32 × HL)} {a0 : Nat} {x1 : Int32} {x2 : Int32} {L : HL} (hC : Cx D cA p s m args meth c cX1_manyDeeds 3 RX1 wsX1_manyDeeds (some .int)) (hk4 : ∀ (a0' : Nat) (x1' : Int32) (x2' : Int32) (L' : HL), k4 a0' x1' x2' L' = some z → WB b0 D cA p l ev (RM 4 0 0) s m args below meth c 3 0 0 (MQ below (Qk b0 D cA (some (.int z.1)) z.2) args s 0 0 (Ab b0)) 4 [(0, .ref (b0 + a0')), (1, .int x1'), (2, .int x2')] [] L') (hE : fX1_manyDeeds_b21 F k4 a0 x1 x2 L = some z) : WB b0 D cA p l ev (RM 4 0 0) s m args below meth c 3 0 0 (MQ below (Qk b0 D cA (some (.int z.1)) z.2) args s 0 0 (Ab b0)) 21 [(0, .ref (b0 + a0)), (1, .int x1), (2, .int x2)] [] L := by
  obtain ⟨hx, hb, hml, hown, hts, hK, hr, hlocks⟩ := id hC
  intro H locs ls hH hS hl
  unfold fX1_manyDeeds_b21 at hE
  refine lv_iinc (v := (x2 + 1)) (lv' := [(2, .int (x2 + 1)), (0, .ref (b0 + a0)), (1, .int x1)]) hx hb dX1_manyDeeds_21 hl (k := 2) rfl rfl (by decide) rfl (fun ls hl => ?_)
  refine lv_goto (tgt := 4) hx hb dX1_manyDeeds_24 (by decide) ?_
  exact hk4 _ _ _ _ hE _ _ _ hH hS (lv_sub hl [1, 2, 0] rfl)
def fX1_manyDeeds_b4c (F : Nat) (k4 : Nat → Int32 → Int32 → HL → Option (Int32 × HL)) (a0 : Nat) (x1 : Int32) (x2 : Int32) (L : HL) : Option (Int32 × HL) := if 100 ≤ x2 then (some (x1, L)) else ((fX1_areSo F L a0 x2).bind fun z2 => if z2.1 = 0 then (fX1_manyDeeds_b21 F k4 a0 x1 x2 z2.2) else (fX1_manyDeeds_b21 F k4 a0 (x1 + 1) x2 z2.2))
def fX1_manyDeeds_b4 (F : Nat) : Nat → Nat → Int32 → Int32 → HL → Option (Int32 × HL)
  | 0 => fun _ _ _ _ => none
  | n + 1 => fun a0 x1 x2 L => fX1_manyDeeds_b4c F (fX1_manyDeeds_b4 F n) a0 x1 x2 L
set_option maxHeartbeats 4000000 in
set_option maxRecDepth 100000 in
theorem sX1_manyDeeds_b4c {b0 : Nat} {D : va_G} {cA : Nat → ClassId} {p : Program} {l : Launch} {ev : Env} {s : State} {m : MethodId} {args : Array Value} {below : List Frame} {meth : Method} {c : Code} {F : Nat} {z : (Int32 × HL)} {k4 : Nat → Int32 → Int32 → HL → Option (Int32 × HL)} {a0 : Nat} {x1 : Int32} {x2 : Int32} {L : HL} (hC : Cx D cA p s m args meth c cX1_manyDeeds 3 RX1 wsX1_manyDeeds (some .int)) (hk4 : ∀ (a0' : Nat) (x1' : Int32) (x2' : Int32) (L' : HL), k4 a0' x1' x2' L' = some z → WB b0 D cA p l ev (RM 4 0 0) s m args below meth c 3 0 0 (MQ below (Qk b0 D cA (some (.int z.1)) z.2) args s 0 0 (Ab b0)) 4 [(0, .ref (b0 + a0')), (1, .int x1'), (2, .int x2')] [] L') (hE : fX1_manyDeeds_b4c F k4 a0 x1 x2 L = some z) : WB b0 D cA p l ev (RM 4 0 0) s m args below meth c 3 0 0 (MQ below (Qk b0 D cA (some (.int z.1)) z.2) args s 0 0 (Ab b0)) 4 [(0, .ref (b0 + a0)), (1, .int x1), (2, .int x2)] [] L := by
  obtain ⟨hx, hb, hml, hown, hts, hK, hr, hlocks⟩ := id hC
  intro H locs ls hH hS hl
  unfold fX1_manyDeeds_b4c at hE
  refine lv_iload_n hx hb dX1_manyDeeds_4 rfl (lv_at hl 2 rfl) ?_
  refine lv_bipush (v := 100) hx hb dX1_manyDeeds_5 (by decide) ?_
  refine lv_icmp_ge (tgt := 27) hx hb dX1_manyDeeds_7 (by decide) (fun c1 => ?_) (fun c1 => ?_)
  · rw [if_pos c1] at hE
    refine lv_iload_n hx hb dX1_manyDeeds_27 rfl (lv_at hl 1 rfl) ?_
    have hZ := Option.some.inj hE
    subst hZ
    exact W.iret (v := x1) hx hb hr (fun t ht hW => ⟨rfl, by rw [ht]; exact hH, hS.F ht⟩) hS.2.2 dX1_manyDeeds_28
  · rw [if_neg c1] at hE
    refine lv_aload_n hx hb dX1_manyDeeds_10 rfl (lv_at hl 0 rfl) ?_
    refine lv_iload_n hx hb dX1_manyDeeds_11 rfl (lv_at hl 2 rfl) ?_
    obtain ⟨z2, hz2, hE⟩ := Option.bind_eq_some_iff.mp hE
    refine r_callI (va_runV (As := [.int x2]) (rest := []) ⟨hx, hb, hml, hown, hts⟩ (sX1_areSo l b0 D cA hz2) (cwV 1 hts gX1_manyDeeds_X1_areSo rfl rfl rfl (by decide +kernel) (rm_ok (by decide) (by decide))) (pre_V (ci := 1) hK hH (oX1_areSo hz2) rfl) rfl rfl hl.1 rfl (lv_room (Nat.le_of_ble_eq_true rfl)) dX1_manyDeeds_12 ⟨Nat.zero_le _, Nat.zero_le _⟩) hS (fun H locs hH hS => ?_)
    refine lv_if_eq (tgt := 21) hx hb dX1_manyDeeds_15 (by decide) (fun c3 => ?_) (fun c3 => ?_)
    · rw [if_pos c3] at hE
      exact sX1_manyDeeds_b21 (F := F) hC hk4 hE _ _ _ hH hS (lv_sub hl [0, 1, 2] rfl)
    · rw [if_neg c3] at hE
      refine lv_iinc (v := (x1 + 1)) (lv' := [(1, .int (x1 + 1)), (0, .ref (b0 + a0)), (2, .int x2)]) hx hb dX1_manyDeeds_18 hl (k := 1) rfl rfl (by decide) rfl (fun ls hl => ?_)
      exact sX1_manyDeeds_b21 (F := F) hC hk4 hE _ _ _ hH hS (lv_sub hl [1, 0, 2] rfl)
theorem sX1_manyDeeds_b4 {b0 : Nat} {D : va_G} {cA : Nat → ClassId} {p : Program} {l : Launch} {ev : Env} {s : State} {m : MethodId} {args : Array Value} {below : List Frame} {meth : Method} {c : Code} {F : Nat} {z : (Int32 × HL)} (hC : Cx D cA p s m args meth c cX1_manyDeeds 3 RX1 wsX1_manyDeeds (some .int)) : ∀ (n : Nat) (a0 : Nat) (x1 : Int32) (x2 : Int32) (L : HL), fX1_manyDeeds_b4 F n a0 x1 x2 L = some z → WB b0 D cA p l ev (RM 4 0 0) s m args below meth c 3 0 0 (MQ below (Qk b0 D cA (some (.int z.1)) z.2) args s 0 0 (Ab b0)) 4 [(0, .ref (b0 + a0)), (1, .int x1), (2, .int x2)] [] L := by
  intro n
  induction n with
  | zero => intro a0 x1 x2 L hE; cases hE
  | succ n ih => intro a0 x1 x2 L hE; exact sX1_manyDeeds_b4c (F := F) hC ih hE
def fX1_manyDeeds (F : Nat) (L : HL) (a0 : Nat) : Option (Int32 × HL) := (o_ob L a0 1).bind fun _ => fX1_manyDeeds_b4 F F a0 0 0 L
theorem oX1_manyDeeds {F : Nat} {L : HL} {a0 : Nat} {z : (Int32 × HL)} (hE : fX1_manyDeeds F L a0 = some z) : o_ob L a0 1 = some () := by
  obtain ⟨_, h, _⟩ := Option.bind_eq_some_iff.mp hE
  exact h
set_option maxHeartbeats 4000000 in
set_option maxRecDepth 100000 in
theorem sX1_manyDeeds (l : Launch) (b0 : Nat) (D : va_G) (cA : Nat → ClassId) {F : Nat} {L : HL} {a0 : Nat} {z : (Int32 × HL)} (hE : fX1_manyDeeds F L a0 = some z) : Met l yX1_manyDeeds wsX1_manyDeeds (RM 4 0 0) (Pk b0 D cA [.ref (b0 + a0)] L) (Qk b0 D cA (some (.int z.1)) z.2) 0 0 (Ab b0) := by
  refine Met.ofW (cc := cX1_manyDeeds) (maxL := 3) (ret := (some .int)) (by decide) rfl ?_
  intro p ev s m args below meth c s₁ B hml hv
  obtain ⟨rfl, hH, hK⟩ := hv
  have hx := B.exec
  have hb := B.bytes
  have hr := B.returns
  have hts := atoms_spec (ws := wsX1_manyDeeds) B.pre
  have hown : s.vm.findClass RX1 = some m.cls := findClass_of_methodNamed B.named
  have hlocks := B.notSynchronized
  have hC : Cx D cA p s m _ meth c cX1_manyDeeds 3 RX1 wsX1_manyDeeds (some .int) := ⟨hx, hb, hml, hown, hts, hK, hr, hlocks⟩
  have hS : va_S (Ab b0) s.heap s.heap [] := va_S.rf
  have hl := lv_entry ([.ref (b0 + a0)]) (n := 3) (Nat.le_of_ble_eq_true rfl)
  rw [lg_entry_eq]
  generalize (lg_sl ([.ref (b0 + a0)]) ++ List.replicate (3 - (lg_sl ([.ref (b0 + a0)])).length) Slot.unset).toArray = ls at hl ⊢
  have hl : lv_has ls 3 [(0, .ref (b0 + a0))] := hl
  unfold fX1_manyDeeds at hE
  obtain ⟨_, _, hE⟩ := Option.bind_eq_some_iff.mp hE
  refine lv_iconst (v := 0) hx hb dX1_manyDeeds_0 (by decide) ?_
  refine lv_istore_n (lv' := [(1, .int 0), (0, .ref (b0 + a0))]) hx hb dX1_manyDeeds_1 rfl hl (by decide) rfl (fun ls hl => ?_)
  refine lv_iconst (v := 0) hx hb dX1_manyDeeds_2 (by decide) ?_
  refine lv_istore_n (lv' := [(2, .int 0), (1, .int 0), (0, .ref (b0 + a0))]) hx hb dX1_manyDeeds_3 rfl hl (by decide) rfl (fun ls hl => ?_)
  exact sX1_manyDeeds_b4 (F := F) hC F _ _ _ _ hE _ _ _ hH hS (lv_sub hl [2, 1, 0] rfl)
-- X1_firstDeeds
def fX1_firstDeeds_b2c (F : Nat) (k2 : Nat → Int32 → HL → Option (Int32 × HL)) (a0 : Nat) (x1 : Int32) (L : HL) : Option (Int32 × HL) := if 100 ≤ x1 then (some ((-9), L)) else ((fX1_areSo F L a0 x1).bind fun z2 => if z2.1 = 0 then (k2 a0 (x1 + 1) z2.2) else (some (x1, z2.2)))
def fX1_firstDeeds_b2 (F : Nat) : Nat → Nat → Int32 → HL → Option (Int32 × HL)
  | 0 => fun _ _ _ => none
  | n + 1 => fun a0 x1 L => fX1_firstDeeds_b2c F (fX1_firstDeeds_b2 F n) a0 x1 L
set_option maxHeartbeats 4000000 in
set_option maxRecDepth 100000 in
theorem sX1_firstDeeds_b2c {b0 : Nat} {D : va_G} {cA : Nat → ClassId} {p : Program} {l : Launch} {ev : Env} {s : State} {m : MethodId} {args : Array Value} {below : List Frame} {meth : Method} {c : Code} {F : Nat} {z : (Int32 × HL)} {k2 : Nat → Int32 → HL → Option (Int32 × HL)} {a0 : Nat} {x1 : Int32} {L : HL} (hC : Cx D cA p s m args meth c cX1_firstDeeds 2 RX1 wsX1_firstDeeds (some .int)) (hk2 : ∀ (a0' : Nat) (x1' : Int32) (L' : HL), k2 a0' x1' L' = some z → WB b0 D cA p l ev (RM 4 0 0) s m args below meth c 2 0 0 (MQ below (Qk b0 D cA (some (.int z.1)) z.2) args s 0 0 (Ab b0)) 2 [(0, .ref (b0 + a0')), (1, .int x1')] [] L') (hE : fX1_firstDeeds_b2c F k2 a0 x1 L = some z) : WB b0 D cA p l ev (RM 4 0 0) s m args below meth c 2 0 0 (MQ below (Qk b0 D cA (some (.int z.1)) z.2) args s 0 0 (Ab b0)) 2 [(0, .ref (b0 + a0)), (1, .int x1)] [] L := by
  obtain ⟨hx, hb, hml, hown, hts, hK, hr, hlocks⟩ := id hC
  intro H locs ls hH hS hl
  unfold fX1_firstDeeds_b2c at hE
  refine lv_iload_n hx hb dX1_firstDeeds_2 rfl (lv_at hl 1 rfl) ?_
  refine lv_bipush (v := 100) hx hb dX1_firstDeeds_3 (by decide) ?_
  refine lv_icmp_ge (tgt := 24) hx hb dX1_firstDeeds_5 (by decide) (fun c1 => ?_) (fun c1 => ?_)
  · rw [if_pos c1] at hE
    refine lv_bipush (v := (-9)) hx hb dX1_firstDeeds_24 (by decide) ?_
    have hZ := Option.some.inj hE
    subst hZ
    exact W.iret (v := (-9)) hx hb hr (fun t ht hW => ⟨rfl, by rw [ht]; exact hH, hS.F ht⟩) hS.2.2 dX1_firstDeeds_26
  · rw [if_neg c1] at hE
    refine lv_aload_n hx hb dX1_firstDeeds_8 rfl (lv_at hl 0 rfl) ?_
    refine lv_iload_n hx hb dX1_firstDeeds_9 rfl (lv_at hl 1 rfl) ?_
    obtain ⟨z2, hz2, hE⟩ := Option.bind_eq_some_iff.mp hE
    refine r_callI (va_runV (As := [.int x1]) (rest := []) ⟨hx, hb, hml, hown, hts⟩ (sX1_areSo l b0 D cA hz2) (cwV 1 hts gX1_firstDeeds_X1_areSo rfl rfl rfl (by decide +kernel) (rm_ok (by decide) (by decide))) (pre_V (ci := 1) hK hH (oX1_areSo hz2) rfl) rfl rfl hl.1 rfl (lv_room (Nat.le_of_ble_eq_true rfl)) dX1_firstDeeds_10 ⟨Nat.zero_le _, Nat.zero_le _⟩) hS (fun H locs hH hS => ?_)
    refine lv_if_eq (tgt := 18) hx hb dX1_firstDeeds_13 (by decide) (fun c3 => ?_) (fun c3 => ?_)
    · rw [if_pos c3] at hE
      refine lv_iinc (v := (x1 + 1)) (lv' := [(1, .int (x1 + 1)), (0, .ref (b0 + a0))]) hx hb dX1_firstDeeds_18 hl (k := 1) rfl rfl (by decide) rfl (fun ls hl => ?_)
      refine lv_goto (tgt := 2) hx hb dX1_firstDeeds_21 (by decide) ?_
      exact hk2 _ _ _ hE _ _ _ hH hS (lv_sub hl [1, 0] rfl)
    · rw [if_neg c3] at hE
      refine lv_iload_n hx hb dX1_firstDeeds_16 rfl (lv_at hl 1 rfl) ?_
      have hZ := Option.some.inj hE
      subst hZ
      exact W.iret (v := x1) hx hb hr (fun t ht hW => ⟨rfl, by rw [ht]; exact hH, hS.F ht⟩) hS.2.2 dX1_firstDeeds_17
theorem sX1_firstDeeds_b2 {b0 : Nat} {D : va_G} {cA : Nat → ClassId} {p : Program} {l : Launch} {ev : Env} {s : State} {m : MethodId} {args : Array Value} {below : List Frame} {meth : Method} {c : Code} {F : Nat} {z : (Int32 × HL)} (hC : Cx D cA p s m args meth c cX1_firstDeeds 2 RX1 wsX1_firstDeeds (some .int)) : ∀ (n : Nat) (a0 : Nat) (x1 : Int32) (L : HL), fX1_firstDeeds_b2 F n a0 x1 L = some z → WB b0 D cA p l ev (RM 4 0 0) s m args below meth c 2 0 0 (MQ below (Qk b0 D cA (some (.int z.1)) z.2) args s 0 0 (Ab b0)) 2 [(0, .ref (b0 + a0)), (1, .int x1)] [] L := by
  intro n
  induction n with
  | zero => intro a0 x1 L hE; cases hE
  | succ n ih => intro a0 x1 L hE; exact sX1_firstDeeds_b2c (F := F) hC ih hE
def fX1_firstDeeds (F : Nat) (L : HL) (a0 : Nat) : Option (Int32 × HL) := (o_ob L a0 1).bind fun _ => fX1_firstDeeds_b2 F F a0 0 L
theorem oX1_firstDeeds {F : Nat} {L : HL} {a0 : Nat} {z : (Int32 × HL)} (hE : fX1_firstDeeds F L a0 = some z) : o_ob L a0 1 = some () := by
  obtain ⟨_, h, _⟩ := Option.bind_eq_some_iff.mp hE
  exact h
set_option maxHeartbeats 4000000 in
set_option maxRecDepth 100000 in
theorem sX1_firstDeeds (l : Launch) (b0 : Nat) (D : va_G) (cA : Nat → ClassId) {F : Nat} {L : HL} {a0 : Nat} {z : (Int32 × HL)} (hE : fX1_firstDeeds F L a0 = some z) : Met l yX1_firstDeeds wsX1_firstDeeds (RM 4 0 0) (Pk b0 D cA [.ref (b0 + a0)] L) (Qk b0 D cA (some (.int z.1)) z.2) 0 0 (Ab b0) := by
  refine Met.ofW (cc := cX1_firstDeeds) (maxL := 2) (ret := (some .int)) (by decide) rfl ?_
  intro p ev s m args below meth c s₁ B hml hv
  obtain ⟨rfl, hH, hK⟩ := hv
  have hx := B.exec
  have hb := B.bytes
  have hr := B.returns
  have hts := atoms_spec (ws := wsX1_firstDeeds) B.pre
  have hown : s.vm.findClass RX1 = some m.cls := findClass_of_methodNamed B.named
  have hlocks := B.notSynchronized
  have hC : Cx D cA p s m _ meth c cX1_firstDeeds 2 RX1 wsX1_firstDeeds (some .int) := ⟨hx, hb, hml, hown, hts, hK, hr, hlocks⟩
  have hS : va_S (Ab b0) s.heap s.heap [] := va_S.rf
  have hl := lv_entry ([.ref (b0 + a0)]) (n := 2) (Nat.le_of_ble_eq_true rfl)
  rw [lg_entry_eq]
  generalize (lg_sl ([.ref (b0 + a0)]) ++ List.replicate (2 - (lg_sl ([.ref (b0 + a0)])).length) Slot.unset).toArray = ls at hl ⊢
  have hl : lv_has ls 2 [(0, .ref (b0 + a0))] := hl
  unfold fX1_firstDeeds at hE
  obtain ⟨_, _, hE⟩ := Option.bind_eq_some_iff.mp hE
  refine lv_iconst (v := 0) hx hb dX1_firstDeeds_0 (by decide) ?_
  refine lv_istore_n (lv' := [(1, .int 0), (0, .ref (b0 + a0))]) hx hb dX1_firstDeeds_1 rfl hl (by decide) rfl (fun ls hl => ?_)
  exact sX1_firstDeeds_b2 (F := F) hC F _ _ _ hE _ _ _ hH hS (lv_sub hl [1, 0] rfl)
-- X1_mostAlike
def fX1_mostAlike_b56 (F : Nat) (k12 : Nat → Int32 → Int32 → Int32 → HL → Option (Int32 × HL)) (a0 : Nat) (x1 : Int32) (x2 : Int32) (x3 : Int32) (L : HL) : Option (Int32 × HL) := k12 a0 x1 x2 (x3 + 1) L
set_option maxHeartbeats 4000000 in
set_option maxRecDepth 100000 in
theorem sX1_mostAlike_b56 {b0 : Nat} {D : va_G} {cA : Nat → ClassId} {p : Program} {l : Launch} {ev : Env} {s : State} {m : MethodId} {args : Array Value} {below : List Frame} {meth : Method} {c : Code} {F : Nat} {z : (Int32 × HL)} {k12 : Nat → Int32 → Int32 → Int32 → HL → Option (Int32 × HL)} {a0 : Nat} {x1 : Int32} {x2 : Int32} {x3 : Int32} {L : HL} (hC : Cx D cA p s m args meth c cX1_mostAlike 5 RX1 wsX1_mostAlike (some .int)) (hk12 : ∀ (a0' : Nat) (x1' : Int32) (x2' : Int32) (x3' : Int32) (L' : HL), k12 a0' x1' x2' x3' L' = some z → WB b0 D cA p l ev (RM 4 0 0) s m args below meth c 5 0 0 (MQ below (Qk b0 D cA (some (.int z.1)) z.2) args s 0 0 (Ab b0)) 12 [(0, .ref (b0 + a0')), (1, .int x1'), (2, .int x2'), (3, .int x3')] [] L') (hE : fX1_mostAlike_b56 F k12 a0 x1 x2 x3 L = some z) : WB b0 D cA p l ev (RM 4 0 0) s m args below meth c 5 0 0 (MQ below (Qk b0 D cA (some (.int z.1)) z.2) args s 0 0 (Ab b0)) 56 [(0, .ref (b0 + a0)), (1, .int x1), (2, .int x2), (3, .int x3)] [] L := by
  obtain ⟨hx, hb, hml, hown, hts, hK, hr, hlocks⟩ := id hC
  intro H locs ls hH hS hl
  unfold fX1_mostAlike_b56 at hE
  refine lv_iinc (v := (x3 + 1)) (lv' := [(3, .int (x3 + 1)), (0, .ref (b0 + a0)), (1, .int x1), (2, .int x2)]) hx hb dX1_mostAlike_56 hl (k := 3) rfl rfl (by decide) rfl (fun ls hl => ?_)
  refine lv_goto (tgt := 12) hx hb dX1_mostAlike_59 (by decide) ?_
  exact hk12 _ _ _ _ _ hE _ _ _ hH hS (lv_sub hl [1, 2, 3, 0] rfl)
def fX1_mostAlike_b12c (F : Nat) (k12 : Nat → Int32 → Int32 → Int32 → HL → Option (Int32 × HL)) (a0 : Nat) (x1 : Int32) (x2 : Int32) (x3 : Int32) (L : HL) : Option (Int32 × HL) := if 100 ≤ x3 then (some (x2, L)) else ((fX1_areSo F L a0 x3).bind fun z4 => if z4.1 = 0 then (fX1_mostAlike_b56 F k12 a0 x1 x2 x3 z4.2) else ((fX1_widthBy F z4.2 x3 x1).bind fun z6 => (o_gR z6.2 a0 1 3).bind fun v7 => (o_aI z6.2 v7 0 z6.1).bind fun v8 => (o_sI z6.2 v7 0 z6.1 (v8 + 1)).bind fun L9 => (o_gR L9 a0 1 3).bind fun v10 => (o_aI L9 v10 0 z6.1).bind fun v11 => fX1_mostAlike_b56 F k12 a0 x1 (if x2 < v11 then v11 else x2) x3 L9))
def fX1_mostAlike_b12 (F : Nat) : Nat → Nat → Int32 → Int32 → Int32 → HL → Option (Int32 × HL)
  | 0 => fun _ _ _ _ _ => none
  | n + 1 => fun a0 x1 x2 x3 L => fX1_mostAlike_b12c F (fX1_mostAlike_b12 F n) a0 x1 x2 x3 L
set_option maxHeartbeats 4000000 in
set_option maxRecDepth 100000 in
theorem sX1_mostAlike_b12c {b0 : Nat} {D : va_G} {cA : Nat → ClassId} {p : Program} {l : Launch} {ev : Env} {s : State} {m : MethodId} {args : Array Value} {below : List Frame} {meth : Method} {c : Code} {F : Nat} {z : (Int32 × HL)} {k12 : Nat → Int32 → Int32 → Int32 → HL → Option (Int32 × HL)} {a0 : Nat} {x1 : Int32} {x2 : Int32} {x3 : Int32} {L : HL} (hC : Cx D cA p s m args meth c cX1_mostAlike 5 RX1 wsX1_mostAlike (some .int)) (hk12 : ∀ (a0' : Nat) (x1' : Int32) (x2' : Int32) (x3' : Int32) (L' : HL), k12 a0' x1' x2' x3' L' = some z → WB b0 D cA p l ev (RM 4 0 0) s m args below meth c 5 0 0 (MQ below (Qk b0 D cA (some (.int z.1)) z.2) args s 0 0 (Ab b0)) 12 [(0, .ref (b0 + a0')), (1, .int x1'), (2, .int x2'), (3, .int x3')] [] L') (hE : fX1_mostAlike_b12c F k12 a0 x1 x2 x3 L = some z) : WB b0 D cA p l ev (RM 4 0 0) s m args below meth c 5 0 0 (MQ below (Qk b0 D cA (some (.int z.1)) z.2) args s 0 0 (Ab b0)) 12 [(0, .ref (b0 + a0)), (1, .int x1), (2, .int x2), (3, .int x3)] [] L := by
  obtain ⟨hx, hb, hml, hown, hts, hK, hr, hlocks⟩ := id hC
  intro H locs ls hH hS hl
  unfold fX1_mostAlike_b12c at hE
  refine lv_iload_n hx hb dX1_mostAlike_12 rfl (lv_at hl 3 rfl) ?_
  refine lv_bipush (v := 100) hx hb dX1_mostAlike_13 (by decide) ?_
  refine lv_icmp_ge (tgt := 62) hx hb dX1_mostAlike_15 (by decide) (fun c3 => ?_) (fun c3 => ?_)
  · rw [if_pos c3] at hE
    refine lv_iload_n hx hb dX1_mostAlike_62 rfl (lv_at hl 2 rfl) ?_
    have hZ := Option.some.inj hE
    subst hZ
    exact W.iret (v := x2) hx hb hr (fun t ht hW => ⟨rfl, by rw [ht]; exact hH, hS.F ht⟩) hS.2.2 dX1_mostAlike_63
  · rw [if_neg c3] at hE
    refine lv_aload_n hx hb dX1_mostAlike_18 rfl (lv_at hl 0 rfl) ?_
    refine lv_iload_n hx hb dX1_mostAlike_19 rfl (lv_at hl 3 rfl) ?_
    obtain ⟨z4, hz4, hE⟩ := Option.bind_eq_some_iff.mp hE
    refine r_callI (va_runV (As := [.int x3]) (rest := []) ⟨hx, hb, hml, hown, hts⟩ (sX1_areSo l b0 D cA hz4) (cwV 1 hts gX1_mostAlike_X1_areSo rfl rfl rfl (by decide +kernel) (rm_ok (by decide) (by decide))) (pre_V (ci := 1) hK hH (oX1_areSo hz4) rfl) rfl rfl hl.1 rfl (lv_room (Nat.le_of_ble_eq_true rfl)) dX1_mostAlike_20 ⟨Nat.zero_le _, Nat.zero_le _⟩) hS (fun H locs hH hS => ?_)
    refine lv_if_eq (tgt := 56) hx hb dX1_mostAlike_23 (by decide) (fun c5 => ?_) (fun c5 => ?_)
    · rw [if_pos c5] at hE
      exact sX1_mostAlike_b56 (F := F) hC hk12 hE _ _ _ hH hS (lv_sub hl [0, 1, 2, 3] rfl)
    · rw [if_neg c5] at hE
      refine lv_iload_n hx hb dX1_mostAlike_26 rfl (lv_at hl 3 rfl) ?_
      refine lv_iload_n hx hb dX1_mostAlike_27 rfl (lv_at hl 1 rfl) ?_
      obtain ⟨z6, hz6, hE⟩ := Option.bind_eq_some_iff.mp hE
      refine r_callI (va_runS (As := [.int x3, .int x1]) (rest := []) ⟨hx, hb, hml, hown, hts⟩ (sX1_widthBy l b0 D cA hz6) (va_cwS 2 hts gX1_mostAlike_X1_widthBy rfl rfl rfl (by decide +kernel) (rm_ok (by decide) (by decide))) (pre_S hK hH) rfl rfl hl.1 rfl (lv_room (Nat.le_of_ble_eq_true rfl)) dX1_mostAlike_28 ⟨Nat.zero_le _, Nat.zero_le _⟩) hS (fun H locs hH hS => ?_)
      refine lv_istore (lv' := [(4, .int z6.1), (0, .ref (b0 + a0)), (1, .int x1), (2, .int x2), (3, .int x3)]) hx hb dX1_mostAlike_31 hl (by decide) rfl (fun ls hl => ?_)
      refine lv_aload_n hx hb dX1_mostAlike_33 rfl (lv_at hl 1 rfl) ?_
      obtain ⟨v7, hv7, hE⟩ := Option.bind_eq_some_iff.mp hE
      refine r_gR 3 (C := RX1) (T := TX1) (N := 4) (ci := 1) hx hb hts (by decide +kernel) hown hK hH hv7 rfl (by decide) (hts (.fieldLink RX1 18 "KindStreets$Measures" "alike" "[I") (by decide +kernel)) (fun _ h9 => h9) dX1_mostAlike_34 ?_
      refine lv_iload hx hb dX1_mostAlike_37 (lv_at hl 0 rfl) ?_
      refine lv_dup2_11 hx hb dX1_mostAlike_39 rfl rfl ?_
      obtain ⟨v8, hv8, hE⟩ := Option.bind_eq_some_iff.mp hE
      refine r_iald hx hb hK hH hv8 dX1_mostAlike_40 ?_
      refine lv_iconst (v := 1) hx hb dX1_mostAlike_41 (by decide) ?_
      refine lv_iadd hx hb dX1_mostAlike_42 ?_
      obtain ⟨L9, hL9, hE⟩ := Option.bind_eq_some_iff.mp hE
      refine r_iast hx hb hK hH hS hL9 dX1_mostAlike_43 (fun H locs hH hS => ?_)
      refine lv_iload_n hx hb dX1_mostAlike_44 rfl (lv_at hl 3 rfl) ?_
      refine lv_aload_n hx hb dX1_mostAlike_45 rfl (lv_at hl 1 rfl) ?_
      obtain ⟨v10, hv10, hE⟩ := Option.bind_eq_some_iff.mp hE
      refine r_gR 3 (C := RX1) (T := TX1) (N := 4) (ci := 1) hx hb hts (by decide +kernel) hown hK hH hv10 rfl (by decide) (hts (.fieldLink RX1 18 "KindStreets$Measures" "alike" "[I") (by decide +kernel)) (fun _ h9 => h9) dX1_mostAlike_46 ?_
      refine lv_iload hx hb dX1_mostAlike_49 (lv_at hl 0 rfl) ?_
      obtain ⟨v11, hv11, hE⟩ := Option.bind_eq_some_iff.mp hE
      refine r_iald hx hb hK hH hv11 dX1_mostAlike_51 ?_
      refine va_mmax hx hb (hml.trans hl.1.symm) hown (hts (.methodLink RX1 39 Lib.Math.max.name) (by decide +kernel)) (hts (.static Lib.Math.max.name) (by decide +kernel)) (hts (.initialized "java/lang/Math") (by decide +kernel)) (hts (.code Lib.Math.max.name Lib.Math.max.code 2 (some .int)) (by decide +kernel)) (by decide) (Nat.le_of_ble_eq_true rfl) (by decide) (by decide) dX1_mostAlike_52 ?_
      refine lv_istore_n (lv' := [(2, .int (if x2 < v11 then v11 else x2)), (4, .int z6.1), (0, .ref (b0 + a0)), (1, .int x1), (3, .int x3)]) hx hb dX1_mostAlike_55 rfl hl (by decide) rfl (fun ls hl => ?_)
      exact sX1_mostAlike_b56 (F := F) hC hk12 hE _ _ _ hH hS (lv_sub hl [2, 3, 0, 4] rfl)
theorem sX1_mostAlike_b12 {b0 : Nat} {D : va_G} {cA : Nat → ClassId} {p : Program} {l : Launch} {ev : Env} {s : State} {m : MethodId} {args : Array Value} {below : List Frame} {meth : Method} {c : Code} {F : Nat} {z : (Int32 × HL)} (hC : Cx D cA p s m args meth c cX1_mostAlike 5 RX1 wsX1_mostAlike (some .int)) : ∀ (n : Nat) (a0 : Nat) (x1 : Int32) (x2 : Int32) (x3 : Int32) (L : HL), fX1_mostAlike_b12 F n a0 x1 x2 x3 L = some z → WB b0 D cA p l ev (RM 4 0 0) s m args below meth c 5 0 0 (MQ below (Qk b0 D cA (some (.int z.1)) z.2) args s 0 0 (Ab b0)) 12 [(0, .ref (b0 + a0)), (1, .int x1), (2, .int x2), (3, .int x3)] [] L := by
  intro n
  induction n with
  | zero => intro a0 x1 x2 x3 L hE; cases hE
  | succ n ih => intro a0 x1 x2 x3 L hE; exact sX1_mostAlike_b12c (F := F) hC ih hE
def fX1_mostAlike (F : Nat) (L : HL) (a0 : Nat) (x1 : Int32) : Option (Int32 × HL) := (o_ob L a0 1).bind fun _ => (o_gR L a0 1 3).bind fun v1 => (fJ7_fill_53178 F L v1 0).bind fun z2 => fX1_mostAlike_b12 F F a0 x1 0 0 z2
theorem oX1_mostAlike {F : Nat} {L : HL} {a0 : Nat} {x1 : Int32} {z : (Int32 × HL)} (hE : fX1_mostAlike F L a0 x1 = some z) : o_ob L a0 1 = some () := by
  obtain ⟨_, h, _⟩ := Option.bind_eq_some_iff.mp hE
  exact h
set_option maxHeartbeats 4000000 in
set_option maxRecDepth 100000 in
theorem sX1_mostAlike (l : Launch) (b0 : Nat) (D : va_G) (cA : Nat → ClassId) {F : Nat} {L : HL} {a0 : Nat} {x1 : Int32} {z : (Int32 × HL)} (hE : fX1_mostAlike F L a0 x1 = some z) : Met l yX1_mostAlike wsX1_mostAlike (RM 4 0 0) (Pk b0 D cA [.ref (b0 + a0), .int x1] L) (Qk b0 D cA (some (.int z.1)) z.2) 0 0 (Ab b0) := by
  refine Met.ofW (cc := cX1_mostAlike) (maxL := 5) (ret := (some .int)) (by decide) rfl ?_
  intro p ev s m args below meth c s₁ B hml hv
  obtain ⟨rfl, hH, hK⟩ := hv
  have hx := B.exec
  have hb := B.bytes
  have hr := B.returns
  have hts := atoms_spec (ws := wsX1_mostAlike) B.pre
  have hown : s.vm.findClass RX1 = some m.cls := findClass_of_methodNamed B.named
  have hlocks := B.notSynchronized
  have hC : Cx D cA p s m _ meth c cX1_mostAlike 5 RX1 wsX1_mostAlike (some .int) := ⟨hx, hb, hml, hown, hts, hK, hr, hlocks⟩
  have hS : va_S (Ab b0) s.heap s.heap [] := va_S.rf
  have hl := lv_entry ([.ref (b0 + a0), .int x1]) (n := 5) (Nat.le_of_ble_eq_true rfl)
  rw [lg_entry_eq]
  generalize (lg_sl ([.ref (b0 + a0), .int x1]) ++ List.replicate (5 - (lg_sl ([.ref (b0 + a0), .int x1])).length) Slot.unset).toArray = ls at hl ⊢
  have hl : lv_has ls 5 [(0, .ref (b0 + a0)), (1, .int x1)] := hl
  unfold fX1_mostAlike at hE
  obtain ⟨_, _, hE⟩ := Option.bind_eq_some_iff.mp hE
  refine lv_aload_n hx hb dX1_mostAlike_0 rfl (lv_at hl 0 rfl) ?_
  obtain ⟨v1, hv1, hE⟩ := Option.bind_eq_some_iff.mp hE
  refine r_gR 3 (C := RX1) (T := TX1) (N := 4) (ci := 1) hx hb hts (by decide +kernel) hown hK hH hv1 rfl (by decide) (hts (.fieldLink RX1 18 "KindStreets$Measures" "alike" "[I") (by decide +kernel)) (fun _ h9 => h9) dX1_mostAlike_1 ?_
  refine lv_iconst (v := 0) hx hb dX1_mostAlike_4 (by decide) ?_
  obtain ⟨z2, hz2, hE⟩ := Option.bind_eq_some_iff.mp hE
  refine r_callV (va_runS (As := [.ref (b0 + v1), .int 0]) (rest := []) ⟨hx, hb, hml, hown, hts⟩ (sJ7_fill_53178 l b0 D cA hz2) (va_cwS 2 hts gX1_mostAlike_J7_fill_53178 rfl rfl rfl (by decide +kernel) (rm_ok (by decide) (by decide))) (pre_S hK hH) rfl rfl hl.1 rfl (lv_room (Nat.le_of_ble_eq_true rfl)) dX1_mostAlike_5 ⟨Nat.zero_le _, Nat.zero_le _⟩) hS (fun H locs hH hS => ?_)
  refine lv_iconst (v := 0) hx hb dX1_mostAlike_8 (by decide) ?_
  refine lv_istore_n (lv' := [(2, .int 0), (0, .ref (b0 + a0)), (1, .int x1)]) hx hb dX1_mostAlike_9 rfl hl (by decide) rfl (fun ls hl => ?_)
  refine lv_iconst (v := 0) hx hb dX1_mostAlike_10 (by decide) ?_
  refine lv_istore_n (lv' := [(3, .int 0), (2, .int 0), (0, .ref (b0 + a0)), (1, .int x1)]) hx hb dX1_mostAlike_11 rfl hl (by decide) rfl (fun ls hl => ?_)
  exact sX1_mostAlike_b12 (F := F) hC F _ _ _ _ _ hE _ _ _ hH hS (lv_sub hl [2, 3, 1, 0] rfl)
-- X3_loseOldest
def fX3_loseOldest_b9c (F : Nat) (k9 : Nat → Nat → Int32 → HL → Option HL) (a0 : Nat) (x1 : Nat) (x2 : Int32) (L : HL) : Option HL := if 10 ≤ x2 then ((o_gR L a0 3 1).bind fun v4 => (o_sR L v4 3 2 9 x1).bind fun L5 => (o_p L5 a0 3 2 (.int 9)).bind fun L6 => some L6) else ((o_gR L a0 3 1).bind fun v7 => (o_gR L a0 3 1).bind fun v8 => (o_aR L v8 3 x2).bind fun v9 => (o_sR L v7 3 2 (x2 - 1) v9).bind fun L10 => k9 a0 x1 (x2 + 1) L10)
def fX3_loseOldest_b9 (F : Nat) : Nat → Nat → Nat → Int32 → HL → Option HL
  | 0 => fun _ _ _ _ => none
  | n + 1 => fun a0 x1 x2 L => fX3_loseOldest_b9c F (fX3_loseOldest_b9 F n) a0 x1 x2 L
set_option maxHeartbeats 4000000 in
set_option maxRecDepth 100000 in
theorem sX3_loseOldest_b9c {b0 : Nat} {D : va_G} {cA : Nat → ClassId} {p : Program} {l : Launch} {ev : Env} {s : State} {m : MethodId} {args : Array Value} {below : List Frame} {meth : Method} {c : Code} {F : Nat} {z : HL} {k9 : Nat → Nat → Int32 → HL → Option HL} {a0 : Nat} {x1 : Nat} {x2 : Int32} {L : HL} (hC : Cx D cA p s m args meth c cX3_loseOldest 3 RX3 wsX3_loseOldest none) (hk9 : ∀ (a0' : Nat) (x1' : Nat) (x2' : Int32) (L' : HL), k9 a0' x1' x2' L' = some z → WB b0 D cA p l ev (RM 0 0 0) s m args below meth c 3 0 0 (MQ below (Qk b0 D cA none z) args s 0 0 (Ab b0)) 9 [(0, .ref (b0 + a0')), (1, .ref (b0 + x1')), (2, .int x2')] [] L') (hE : fX3_loseOldest_b9c F k9 a0 x1 x2 L = some z) : WB b0 D cA p l ev (RM 0 0 0) s m args below meth c 3 0 0 (MQ below (Qk b0 D cA none z) args s 0 0 (Ab b0)) 9 [(0, .ref (b0 + a0)), (1, .ref (b0 + x1)), (2, .int x2)] [] L := by
  obtain ⟨hx, hb, hml, hown, hts, hK, hr, hlocks⟩ := id hC
  intro H locs ls hH hS hl
  unfold fX3_loseOldest_b9c at hE
  refine lv_iload_n hx hb dX3_loseOldest_9 rfl (lv_at hl 2 rfl) ?_
  refine lv_bipush (v := 10) hx hb dX3_loseOldest_10 (by decide) ?_
  refine lv_icmp_ge (tgt := 35) hx hb dX3_loseOldest_12 (by decide) (fun c3 => ?_) (fun c3 => ?_)
  · rw [if_pos c3] at hE
    refine lv_aload_n hx hb dX3_loseOldest_35 rfl (lv_at hl 0 rfl) ?_
    obtain ⟨v4, hv4, hE⟩ := Option.bind_eq_some_iff.mp hE
    refine r_gR 1 (C := RX3) (T := TX3) (N := 3) (ci := 3) hx hb hts (by decide +kernel) hown hK hH hv4 rfl (by decide) (hts (.fieldLink RX3 18 "KindStreets$Now" "past" "[LKindStreets$Moment;") (by decide +kernel)) (fun _ h9 => h9) dX3_loseOldest_36 ?_
    refine lv_bipush (v := 9) hx hb dX3_loseOldest_39 (by decide) ?_
    refine lv_aload_n hx hb dX3_loseOldest_41 rfl (lv_at hl 1 rfl) ?_
    obtain ⟨L5, hL5, hE⟩ := Option.bind_eq_some_iff.mp hE
    refine r_aast (r := (RX2, TX2, 5)) hx hb hK hH hS hL5 rfl rfl dX3_loseOldest_42 (fun H locs hH hS => ?_)
    refine lv_aload_n hx hb dX3_loseOldest_43 rfl (lv_at hl 0 rfl) ?_
    refine lv_bipush (v := 9) hx hb dX3_loseOldest_44 (by decide) ?_
    obtain ⟨L6, hL6, hE⟩ := Option.bind_eq_some_iff.mp hE
    refine r_p 2 (v := .int 9) (ty := .int) (C := RX3) (T := TX3) (N := 3) (ci := 3) hx hb hts (by decide +kernel) tyX3 tyX3_ok nmX3 hown hK hH hS hL6 rfl (by decide) (hts (.fieldLink RX3 26 "KindStreets$Now" "known" "I") (by decide +kernel)) (fun _ h9 => h9) rfl (by decide +kernel) rfl rfl dX3_loseOldest_46 (fun H locs hH hS => ?_)
    have hZ := Option.some.inj hE
    subst hZ
    exact W.vret hx hb hr (fun t ht hW => ⟨rfl, by rw [ht]; exact hH, hS.F ht⟩) hS.2.2 dX3_loseOldest_49
  · rw [if_neg c3] at hE
    refine lv_aload_n hx hb dX3_loseOldest_15 rfl (lv_at hl 0 rfl) ?_
    obtain ⟨v7, hv7, hE⟩ := Option.bind_eq_some_iff.mp hE
    refine r_gR 1 (C := RX3) (T := TX3) (N := 3) (ci := 3) hx hb hts (by decide +kernel) hown hK hH hv7 rfl (by decide) (hts (.fieldLink RX3 18 "KindStreets$Now" "past" "[LKindStreets$Moment;") (by decide +kernel)) (fun _ h9 => h9) dX3_loseOldest_16 ?_
    refine lv_iload_n hx hb dX3_loseOldest_19 rfl (lv_at hl 2 rfl) ?_
    refine lv_iconst (v := 1) hx hb dX3_loseOldest_20 (by decide) ?_
    refine lv_isub hx hb dX3_loseOldest_21 ?_
    refine lv_aload_n hx hb dX3_loseOldest_22 rfl (lv_at hl 0 rfl) ?_
    obtain ⟨v8, hv8, hE⟩ := Option.bind_eq_some_iff.mp hE
    refine r_gR 1 (C := RX3) (T := TX3) (N := 3) (ci := 3) hx hb hts (by decide +kernel) hown hK hH hv8 rfl (by decide) (hts (.fieldLink RX3 18 "KindStreets$Now" "past" "[LKindStreets$Moment;") (by decide +kernel)) (fun _ h9 => h9) dX3_loseOldest_23 ?_
    refine lv_iload_n hx hb dX3_loseOldest_26 rfl (lv_at hl 2 rfl) ?_
    obtain ⟨v9, hv9, hE⟩ := Option.bind_eq_some_iff.mp hE
    refine r_aald (C := "KindStreets$Moment") hx hb hK hH hv9 rfl dX3_loseOldest_27 ?_
    obtain ⟨L10, hL10, hE⟩ := Option.bind_eq_some_iff.mp hE
    refine r_aast (r := (RX2, TX2, 5)) hx hb hK hH hS hL10 rfl rfl dX3_loseOldest_28 (fun H locs hH hS => ?_)
    refine lv_iinc (v := (x2 + 1)) (lv' := [(2, .int (x2 + 1)), (0, .ref (b0 + a0)), (1, .ref (b0 + x1))]) hx hb dX3_loseOldest_29 hl (k := 2) rfl rfl (by decide) rfl (fun ls hl => ?_)
    refine lv_goto (tgt := 9) hx hb dX3_loseOldest_32 (by decide) ?_
    exact hk9 _ _ _ _ hE _ _ _ hH hS (lv_sub hl [1, 2, 0] rfl)
theorem sX3_loseOldest_b9 {b0 : Nat} {D : va_G} {cA : Nat → ClassId} {p : Program} {l : Launch} {ev : Env} {s : State} {m : MethodId} {args : Array Value} {below : List Frame} {meth : Method} {c : Code} {F : Nat} {z : HL} (hC : Cx D cA p s m args meth c cX3_loseOldest 3 RX3 wsX3_loseOldest none) : ∀ (n : Nat) (a0 : Nat) (x1 : Nat) (x2 : Int32) (L : HL), fX3_loseOldest_b9 F n a0 x1 x2 L = some z → WB b0 D cA p l ev (RM 0 0 0) s m args below meth c 3 0 0 (MQ below (Qk b0 D cA none z) args s 0 0 (Ab b0)) 9 [(0, .ref (b0 + a0)), (1, .ref (b0 + x1)), (2, .int x2)] [] L := by
  intro n
  induction n with
  | zero => intro a0 x1 x2 L hE; cases hE
  | succ n ih => intro a0 x1 x2 L hE; exact sX3_loseOldest_b9c (F := F) hC ih hE
def fX3_loseOldest (F : Nat) (L : HL) (a0 : Nat) : Option HL := (o_ob L a0 3).bind fun _ => (o_gR L a0 3 1).bind fun v1 => (o_aR L v1 3 0).bind fun v2 => fX3_loseOldest_b9 F F a0 v2 1 L
theorem oX3_loseOldest {F : Nat} {L : HL} {a0 : Nat} {z : HL} (hE : fX3_loseOldest F L a0 = some z) : o_ob L a0 3 = some () := by
  obtain ⟨_, h, _⟩ := Option.bind_eq_some_iff.mp hE
  exact h
set_option maxHeartbeats 4000000 in
set_option maxRecDepth 100000 in
theorem sX3_loseOldest (l : Launch) (b0 : Nat) (D : va_G) (cA : Nat → ClassId) {F : Nat} {L : HL} {a0 : Nat} {z : HL} (hE : fX3_loseOldest F L a0 = some z) : Met l yX3_loseOldest wsX3_loseOldest (RM 0 0 0) (Pk b0 D cA [.ref (b0 + a0)] L) (Qk b0 D cA none z) 0 0 (Ab b0) := by
  refine Met.ofW (cc := cX3_loseOldest) (maxL := 3) (ret := none) (by decide) rfl ?_
  intro p ev s m args below meth c s₁ B hml hv
  obtain ⟨rfl, hH, hK⟩ := hv
  have hx := B.exec
  have hb := B.bytes
  have hr := B.returns
  have hts := atoms_spec (ws := wsX3_loseOldest) B.pre
  have hown : s.vm.findClass RX3 = some m.cls := findClass_of_methodNamed B.named
  have hlocks := B.notSynchronized
  have hC : Cx D cA p s m _ meth c cX3_loseOldest 3 RX3 wsX3_loseOldest none := ⟨hx, hb, hml, hown, hts, hK, hr, hlocks⟩
  have hS : va_S (Ab b0) s.heap s.heap [] := va_S.rf
  have hl := lv_entry ([.ref (b0 + a0)]) (n := 3) (Nat.le_of_ble_eq_true rfl)
  rw [lg_entry_eq]
  generalize (lg_sl ([.ref (b0 + a0)]) ++ List.replicate (3 - (lg_sl ([.ref (b0 + a0)])).length) Slot.unset).toArray = ls at hl ⊢
  have hl : lv_has ls 3 [(0, .ref (b0 + a0))] := hl
  unfold fX3_loseOldest at hE
  obtain ⟨_, _, hE⟩ := Option.bind_eq_some_iff.mp hE
  refine lv_aload_n hx hb dX3_loseOldest_0 rfl (lv_at hl 0 rfl) ?_
  obtain ⟨v1, hv1, hE⟩ := Option.bind_eq_some_iff.mp hE
  refine r_gR 1 (C := RX3) (T := TX3) (N := 3) (ci := 3) hx hb hts (by decide +kernel) hown hK hH hv1 rfl (by decide) (hts (.fieldLink RX3 18 "KindStreets$Now" "past" "[LKindStreets$Moment;") (by decide +kernel)) (fun _ h9 => h9) dX3_loseOldest_1 ?_
  refine lv_iconst (v := 0) hx hb dX3_loseOldest_4 (by decide) ?_
  obtain ⟨v2, hv2, hE⟩ := Option.bind_eq_some_iff.mp hE
  refine r_aald (C := "KindStreets$Moment") hx hb hK hH hv2 rfl dX3_loseOldest_5 ?_
  refine lv_astore_n (lv' := [(1, .ref (b0 + v2)), (0, .ref (b0 + a0))]) hx hb dX3_loseOldest_6 rfl hl (by decide) rfl (fun ls hl => ?_)
  refine lv_iconst (v := 1) hx hb dX3_loseOldest_7 (by decide) ?_
  refine lv_istore_n (lv' := [(2, .int 1), (1, .ref (b0 + v2)), (0, .ref (b0 + a0))]) hx hb dX3_loseOldest_8 rfl hl (by decide) rfl (fun ls hl => ?_)
  exact sX3_loseOldest_b9 (F := F) hC F _ _ _ _ hE _ _ _ hH hS (lv_sub hl [2, 1, 0] rfl)
-- X3_begin
def fX3_begin (F : Nat) (L : HL) (a0 : Nat) (x1 : Nat) : Option HL := (o_ob L a0 3).bind fun _ => (o_gR L a0 3 0).bind fun v1 => (fX2_begin F L v1 x1).bind fun z2 => (o_p z2 a0 3 2 (.int 0)).bind fun L3 => some L3
theorem oX3_begin {F : Nat} {L : HL} {a0 : Nat} {x1 : Nat} {z : HL} (hE : fX3_begin F L a0 x1 = some z) : o_ob L a0 3 = some () := by
  obtain ⟨_, h, _⟩ := Option.bind_eq_some_iff.mp hE
  exact h
set_option maxHeartbeats 4000000 in
set_option maxRecDepth 100000 in
theorem sX3_begin (l : Launch) (b0 : Nat) (D : va_G) (cA : Nat → ClassId) {F : Nat} {L : HL} {a0 : Nat} {x1 : Nat} {z : HL} (hE : fX3_begin F L a0 x1 = some z) : Met l yX3_begin wsX3_begin (RM 2 0 0) (Pk b0 D cA [.ref (b0 + a0), .ref (b0 + x1)] L) (Qk b0 D cA none z) 0 0 (Ab b0) := by
  refine Met.ofW (cc := cX3_begin) (maxL := 2) (ret := none) (by decide) rfl ?_
  intro p ev s m args below meth c s₁ B hml hv
  obtain ⟨rfl, hH, hK⟩ := hv
  have hx := B.exec
  have hb := B.bytes
  have hr := B.returns
  have hts := atoms_spec (ws := wsX3_begin) B.pre
  have hown : s.vm.findClass RX3 = some m.cls := findClass_of_methodNamed B.named
  have hlocks := B.notSynchronized
  have hC : Cx D cA p s m _ meth c cX3_begin 2 RX3 wsX3_begin none := ⟨hx, hb, hml, hown, hts, hK, hr, hlocks⟩
  have hS : va_S (Ab b0) s.heap s.heap [] := va_S.rf
  have hl := lv_entry ([.ref (b0 + a0), .ref (b0 + x1)]) (n := 2) (Nat.le_of_ble_eq_true rfl)
  rw [lg_entry_eq]
  generalize (lg_sl ([.ref (b0 + a0), .ref (b0 + x1)]) ++ List.replicate (2 - (lg_sl ([.ref (b0 + a0), .ref (b0 + x1)])).length) Slot.unset).toArray = ls at hl ⊢
  have hl : lv_has ls 2 [(0, .ref (b0 + a0)), (1, .ref (b0 + x1))] := hl
  unfold fX3_begin at hE
  obtain ⟨_, _, hE⟩ := Option.bind_eq_some_iff.mp hE
  refine lv_aload_n hx hb dX3_begin_0 rfl (lv_at hl 0 rfl) ?_
  obtain ⟨v1, hv1, hE⟩ := Option.bind_eq_some_iff.mp hE
  refine r_gR 0 (C := RX3) (T := TX3) (N := 3) (ci := 3) hx hb hts (by decide +kernel) hown hK hH hv1 rfl (by decide) (hts (.fieldLink RX3 12 "KindStreets$Now" "moment" "LKindStreets$Moment;") (by decide +kernel)) (fun _ h9 => h9) dX3_begin_1 ?_
  refine lv_aload_n hx hb dX3_begin_4 rfl (lv_at hl 1 rfl) ?_
  obtain ⟨z2, hz2, hE⟩ := Option.bind_eq_some_iff.mp hE
  refine r_callV (va_runV (As := [.ref (b0 + x1)]) (rest := []) ⟨hx, hb, hml, hown, hts⟩ (sX2_begin l b0 D cA hz2) (cwV 1 hts gX3_begin_X2_begin rfl rfl rfl (by decide +kernel) (rm_ok (by decide) (by decide))) (pre_V (ci := 2) hK hH (oX2_begin hz2) rfl) rfl rfl hl.1 rfl (lv_room (Nat.le_of_ble_eq_true rfl)) dX3_begin_5 ⟨Nat.zero_le _, Nat.zero_le _⟩) hS (fun H locs hH hS => ?_)
  refine lv_aload_n hx hb dX3_begin_8 rfl (lv_at hl 0 rfl) ?_
  refine lv_iconst (v := 0) hx hb dX3_begin_9 (by decide) ?_
  obtain ⟨L3, hL3, hE⟩ := Option.bind_eq_some_iff.mp hE
  refine r_p 2 (v := .int 0) (ty := .int) (C := RX3) (T := TX3) (N := 3) (ci := 3) hx hb hts (by decide +kernel) tyX3 tyX3_ok nmX3 hown hK hH hS hL3 rfl (by decide) (hts (.fieldLink RX3 26 "KindStreets$Now" "known" "I") (by decide +kernel)) (fun _ h9 => h9) rfl (by decide +kernel) rfl rfl dX3_begin_10 (fun H locs hH hS => ?_)
  have hZ := Option.some.inj hE
  subst hZ
  exact W.vret hx hb hr (fun t ht hW => ⟨rfl, by rw [ht]; exact hH, hS.F ht⟩) hS.2.2 dX3_begin_13
-- X3_become
def fX3_become_b13c (F : Nat) (k13 : Nat → Nat → Int32 → HL → Option HL) (a0 : Nat) (x1 : Nat) (x2 : Int32) (L : HL) : Option HL := if 10 ≤ x2 then ((o_gI L x1 3 2).bind fun v5 => (o_p L a0 3 2 (.int v5)).bind fun L6 => some L6) else ((o_gR L a0 3 1).bind fun v7 => (o_aR L v7 3 x2).bind fun v8 => (o_gR L x1 3 1).bind fun v9 => (o_aR L v9 3 x2).bind fun v10 => (fX2_become F L v8 v10).bind fun z11 => k13 a0 x1 (x2 + 1) z11)
def fX3_become_b13 (F : Nat) : Nat → Nat → Nat → Int32 → HL → Option HL
  | 0 => fun _ _ _ _ => none
  | n + 1 => fun a0 x1 x2 L => fX3_become_b13c F (fX3_become_b13 F n) a0 x1 x2 L
set_option maxHeartbeats 4000000 in
set_option maxRecDepth 100000 in
theorem sX3_become_b13c {b0 : Nat} {D : va_G} {cA : Nat → ClassId} {p : Program} {l : Launch} {ev : Env} {s : State} {m : MethodId} {args : Array Value} {below : List Frame} {meth : Method} {c : Code} {F : Nat} {z : HL} {k13 : Nat → Nat → Int32 → HL → Option HL} {a0 : Nat} {x1 : Nat} {x2 : Int32} {L : HL} (hC : Cx D cA p s m args meth c cX3_become 3 RX3 wsX3_become none) (hk13 : ∀ (a0' : Nat) (x1' : Nat) (x2' : Int32) (L' : HL), k13 a0' x1' x2' L' = some z → WB b0 D cA p l ev (RM 2 0 0) s m args below meth c 3 0 0 (MQ below (Qk b0 D cA none z) args s 0 0 (Ab b0)) 13 [(0, .ref (b0 + a0')), (1, .ref (b0 + x1')), (2, .int x2')] [] L') (hE : fX3_become_b13c F k13 a0 x1 x2 L = some z) : WB b0 D cA p l ev (RM 2 0 0) s m args below meth c 3 0 0 (MQ below (Qk b0 D cA none z) args s 0 0 (Ab b0)) 13 [(0, .ref (b0 + a0)), (1, .ref (b0 + x1)), (2, .int x2)] [] L := by
  obtain ⟨hx, hb, hml, hown, hts, hK, hr, hlocks⟩ := id hC
  intro H locs ls hH hS hl
  unfold fX3_become_b13c at hE
  refine lv_iload_n hx hb dX3_become_13 rfl (lv_at hl 2 rfl) ?_
  refine lv_bipush (v := 10) hx hb dX3_become_14 (by decide) ?_
  refine lv_icmp_ge (tgt := 40) hx hb dX3_become_16 (by decide) (fun c4 => ?_) (fun c4 => ?_)
  · rw [if_pos c4] at hE
    refine lv_aload_n hx hb dX3_become_40 rfl (lv_at hl 0 rfl) ?_
    refine lv_aload_n hx hb dX3_become_41 rfl (lv_at hl 1 rfl) ?_
    obtain ⟨v5, hv5, hE⟩ := Option.bind_eq_some_iff.mp hE
    refine r_gI 2 (C := RX3) (T := TX3) (N := 3) (ci := 3) hx hb hts (by decide +kernel) hown hK hH hv5 rfl (by decide) (hts (.fieldLink RX3 26 "KindStreets$Now" "known" "I") (by decide +kernel)) (fun _ h9 => h9) dX3_become_42 ?_
    obtain ⟨L6, hL6, hE⟩ := Option.bind_eq_some_iff.mp hE
    refine r_p 2 (v := .int v5) (ty := .int) (C := RX3) (T := TX3) (N := 3) (ci := 3) hx hb hts (by decide +kernel) tyX3 tyX3_ok nmX3 hown hK hH hS hL6 rfl (by decide) (hts (.fieldLink RX3 26 "KindStreets$Now" "known" "I") (by decide +kernel)) (fun _ h9 => h9) rfl (by decide +kernel) rfl rfl dX3_become_45 (fun H locs hH hS => ?_)
    have hZ := Option.some.inj hE
    subst hZ
    exact W.vret hx hb hr (fun t ht hW => ⟨rfl, by rw [ht]; exact hH, hS.F ht⟩) hS.2.2 dX3_become_48
  · rw [if_neg c4] at hE
    refine lv_aload_n hx hb dX3_become_19 rfl (lv_at hl 0 rfl) ?_
    obtain ⟨v7, hv7, hE⟩ := Option.bind_eq_some_iff.mp hE
    refine r_gR 1 (C := RX3) (T := TX3) (N := 3) (ci := 3) hx hb hts (by decide +kernel) hown hK hH hv7 rfl (by decide) (hts (.fieldLink RX3 18 "KindStreets$Now" "past" "[LKindStreets$Moment;") (by decide +kernel)) (fun _ h9 => h9) dX3_become_20 ?_
    refine lv_iload_n hx hb dX3_become_23 rfl (lv_at hl 2 rfl) ?_
    obtain ⟨v8, hv8, hE⟩ := Option.bind_eq_some_iff.mp hE
    refine r_aald (C := "KindStreets$Moment") hx hb hK hH hv8 rfl dX3_become_24 ?_
    refine lv_aload_n hx hb dX3_become_25 rfl (lv_at hl 1 rfl) ?_
    obtain ⟨v9, hv9, hE⟩ := Option.bind_eq_some_iff.mp hE
    refine r_gR 1 (C := RX3) (T := TX3) (N := 3) (ci := 3) hx hb hts (by decide +kernel) hown hK hH hv9 rfl (by decide) (hts (.fieldLink RX3 18 "KindStreets$Now" "past" "[LKindStreets$Moment;") (by decide +kernel)) (fun _ h9 => h9) dX3_become_26 ?_
    refine lv_iload_n hx hb dX3_become_29 rfl (lv_at hl 2 rfl) ?_
    obtain ⟨v10, hv10, hE⟩ := Option.bind_eq_some_iff.mp hE
    refine r_aald (C := "KindStreets$Moment") hx hb hK hH hv10 rfl dX3_become_30 ?_
    obtain ⟨z11, hz11, hE⟩ := Option.bind_eq_some_iff.mp hE
    refine r_callV (va_runV (As := [.ref (b0 + v10)]) (rest := []) ⟨hx, hb, hml, hown, hts⟩ (sX2_become l b0 D cA hz11) (cwV 1 hts gX3_become_X2_become rfl rfl rfl (by decide +kernel) (rm_ok (by decide) (by decide))) (pre_V (ci := 2) hK hH (oX2_become hz11) rfl) rfl rfl hl.1 rfl (lv_room (Nat.le_of_ble_eq_true rfl)) dX3_become_31 ⟨Nat.zero_le _, Nat.zero_le _⟩) hS (fun H locs hH hS => ?_)
    refine lv_iinc (v := (x2 + 1)) (lv' := [(2, .int (x2 + 1)), (0, .ref (b0 + a0)), (1, .ref (b0 + x1))]) hx hb dX3_become_34 hl (k := 2) rfl rfl (by decide) rfl (fun ls hl => ?_)
    refine lv_goto (tgt := 13) hx hb dX3_become_37 (by decide) ?_
    exact hk13 _ _ _ _ hE _ _ _ hH hS (lv_sub hl [1, 2, 0] rfl)
theorem sX3_become_b13 {b0 : Nat} {D : va_G} {cA : Nat → ClassId} {p : Program} {l : Launch} {ev : Env} {s : State} {m : MethodId} {args : Array Value} {below : List Frame} {meth : Method} {c : Code} {F : Nat} {z : HL} (hC : Cx D cA p s m args meth c cX3_become 3 RX3 wsX3_become none) : ∀ (n : Nat) (a0 : Nat) (x1 : Nat) (x2 : Int32) (L : HL), fX3_become_b13 F n a0 x1 x2 L = some z → WB b0 D cA p l ev (RM 2 0 0) s m args below meth c 3 0 0 (MQ below (Qk b0 D cA none z) args s 0 0 (Ab b0)) 13 [(0, .ref (b0 + a0)), (1, .ref (b0 + x1)), (2, .int x2)] [] L := by
  intro n
  induction n with
  | zero => intro a0 x1 x2 L hE; cases hE
  | succ n ih => intro a0 x1 x2 L hE; exact sX3_become_b13c (F := F) hC ih hE
def fX3_become (F : Nat) (L : HL) (a0 : Nat) (x1 : Nat) : Option HL := (o_ob L a0 3).bind fun _ => (o_gR L a0 3 0).bind fun v1 => (o_gR L x1 3 0).bind fun v2 => (fX2_become F L v1 v2).bind fun z3 => fX3_become_b13 F F a0 x1 0 z3
theorem oX3_become {F : Nat} {L : HL} {a0 : Nat} {x1 : Nat} {z : HL} (hE : fX3_become F L a0 x1 = some z) : o_ob L a0 3 = some () := by
  obtain ⟨_, h, _⟩ := Option.bind_eq_some_iff.mp hE
  exact h
set_option maxHeartbeats 4000000 in
set_option maxRecDepth 100000 in
theorem sX3_become (l : Launch) (b0 : Nat) (D : va_G) (cA : Nat → ClassId) {F : Nat} {L : HL} {a0 : Nat} {x1 : Nat} {z : HL} (hE : fX3_become F L a0 x1 = some z) : Met l yX3_become wsX3_become (RM 2 0 0) (Pk b0 D cA [.ref (b0 + a0), .ref (b0 + x1)] L) (Qk b0 D cA none z) 0 0 (Ab b0) := by
  refine Met.ofW (cc := cX3_become) (maxL := 3) (ret := none) (by decide) rfl ?_
  intro p ev s m args below meth c s₁ B hml hv
  obtain ⟨rfl, hH, hK⟩ := hv
  have hx := B.exec
  have hb := B.bytes
  have hr := B.returns
  have hts := atoms_spec (ws := wsX3_become) B.pre
  have hown : s.vm.findClass RX3 = some m.cls := findClass_of_methodNamed B.named
  have hlocks := B.notSynchronized
  have hC : Cx D cA p s m _ meth c cX3_become 3 RX3 wsX3_become none := ⟨hx, hb, hml, hown, hts, hK, hr, hlocks⟩
  have hS : va_S (Ab b0) s.heap s.heap [] := va_S.rf
  have hl := lv_entry ([.ref (b0 + a0), .ref (b0 + x1)]) (n := 3) (Nat.le_of_ble_eq_true rfl)
  rw [lg_entry_eq]
  generalize (lg_sl ([.ref (b0 + a0), .ref (b0 + x1)]) ++ List.replicate (3 - (lg_sl ([.ref (b0 + a0), .ref (b0 + x1)])).length) Slot.unset).toArray = ls at hl ⊢
  have hl : lv_has ls 3 [(0, .ref (b0 + a0)), (1, .ref (b0 + x1))] := hl
  unfold fX3_become at hE
  obtain ⟨_, _, hE⟩ := Option.bind_eq_some_iff.mp hE
  refine lv_aload_n hx hb dX3_become_0 rfl (lv_at hl 0 rfl) ?_
  obtain ⟨v1, hv1, hE⟩ := Option.bind_eq_some_iff.mp hE
  refine r_gR 0 (C := RX3) (T := TX3) (N := 3) (ci := 3) hx hb hts (by decide +kernel) hown hK hH hv1 rfl (by decide) (hts (.fieldLink RX3 12 "KindStreets$Now" "moment" "LKindStreets$Moment;") (by decide +kernel)) (fun _ h9 => h9) dX3_become_1 ?_
  refine lv_aload_n hx hb dX3_become_4 rfl (lv_at hl 1 rfl) ?_
  obtain ⟨v2, hv2, hE⟩ := Option.bind_eq_some_iff.mp hE
  refine r_gR 0 (C := RX3) (T := TX3) (N := 3) (ci := 3) hx hb hts (by decide +kernel) hown hK hH hv2 rfl (by decide) (hts (.fieldLink RX3 12 "KindStreets$Now" "moment" "LKindStreets$Moment;") (by decide +kernel)) (fun _ h9 => h9) dX3_become_5 ?_
  obtain ⟨z3, hz3, hE⟩ := Option.bind_eq_some_iff.mp hE
  refine r_callV (va_runV (As := [.ref (b0 + v2)]) (rest := []) ⟨hx, hb, hml, hown, hts⟩ (sX2_become l b0 D cA hz3) (cwV 1 hts gX3_become_X2_become rfl rfl rfl (by decide +kernel) (rm_ok (by decide) (by decide))) (pre_V (ci := 2) hK hH (oX2_become hz3) rfl) rfl rfl hl.1 rfl (lv_room (Nat.le_of_ble_eq_true rfl)) dX3_become_8 ⟨Nat.zero_le _, Nat.zero_le _⟩) hS (fun H locs hH hS => ?_)
  refine lv_iconst (v := 0) hx hb dX3_become_11 (by decide) ?_
  refine lv_istore_n (lv' := [(2, .int 0), (0, .ref (b0 + a0)), (1, .ref (b0 + x1))]) hx hb dX3_become_12 rfl hl (by decide) rfl (fun ls hl => ?_)
  exact sX3_become_b13 (F := F) hC F _ _ _ _ hE _ _ _ hH hS (lv_sub hl [1, 2, 0] rfl)
-- X3_remember
def fX3_remember_b13 (F : Nat) (a0 : Nat) (L : HL) : Option HL := (o_gR L a0 3 1).bind fun v3 => (o_gI L a0 3 2).bind fun v4 => (o_aR L v3 3 v4).bind fun v5 => (o_gR L a0 3 0).bind fun v6 => (fX2_become F L v5 v6).bind fun z7 => (o_gI z7 a0 3 2).bind fun v8 => (o_p z7 a0 3 2 (.int (v8 + 1))).bind fun L9 => some L9
set_option maxHeartbeats 4000000 in
set_option maxRecDepth 100000 in
theorem sX3_remember_b13 {b0 : Nat} {D : va_G} {cA : Nat → ClassId} {p : Program} {l : Launch} {ev : Env} {s : State} {m : MethodId} {args : Array Value} {below : List Frame} {meth : Method} {c : Code} {F : Nat} {z : HL} {a0 : Nat} {L : HL} (hC : Cx D cA p s m args meth c cX3_remember 1 RX3 wsX3_remember none) (hE : fX3_remember_b13 F a0 L = some z) : WB b0 D cA p l ev (RM 2 0 0) s m args below meth c 1 0 0 (MQ below (Qk b0 D cA none z) args s 0 0 (Ab b0)) 13 [(0, .ref (b0 + a0))] [] L := by
  obtain ⟨hx, hb, hml, hown, hts, hK, hr, hlocks⟩ := id hC
  intro H locs ls hH hS hl
  unfold fX3_remember_b13 at hE
  refine lv_aload_n hx hb dX3_remember_13 rfl (lv_at hl 0 rfl) ?_
  obtain ⟨v3, hv3, hE⟩ := Option.bind_eq_some_iff.mp hE
  refine r_gR 1 (C := RX3) (T := TX3) (N := 3) (ci := 3) hx hb hts (by decide +kernel) hown hK hH hv3 rfl (by decide) (hts (.fieldLink RX3 18 "KindStreets$Now" "past" "[LKindStreets$Moment;") (by decide +kernel)) (fun _ h9 => h9) dX3_remember_14 ?_
  refine lv_aload_n hx hb dX3_remember_17 rfl (lv_at hl 0 rfl) ?_
  obtain ⟨v4, hv4, hE⟩ := Option.bind_eq_some_iff.mp hE
  refine r_gI 2 (C := RX3) (T := TX3) (N := 3) (ci := 3) hx hb hts (by decide +kernel) hown hK hH hv4 rfl (by decide) (hts (.fieldLink RX3 26 "KindStreets$Now" "known" "I") (by decide +kernel)) (fun _ h9 => h9) dX3_remember_18 ?_
  obtain ⟨v5, hv5, hE⟩ := Option.bind_eq_some_iff.mp hE
  refine r_aald (C := "KindStreets$Moment") hx hb hK hH hv5 rfl dX3_remember_21 ?_
  refine lv_aload_n hx hb dX3_remember_22 rfl (lv_at hl 0 rfl) ?_
  obtain ⟨v6, hv6, hE⟩ := Option.bind_eq_some_iff.mp hE
  refine r_gR 0 (C := RX3) (T := TX3) (N := 3) (ci := 3) hx hb hts (by decide +kernel) hown hK hH hv6 rfl (by decide) (hts (.fieldLink RX3 12 "KindStreets$Now" "moment" "LKindStreets$Moment;") (by decide +kernel)) (fun _ h9 => h9) dX3_remember_23 ?_
  obtain ⟨z7, hz7, hE⟩ := Option.bind_eq_some_iff.mp hE
  refine r_callV (va_runV (As := [.ref (b0 + v6)]) (rest := []) ⟨hx, hb, hml, hown, hts⟩ (sX2_become l b0 D cA hz7) (cwV 1 hts gX3_remember_X2_become rfl rfl rfl (by decide +kernel) (rm_ok (by decide) (by decide))) (pre_V (ci := 2) hK hH (oX2_become hz7) rfl) rfl rfl hl.1 rfl (lv_room (Nat.le_of_ble_eq_true rfl)) dX3_remember_26 ⟨Nat.zero_le _, Nat.zero_le _⟩) hS (fun H locs hH hS => ?_)
  refine lv_aload_n hx hb dX3_remember_29 rfl (lv_at hl 0 rfl) ?_
  refine lv_dup hx hb dX3_remember_30 rfl ?_
  obtain ⟨v8, hv8, hE⟩ := Option.bind_eq_some_iff.mp hE
  refine r_gI 2 (C := RX3) (T := TX3) (N := 3) (ci := 3) hx hb hts (by decide +kernel) hown hK hH hv8 rfl (by decide) (hts (.fieldLink RX3 26 "KindStreets$Now" "known" "I") (by decide +kernel)) (fun _ h9 => h9) dX3_remember_31 ?_
  refine lv_iconst (v := 1) hx hb dX3_remember_34 (by decide) ?_
  refine lv_iadd hx hb dX3_remember_35 ?_
  obtain ⟨L9, hL9, hE⟩ := Option.bind_eq_some_iff.mp hE
  refine r_p 2 (v := .int (v8 + 1)) (ty := .int) (C := RX3) (T := TX3) (N := 3) (ci := 3) hx hb hts (by decide +kernel) tyX3 tyX3_ok nmX3 hown hK hH hS hL9 rfl (by decide) (hts (.fieldLink RX3 26 "KindStreets$Now" "known" "I") (by decide +kernel)) (fun _ h9 => h9) rfl (by decide +kernel) rfl rfl dX3_remember_36 (fun H locs hH hS => ?_)
  have hZ := Option.some.inj hE
  subst hZ
  exact W.vret hx hb hr (fun t ht hW => ⟨rfl, by rw [ht]; exact hH, hS.F ht⟩) hS.2.2 dX3_remember_39
def fX3_remember (F : Nat) (L : HL) (a0 : Nat) : Option HL := (o_ob L a0 3).bind fun _ => (o_gI L a0 3 2).bind fun v1 => if v1 < 10 then (fX3_remember_b13 F a0 L) else ((fX3_loseOldest F L a0).bind fun z10 => fX3_remember_b13 F a0 z10)
theorem oX3_remember {F : Nat} {L : HL} {a0 : Nat} {z : HL} (hE : fX3_remember F L a0 = some z) : o_ob L a0 3 = some () := by
  obtain ⟨_, h, _⟩ := Option.bind_eq_some_iff.mp hE
  exact h
set_option maxHeartbeats 4000000 in
set_option maxRecDepth 100000 in
theorem sX3_remember (l : Launch) (b0 : Nat) (D : va_G) (cA : Nat → ClassId) {F : Nat} {L : HL} {a0 : Nat} {z : HL} (hE : fX3_remember F L a0 = some z) : Met l yX3_remember wsX3_remember (RM 2 0 0) (Pk b0 D cA [.ref (b0 + a0)] L) (Qk b0 D cA none z) 0 0 (Ab b0) := by
  refine Met.ofW (cc := cX3_remember) (maxL := 1) (ret := none) (by decide) rfl ?_
  intro p ev s m args below meth c s₁ B hml hv
  obtain ⟨rfl, hH, hK⟩ := hv
  have hx := B.exec
  have hb := B.bytes
  have hr := B.returns
  have hts := atoms_spec (ws := wsX3_remember) B.pre
  have hown : s.vm.findClass RX3 = some m.cls := findClass_of_methodNamed B.named
  have hlocks := B.notSynchronized
  have hC : Cx D cA p s m _ meth c cX3_remember 1 RX3 wsX3_remember none := ⟨hx, hb, hml, hown, hts, hK, hr, hlocks⟩
  have hS : va_S (Ab b0) s.heap s.heap [] := va_S.rf
  have hl := lv_entry ([.ref (b0 + a0)]) (n := 1) (Nat.le_of_ble_eq_true rfl)
  rw [lg_entry_eq]
  generalize (lg_sl ([.ref (b0 + a0)]) ++ List.replicate (1 - (lg_sl ([.ref (b0 + a0)])).length) Slot.unset).toArray = ls at hl ⊢
  have hl : lv_has ls 1 [(0, .ref (b0 + a0))] := hl
  unfold fX3_remember at hE
  obtain ⟨_, _, hE⟩ := Option.bind_eq_some_iff.mp hE
  refine lv_aload_n hx hb dX3_remember_0 rfl (lv_at hl 0 rfl) ?_
  obtain ⟨v1, hv1, hE⟩ := Option.bind_eq_some_iff.mp hE
  refine r_gI 2 (C := RX3) (T := TX3) (N := 3) (ci := 3) hx hb hts (by decide +kernel) hown hK hH hv1 rfl (by decide) (hts (.fieldLink RX3 26 "KindStreets$Now" "known" "I") (by decide +kernel)) (fun _ h9 => h9) dX3_remember_1 ?_
  refine lv_bipush (v := 10) hx hb dX3_remember_4 (by decide) ?_
  refine lv_icmp_lt (tgt := 13) hx hb dX3_remember_6 (by decide) (fun c2 => ?_) (fun c2 => ?_)
  · rw [if_pos c2] at hE
    exact sX3_remember_b13 (F := F) hC hE _ _ _ hH hS (lv_sub hl [0] rfl)
  · rw [if_neg c2] at hE
    refine lv_aload_n hx hb dX3_remember_9 rfl (lv_at hl 0 rfl) ?_
    obtain ⟨z10, hz10, hE⟩ := Option.bind_eq_some_iff.mp hE
    refine r_callV (va_runV (As := []) (rest := []) ⟨hx, hb, hml, hown, hts⟩ (sX3_loseOldest l b0 D cA hz10) (cwV 0 hts gX3_remember_X3_loseOldest rfl rfl rfl (by decide +kernel) (rm_ok (by decide) (by decide))) (pre_V (ci := 3) hK hH (oX3_loseOldest hz10) rfl) rfl rfl hl.1 rfl (lv_room (Nat.le_of_ble_eq_true rfl)) dX3_remember_10 ⟨Nat.zero_le _, Nat.zero_le _⟩) hS (fun H locs hH hS => ?_)
    exact sX3_remember_b13 (F := F) hC hE _ _ _ hH hS (lv_sub hl [0] rfl)
-- X3_recall
def fX3_recall (F : Nat) (L : HL) (a0 : Nat) : Option HL := (o_ob L a0 3).bind fun _ => (o_gI L a0 3 2).bind fun v1 => if v1 ≤ 0 then (some L) else ((o_gI L a0 3 2).bind fun v3 => (o_p L a0 3 2 (.int (v3 - 1))).bind fun L4 => (o_gR L4 a0 3 0).bind fun v5 => (o_gR L4 a0 3 1).bind fun v6 => (o_gI L4 a0 3 2).bind fun v7 => (o_aR L4 v6 3 v7).bind fun v8 => (fX2_become F L4 v5 v8).bind fun z9 => some z9)
theorem oX3_recall {F : Nat} {L : HL} {a0 : Nat} {z : HL} (hE : fX3_recall F L a0 = some z) : o_ob L a0 3 = some () := by
  obtain ⟨_, h, _⟩ := Option.bind_eq_some_iff.mp hE
  exact h
set_option maxHeartbeats 4000000 in
set_option maxRecDepth 100000 in
theorem sX3_recall (l : Launch) (b0 : Nat) (D : va_G) (cA : Nat → ClassId) {F : Nat} {L : HL} {a0 : Nat} {z : HL} (hE : fX3_recall F L a0 = some z) : Met l yX3_recall wsX3_recall (RM 2 0 0) (Pk b0 D cA [.ref (b0 + a0)] L) (Qk b0 D cA none z) 0 0 (Ab b0) := by
  refine Met.ofW (cc := cX3_recall) (maxL := 1) (ret := none) (by decide) rfl ?_
  intro p ev s m args below meth c s₁ B hml hv
  obtain ⟨rfl, hH, hK⟩ := hv
  have hx := B.exec
  have hb := B.bytes
  have hr := B.returns
  have hts := atoms_spec (ws := wsX3_recall) B.pre
  have hown : s.vm.findClass RX3 = some m.cls := findClass_of_methodNamed B.named
  have hlocks := B.notSynchronized
  have hC : Cx D cA p s m _ meth c cX3_recall 1 RX3 wsX3_recall none := ⟨hx, hb, hml, hown, hts, hK, hr, hlocks⟩
  have hS : va_S (Ab b0) s.heap s.heap [] := va_S.rf
  have hl := lv_entry ([.ref (b0 + a0)]) (n := 1) (Nat.le_of_ble_eq_true rfl)
  rw [lg_entry_eq]
  generalize (lg_sl ([.ref (b0 + a0)]) ++ List.replicate (1 - (lg_sl ([.ref (b0 + a0)])).length) Slot.unset).toArray = ls at hl ⊢
  have hl : lv_has ls 1 [(0, .ref (b0 + a0))] := hl
  unfold fX3_recall at hE
  obtain ⟨_, _, hE⟩ := Option.bind_eq_some_iff.mp hE
  refine lv_aload_n hx hb dX3_recall_0 rfl (lv_at hl 0 rfl) ?_
  obtain ⟨v1, hv1, hE⟩ := Option.bind_eq_some_iff.mp hE
  refine r_gI 2 (C := RX3) (T := TX3) (N := 3) (ci := 3) hx hb hts (by decide +kernel) hown hK hH hv1 rfl (by decide) (hts (.fieldLink RX3 26 "KindStreets$Now" "known" "I") (by decide +kernel)) (fun _ h9 => h9) dX3_recall_1 ?_
  refine lv_if_le (tgt := 33) hx hb dX3_recall_4 (by decide) (fun c2 => ?_) (fun c2 => ?_)
  · rw [if_pos c2] at hE
    have hZ := Option.some.inj hE
    subst hZ
    exact W.vret hx hb hr (fun t ht hW => ⟨rfl, by rw [ht]; exact hH, hS.F ht⟩) hS.2.2 dX3_recall_33
  · rw [if_neg c2] at hE
    refine lv_aload_n hx hb dX3_recall_7 rfl (lv_at hl 0 rfl) ?_
    refine lv_dup hx hb dX3_recall_8 rfl ?_
    obtain ⟨v3, hv3, hE⟩ := Option.bind_eq_some_iff.mp hE
    refine r_gI 2 (C := RX3) (T := TX3) (N := 3) (ci := 3) hx hb hts (by decide +kernel) hown hK hH hv3 rfl (by decide) (hts (.fieldLink RX3 26 "KindStreets$Now" "known" "I") (by decide +kernel)) (fun _ h9 => h9) dX3_recall_9 ?_
    refine lv_iconst (v := 1) hx hb dX3_recall_12 (by decide) ?_
    refine lv_isub hx hb dX3_recall_13 ?_
    obtain ⟨L4, hL4, hE⟩ := Option.bind_eq_some_iff.mp hE
    refine r_p 2 (v := .int (v3 - 1)) (ty := .int) (C := RX3) (T := TX3) (N := 3) (ci := 3) hx hb hts (by decide +kernel) tyX3 tyX3_ok nmX3 hown hK hH hS hL4 rfl (by decide) (hts (.fieldLink RX3 26 "KindStreets$Now" "known" "I") (by decide +kernel)) (fun _ h9 => h9) rfl (by decide +kernel) rfl rfl dX3_recall_14 (fun H locs hH hS => ?_)
    refine lv_aload_n hx hb dX3_recall_17 rfl (lv_at hl 0 rfl) ?_
    obtain ⟨v5, hv5, hE⟩ := Option.bind_eq_some_iff.mp hE
    refine r_gR 0 (C := RX3) (T := TX3) (N := 3) (ci := 3) hx hb hts (by decide +kernel) hown hK hH hv5 rfl (by decide) (hts (.fieldLink RX3 12 "KindStreets$Now" "moment" "LKindStreets$Moment;") (by decide +kernel)) (fun _ h9 => h9) dX3_recall_18 ?_
    refine lv_aload_n hx hb dX3_recall_21 rfl (lv_at hl 0 rfl) ?_
    obtain ⟨v6, hv6, hE⟩ := Option.bind_eq_some_iff.mp hE
    refine r_gR 1 (C := RX3) (T := TX3) (N := 3) (ci := 3) hx hb hts (by decide +kernel) hown hK hH hv6 rfl (by decide) (hts (.fieldLink RX3 18 "KindStreets$Now" "past" "[LKindStreets$Moment;") (by decide +kernel)) (fun _ h9 => h9) dX3_recall_22 ?_
    refine lv_aload_n hx hb dX3_recall_25 rfl (lv_at hl 0 rfl) ?_
    obtain ⟨v7, hv7, hE⟩ := Option.bind_eq_some_iff.mp hE
    refine r_gI 2 (C := RX3) (T := TX3) (N := 3) (ci := 3) hx hb hts (by decide +kernel) hown hK hH hv7 rfl (by decide) (hts (.fieldLink RX3 26 "KindStreets$Now" "known" "I") (by decide +kernel)) (fun _ h9 => h9) dX3_recall_26 ?_
    obtain ⟨v8, hv8, hE⟩ := Option.bind_eq_some_iff.mp hE
    refine r_aald (C := "KindStreets$Moment") hx hb hK hH hv8 rfl dX3_recall_29 ?_
    obtain ⟨z9, hz9, hE⟩ := Option.bind_eq_some_iff.mp hE
    refine r_callV (va_runV (As := [.ref (b0 + v8)]) (rest := []) ⟨hx, hb, hml, hown, hts⟩ (sX2_become l b0 D cA hz9) (cwV 1 hts gX3_recall_X2_become rfl rfl rfl (by decide +kernel) (rm_ok (by decide) (by decide))) (pre_V (ci := 2) hK hH (oX2_become hz9) rfl) rfl rfl hl.1 rfl (lv_room (Nat.le_of_ble_eq_true rfl)) dX3_recall_30 ⟨Nat.zero_le _, Nat.zero_le _⟩) hS (fun H locs hH hS => ?_)
    have hZ := Option.some.inj hE
    subst hZ
    exact W.vret hx hb hr (fun t ht hW => ⟨rfl, by rw [ht]; exact hH, hS.F ht⟩) hS.2.2 dX3_recall_33

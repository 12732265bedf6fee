-- X9_isWithin
def fX9_isWithin_b14 (F : Nat)  (L : HL) : Option (Int32 × HL) := some (0, L)
set_option maxHeartbeats 4000000 in
set_option maxRecDepth 100000 in
theorem sX9_isWithin_b14 {b0 : Nat} {D : va_G} {cA : Nat → ClassId} {p : Program} {l : Launch} {ev : Env} {s : State} {m : MethodId} {args : Array Value} {below : List Frame} {meth : Method} {c : Code} {F : Nat} {z : (Int32 × HL)}  {L : HL} (hC : Cx D cA p s m args meth c cX9_isWithin 3 RX9 wsX9_isWithin (some .boolean)) (hE : fX9_isWithin_b14 F  L = some z) : WB b0 D cA p l ev (RM 0 0 0) s m args below meth c 3 0 0 (MQ below (Qk b0 D cA (some (.int z.1)) z.2) args s 0 0 (Ab b0)) 14 [] [] L := by
  obtain ⟨hx, hb, hml, hown, hts, hK, hr, hlocks⟩ := id hC
  intro H locs ls hH hS hl
  unfold fX9_isWithin_b14 at hE
  refine lv_iconst (v := 0) hx hb dX9_isWithin_14 (by decide) ?_
  have hZ := Option.some.inj hE
  subst hZ
  exact W.zret (v := 0) (ty := .boolean) hx hb hr rfl (fun t ht hW => ⟨rfl, by rw [ht]; exact hH, hS.F ht⟩) hS.2.2 dX9_isWithin_15
def fX9_isWithin (F : Nat) (L : HL) (x0 : Int32) (x1 : Int32) (x2 : Int32) : Option (Int32 × HL) := if x0 < x1 then (fX9_isWithin_b14 F L) else (if x2 < x0 then (fX9_isWithin_b14 F L) else (some (1, L)))
set_option maxHeartbeats 4000000 in
set_option maxRecDepth 100000 in
theorem sX9_isWithin (l : Launch) (b0 : Nat) (D : va_G) (cA : Nat → ClassId) {F : Nat} {L : HL} {x0 : Int32} {x1 : Int32} {x2 : Int32} {z : (Int32 × HL)} (hE : fX9_isWithin F L x0 x1 x2 = some z) : Met l yX9_isWithin wsX9_isWithin (RM 0 0 0) (Pk b0 D cA [.int x0, .int x1, .int x2] L) (Qk b0 D cA (some (.int z.1)) z.2) 0 0 (Ab b0) := by
  refine Met.ofW (cc := cX9_isWithin) (maxL := 3) (ret := (some .boolean)) (by decide) rfl ?_
  intro p ev s m args below meth c s₁ B hml hv
  obtain ⟨rfl, hH, hK⟩ := hv
  have hx := B.exec
  have hb := B.bytes
  have hr := B.returns
  have hts := atoms_spec (ws := wsX9_isWithin) B.pre
  have hown : s.vm.findClass RX9 = some m.cls := findClass_of_methodNamed B.named
  have hlocks := B.notSynchronized
  have hC : Cx D cA p s m _ meth c cX9_isWithin 3 RX9 wsX9_isWithin (some .boolean) := ⟨hx, hb, hml, hown, hts, hK, hr, hlocks⟩
  have hS : va_S (Ab b0) s.heap s.heap [] := va_S.rf
  have hl := lv_entry ([.int x0, .int x1, .int x2]) (n := 3) (Nat.le_of_ble_eq_true rfl)
  rw [lg_entry_eq]
  generalize (lg_sl ([.int x0, .int x1, .int x2]) ++ List.replicate (3 - (lg_sl ([.int x0, .int x1, .int x2])).length) Slot.unset).toArray = ls at hl ⊢
  have hl : lv_has ls 3 [(0, .int x0), (1, .int x1), (2, .int x2)] := hl
  unfold fX9_isWithin at hE
  refine lv_iload_n hx hb dX9_isWithin_0 rfl (lv_at hl 0 rfl) ?_
  refine lv_iload_n hx hb dX9_isWithin_1 rfl (lv_at hl 1 rfl) ?_
  refine lv_icmp_lt (tgt := 14) hx hb dX9_isWithin_2 (by decide) (fun c1 => ?_) (fun c1 => ?_)
  · rw [if_pos c1] at hE
    exact sX9_isWithin_b14 (F := F) hC hE _ _ _ hH hS (lv_sub hl [] rfl)
  · rw [if_neg c1] at hE
    refine lv_iload_n hx hb dX9_isWithin_5 rfl (lv_at hl 0 rfl) ?_
    refine lv_iload_n hx hb dX9_isWithin_6 rfl (lv_at hl 2 rfl) ?_
    refine lv_icmp_gt (tgt := 14) hx hb dX9_isWithin_7 (by decide) (fun c2 => ?_) (fun c2 => ?_)
    · rw [if_pos c2] at hE
      exact sX9_isWithin_b14 (F := F) hC hE _ _ _ hH hS (lv_sub hl [] rfl)
    · rw [if_neg c2] at hE
      refine lv_iconst (v := 1) hx hb dX9_isWithin_10 (by decide) ?_
      refine lv_goto (tgt := 15) hx hb dX9_isWithin_11 (by decide) ?_
      have hZ := Option.some.inj hE
      subst hZ
      exact W.zret (v := 1) (ty := .boolean) hx hb hr rfl (fun t ht hW => ⟨rfl, by rw [ht]; exact hH, hS.F ht⟩) hS.2.2 dX9_isWithin_15
-- X9_isStreet
def fX9_isStreet (F : Nat) (L : HL) (a0 : Nat) (x1 : Int32) : Option (Int32 × HL) := (o_ob L a0 8).bind fun _ => (o_gR L a0 8 2).bind fun v1 => (o_gI L v1 6 1).bind fun v2 => (fX9_isWithin F L x1 0 (v2 - 1)).bind fun z3 => (o_b z3.1).bind fun u4 => some (z3.1, z3.2)
theorem oX9_isStreet {F : Nat} {L : HL} {a0 : Nat} {x1 : Int32} {z : (Int32 × HL)} (hE : fX9_isStreet F L a0 x1 = some z) : o_ob L a0 8 = some () := by
  obtain ⟨_, h, _⟩ := Option.bind_eq_some_iff.mp hE
  exact h
set_option maxHeartbeats 4000000 in
set_option maxRecDepth 100000 in
theorem sX9_isStreet (l : Launch) (b0 : Nat) (D : va_G) (cA : Nat → ClassId) {F : Nat} {L : HL} {a0 : Nat} {x1 : Int32} {z : (Int32 × HL)} (hE : fX9_isStreet F L a0 x1 = some z) : Met l yX9_isStreet wsX9_isStreet (RM 1 0 0) (Pk b0 D cA [.ref (b0 + a0), .int x1] L) (Qk b0 D cA (some (.int z.1)) z.2) 0 0 (Ab b0) := by
  refine Met.ofW (cc := cX9_isStreet) (maxL := 2) (ret := (some .boolean)) (by decide) rfl ?_
  intro p ev s m args below meth c s₁ B hml hv
  obtain ⟨rfl, hH, hK⟩ := hv
  have hx := B.exec
  have hb := B.bytes
  have hr := B.returns
  have hts := atoms_spec (ws := wsX9_isStreet) B.pre
  have hown : s.vm.findClass RX9 = some m.cls := findClass_of_methodNamed B.named
  have hlocks := B.notSynchronized
  have hC : Cx D cA p s m _ meth c cX9_isStreet 2 RX9 wsX9_isStreet (some .boolean) := ⟨hx, hb, hml, hown, hts, hK, hr, hlocks⟩
  have hS : va_S (Ab b0) s.heap s.heap [] := va_S.rf
  have hl := lv_entry ([.ref (b0 + a0), .int x1]) (n := 2) (Nat.le_of_ble_eq_true rfl)
  rw [lg_entry_eq]
  generalize (lg_sl ([.ref (b0 + a0), .int x1]) ++ List.replicate (2 - (lg_sl ([.ref (b0 + a0), .int x1])).length) Slot.unset).toArray = ls at hl ⊢
  have hl : lv_has ls 2 [(0, .ref (b0 + a0)), (1, .int x1)] := hl
  unfold fX9_isStreet at hE
  obtain ⟨_, _, hE⟩ := Option.bind_eq_some_iff.mp hE
  refine lv_iload_n hx hb dX9_isStreet_0 rfl (lv_at hl 1 rfl) ?_
  refine lv_iconst (v := 0) hx hb dX9_isStreet_1 (by decide) ?_
  refine lv_aload_n hx hb dX9_isStreet_2 rfl (lv_at hl 0 rfl) ?_
  obtain ⟨v1, hv1, hE⟩ := Option.bind_eq_some_iff.mp hE
  refine r_gR 2 (C := RX9) (T := TX9) (N := 10) (ci := 8) hx hb hts (by decide +kernel) hown hK hH hv1 rfl (by decide) (hts (.fieldLink RX9 23 "KindStreets" "town" "LKindStreets$Town;") (by decide +kernel)) (fun _ h9 => h9) dX9_isStreet_3 ?_
  obtain ⟨v2, hv2, hE⟩ := Option.bind_eq_some_iff.mp hE
  refine r_gI 1 (C := RX7) (T := TX7) (N := 8) (ci := 6) hx hb hts (by decide +kernel) hown hK hH hv2 rfl (by decide) (hts (.fieldLink RX9 189 "KindStreets$Town" "streets" "I") (by decide +kernel)) (fun _ h9 => h9) dX9_isStreet_6 ?_
  refine lv_iconst (v := 1) hx hb dX9_isStreet_9 (by decide) ?_
  refine lv_isub hx hb dX9_isStreet_10 ?_
  obtain ⟨z3, hz3, hE⟩ := Option.bind_eq_some_iff.mp hE
  refine r_callI (va_runS (As := [.int x1, .int 0, .int (v2 - 1)]) (rest := []) ⟨hx, hb, hml, hown, hts⟩ (sX9_isWithin l b0 D cA hz3) (va_cwS 3 hts gX9_isStreet_X9_isWithin rfl rfl rfl (by decide +kernel) (rm_ok (by decide) (by decide))) (pre_S hK hH) rfl rfl hl.1 rfl (lv_room (Nat.le_of_ble_eq_true rfl)) dX9_isStreet_11 ⟨Nat.zero_le _, Nat.zero_le _⟩) hS (fun H locs hH hS => ?_)
  obtain ⟨u4, hu4, hE⟩ := Option.bind_eq_some_iff.mp hE
  have hZ := Option.some.inj hE
  subst hZ
  exact W.zret (v := z3.1) (ty := .boolean) hx hb hr (o_b_nar hu4) (fun t ht hW => ⟨rfl, by rw [ht]; exact hH, hS.F ht⟩) hS.2.2 dX9_isStreet_14
-- X9_isCitizen
def fX9_isCitizen (F : Nat) (L : HL) (a0 : Nat) (x1 : Int32) : Option (Int32 × HL) := (o_ob L a0 8).bind fun _ => (o_gR L a0 8 2).bind fun v1 => (o_gI L v1 6 2).bind fun v2 => (fX9_isWithin F L x1 0 (v2 - 1)).bind fun z3 => (o_b z3.1).bind fun u4 => some (z3.1, z3.2)
theorem oX9_isCitizen {F : Nat} {L : HL} {a0 : Nat} {x1 : Int32} {z : (Int32 × HL)} (hE : fX9_isCitizen F L a0 x1 = some z) : o_ob L a0 8 = some () := by
  obtain ⟨_, h, _⟩ := Option.bind_eq_some_iff.mp hE
  exact h
set_option maxHeartbeats 4000000 in
set_option maxRecDepth 100000 in
theorem sX9_isCitizen (l : Launch) (b0 : Nat) (D : va_G) (cA : Nat → ClassId) {F : Nat} {L : HL} {a0 : Nat} {x1 : Int32} {z : (Int32 × HL)} (hE : fX9_isCitizen F L a0 x1 = some z) : Met l yX9_isCitizen wsX9_isCitizen (RM 1 0 0) (Pk b0 D cA [.ref (b0 + a0), .int x1] L) (Qk b0 D cA (some (.int z.1)) z.2) 0 0 (Ab b0) := by
  refine Met.ofW (cc := cX9_isCitizen) (maxL := 2) (ret := (some .boolean)) (by decide) rfl ?_
  intro p ev s m args below meth c s₁ B hml hv
  obtain ⟨rfl, hH, hK⟩ := hv
  have hx := B.exec
  have hb := B.bytes
  have hr := B.returns
  have hts := atoms_spec (ws := wsX9_isCitizen) B.pre
  have hown : s.vm.findClass RX9 = some m.cls := findClass_of_methodNamed B.named
  have hlocks := B.notSynchronized
  have hC : Cx D cA p s m _ meth c cX9_isCitizen 2 RX9 wsX9_isCitizen (some .boolean) := ⟨hx, hb, hml, hown, hts, hK, hr, hlocks⟩
  have hS : va_S (Ab b0) s.heap s.heap [] := va_S.rf
  have hl := lv_entry ([.ref (b0 + a0), .int x1]) (n := 2) (Nat.le_of_ble_eq_true rfl)
  rw [lg_entry_eq]
  generalize (lg_sl ([.ref (b0 + a0), .int x1]) ++ List.replicate (2 - (lg_sl ([.ref (b0 + a0), .int x1])).length) Slot.unset).toArray = ls at hl ⊢
  have hl : lv_has ls 2 [(0, .ref (b0 + a0)), (1, .int x1)] := hl
  unfold fX9_isCitizen at hE
  obtain ⟨_, _, hE⟩ := Option.bind_eq_some_iff.mp hE
  refine lv_iload_n hx hb dX9_isCitizen_0 rfl (lv_at hl 1 rfl) ?_
  refine lv_iconst (v := 0) hx hb dX9_isCitizen_1 (by decide) ?_
  refine lv_aload_n hx hb dX9_isCitizen_2 rfl (lv_at hl 0 rfl) ?_
  obtain ⟨v1, hv1, hE⟩ := Option.bind_eq_some_iff.mp hE
  refine r_gR 2 (C := RX9) (T := TX9) (N := 10) (ci := 8) hx hb hts (by decide +kernel) hown hK hH hv1 rfl (by decide) (hts (.fieldLink RX9 23 "KindStreets" "town" "LKindStreets$Town;") (by decide +kernel)) (fun _ h9 => h9) dX9_isCitizen_3 ?_
  obtain ⟨v2, hv2, hE⟩ := Option.bind_eq_some_iff.mp hE
  refine r_gI 2 (C := RX7) (T := TX7) (N := 8) (ci := 6) hx hb hts (by decide +kernel) hown hK hH hv2 rfl (by decide) (hts (.fieldLink RX9 260 "KindStreets$Town" "citizens" "I") (by decide +kernel)) (fun _ h9 => h9) dX9_isCitizen_6 ?_
  refine lv_iconst (v := 1) hx hb dX9_isCitizen_9 (by decide) ?_
  refine lv_isub hx hb dX9_isCitizen_10 ?_
  obtain ⟨z3, hz3, hE⟩ := Option.bind_eq_some_iff.mp hE
  refine r_callI (va_runS (As := [.int x1, .int 0, .int (v2 - 1)]) (rest := []) ⟨hx, hb, hml, hown, hts⟩ (sX9_isWithin l b0 D cA hz3) (va_cwS 3 hts gX9_isCitizen_X9_isWithin rfl rfl rfl (by decide +kernel) (rm_ok (by decide) (by decide))) (pre_S hK hH) rfl rfl hl.1 rfl (lv_room (Nat.le_of_ble_eq_true rfl)) dX9_isCitizen_11 ⟨Nat.zero_le _, Nat.zero_le _⟩) hS (fun H locs hH hS => ?_)
  obtain ⟨u4, hu4, hE⟩ := Option.bind_eq_some_iff.mp hE
  have hZ := Option.some.inj hE
  subst hZ
  exact W.zret (v := z3.1) (ty := .boolean) hx hb hr (o_b_nar hu4) (fun t ht hW => ⟨rfl, by rw [ht]; exact hH, hS.F ht⟩) hS.2.2 dX9_isCitizen_14
-- X9_areUnlikeYards
def fX9_areUnlikeYards_b43 (F : Nat)  (L : HL) : Option (Int32 × HL) := some (0, L)
set_option maxHeartbeats 4000000 in
set_option maxRecDepth 100000 in
theorem sX9_areUnlikeYards_b43 {b0 : Nat} {D : va_G} {cA : Nat → ClassId} {p : Program} {l : Launch} {ev : Env} {s : State} {m : MethodId} {args : Array Value} {below : List Frame} {meth : Method} {c : Code} {F : Nat} {z : (Int32 × HL)}  {L : HL} (hC : Cx D cA p s m args meth c cX9_areUnlikeYards 3 RX9 wsX9_areUnlikeYards (some .boolean)) (hE : fX9_areUnlikeYards_b43 F  L = some z) : WB b0 D cA p l ev (RM 1 0 0) s m args below meth c 3 0 0 (MQ below (Qk b0 D cA (some (.int z.1)) z.2) args s 0 0 (Ab b0)) 43 [] [] L := by
  obtain ⟨hx, hb, hml, hown, hts, hK, hr, hlocks⟩ := id hC
  intro H locs ls hH hS hl
  unfold fX9_areUnlikeYards_b43 at hE
  refine lv_iconst (v := 0) hx hb dX9_areUnlikeYards_43 (by decide) ?_
  have hZ := Option.some.inj hE
  subst hZ
  exact W.zret (v := 0) (ty := .boolean) hx hb hr rfl (fun t ht hW => ⟨rfl, by rw [ht]; exact hH, hS.F ht⟩) hS.2.2 dX9_areUnlikeYards_44
def fX9_areUnlikeYards (F : Nat) (L : HL) (a0 : Nat) (x1 : Int32) (x2 : Int32) : Option (Int32 × HL) := (o_ob L a0 8).bind fun _ => (o_gR L a0 8 2).bind fun v1 => (o_gI L v1 6 0).bind fun v2 => (fX9_isWithin F L x1 0 (v2 - 1)).bind fun z3 => if z3.1 = 0 then (fX9_areUnlikeYards_b43 F z3.2) else ((o_gR z3.2 a0 8 2).bind fun v5 => (o_gI z3.2 v5 6 0).bind fun v6 => (fX9_isWithin F z3.2 x2 0 (v6 - 1)).bind fun z7 => if z7.1 = 0 then (fX9_areUnlikeYards_b43 F z7.2) else (if x1 = x2 then (fX9_areUnlikeYards_b43 F z7.2) else (some (1, z7.2))))
theorem oX9_areUnlikeYards {F : Nat} {L : HL} {a0 : Nat} {x1 : Int32} {x2 : Int32} {z : (Int32 × HL)} (hE : fX9_areUnlikeYards F L a0 x1 x2 = some z) : o_ob L a0 8 = some () := by
  obtain ⟨_, h, _⟩ := Option.bind_eq_some_iff.mp hE
  exact h
set_option maxHeartbeats 4000000 in
set_option maxRecDepth 100000 in
theorem sX9_areUnlikeYards (l : Launch) (b0 : Nat) (D : va_G) (cA : Nat → ClassId) {F : Nat} {L : HL} {a0 : Nat} {x1 : Int32} {x2 : Int32} {z : (Int32 × HL)} (hE : fX9_areUnlikeYards F L a0 x1 x2 = some z) : Met l yX9_areUnlikeYards wsX9_areUnlikeYards (RM 1 0 0) (Pk b0 D cA [.ref (b0 + a0), .int x1, .int x2] L) (Qk b0 D cA (some (.int z.1)) z.2) 0 0 (Ab b0) := by
  refine Met.ofW (cc := cX9_areUnlikeYards) (maxL := 3) (ret := (some .boolean)) (by decide) rfl ?_
  intro p ev s m args below meth c s₁ B hml hv
  obtain ⟨rfl, hH, hK⟩ := hv
  have hx := B.exec
  have hb := B.bytes
  have hr := B.returns
  have hts := atoms_spec (ws := wsX9_areUnlikeYards) B.pre
  have hown : s.vm.findClass RX9 = some m.cls := findClass_of_methodNamed B.named
  have hlocks := B.notSynchronized
  have hC : Cx D cA p s m _ meth c cX9_areUnlikeYards 3 RX9 wsX9_areUnlikeYards (some .boolean) := ⟨hx, hb, hml, hown, hts, hK, hr, hlocks⟩
  have hS : va_S (Ab b0) s.heap s.heap [] := va_S.rf
  have hl := lv_entry ([.ref (b0 + a0), .int x1, .int x2]) (n := 3) (Nat.le_of_ble_eq_true rfl)
  rw [lg_entry_eq]
  generalize (lg_sl ([.ref (b0 + a0), .int x1, .int x2]) ++ List.replicate (3 - (lg_sl ([.ref (b0 + a0), .int x1, .int x2])).length) Slot.unset).toArray = ls at hl ⊢
  have hl : lv_has ls 3 [(0, .ref (b0 + a0)), (1, .int x1), (2, .int x2)] := hl
  unfold fX9_areUnlikeYards at hE
  obtain ⟨_, _, hE⟩ := Option.bind_eq_some_iff.mp hE
  refine lv_iload_n hx hb dX9_areUnlikeYards_0 rfl (lv_at hl 1 rfl) ?_
  refine lv_iconst (v := 0) hx hb dX9_areUnlikeYards_1 (by decide) ?_
  refine lv_aload_n hx hb dX9_areUnlikeYards_2 rfl (lv_at hl 0 rfl) ?_
  obtain ⟨v1, hv1, hE⟩ := Option.bind_eq_some_iff.mp hE
  refine r_gR 2 (C := RX9) (T := TX9) (N := 10) (ci := 8) hx hb hts (by decide +kernel) hown hK hH hv1 rfl (by decide) (hts (.fieldLink RX9 23 "KindStreets" "town" "LKindStreets$Town;") (by decide +kernel)) (fun _ h9 => h9) dX9_areUnlikeYards_3 ?_
  obtain ⟨v2, hv2, hE⟩ := Option.bind_eq_some_iff.mp hE
  refine r_gI 0 (C := RX7) (T := TX7) (N := 8) (ci := 6) hx hb hts (by decide +kernel) hown hK hH hv2 rfl (by decide) (hts (.fieldLink RX9 257 "KindStreets$Town" "yards" "I") (by decide +kernel)) (fun _ h9 => h9) dX9_areUnlikeYards_6 ?_
  refine lv_iconst (v := 1) hx hb dX9_areUnlikeYards_9 (by decide) ?_
  refine lv_isub hx hb dX9_areUnlikeYards_10 ?_
  obtain ⟨z3, hz3, hE⟩ := Option.bind_eq_some_iff.mp hE
  refine r_callI (va_runS (As := [.int x1, .int 0, .int (v2 - 1)]) (rest := []) ⟨hx, hb, hml, hown, hts⟩ (sX9_isWithin l b0 D cA hz3) (va_cwS 3 hts gX9_areUnlikeYards_X9_isWithin rfl rfl rfl (by decide +kernel) (rm_ok (by decide) (by decide))) (pre_S hK hH) rfl rfl hl.1 rfl (lv_room (Nat.le_of_ble_eq_true rfl)) dX9_areUnlikeYards_11 ⟨Nat.zero_le _, Nat.zero_le _⟩) hS (fun H locs hH hS => ?_)
  refine lv_if_eq (tgt := 43) hx hb dX9_areUnlikeYards_14 (by decide) (fun c4 => ?_) (fun c4 => ?_)
  · rw [if_pos c4] at hE
    exact sX9_areUnlikeYards_b43 (F := F) hC hE _ _ _ hH hS (lv_sub hl [] rfl)
  · rw [if_neg c4] at hE
    refine lv_iload_n hx hb dX9_areUnlikeYards_17 rfl (lv_at hl 2 rfl) ?_
    refine lv_iconst (v := 0) hx hb dX9_areUnlikeYards_18 (by decide) ?_
    refine lv_aload_n hx hb dX9_areUnlikeYards_19 rfl (lv_at hl 0 rfl) ?_
    obtain ⟨v5, hv5, hE⟩ := Option.bind_eq_some_iff.mp hE
    refine r_gR 2 (C := RX9) (T := TX9) (N := 10) (ci := 8) hx hb hts (by decide +kernel) hown hK hH hv5 rfl (by decide) (hts (.fieldLink RX9 23 "KindStreets" "town" "LKindStreets$Town;") (by decide +kernel)) (fun _ h9 => h9) dX9_areUnlikeYards_20 ?_
    obtain ⟨v6, hv6, hE⟩ := Option.bind_eq_some_iff.mp hE
    refine r_gI 0 (C := RX7) (T := TX7) (N := 8) (ci := 6) hx hb hts (by decide +kernel) hown hK hH hv6 rfl (by decide) (hts (.fieldLink RX9 257 "KindStreets$Town" "yards" "I") (by decide +kernel)) (fun _ h9 => h9) dX9_areUnlikeYards_23 ?_
    refine lv_iconst (v := 1) hx hb dX9_areUnlikeYards_26 (by decide) ?_
    refine lv_isub hx hb dX9_areUnlikeYards_27 ?_
    obtain ⟨z7, hz7, hE⟩ := Option.bind_eq_some_iff.mp hE
    refine r_callI (va_runS (As := [.int x2, .int 0, .int (v6 - 1)]) (rest := []) ⟨hx, hb, hml, hown, hts⟩ (sX9_isWithin l b0 D cA hz7) (va_cwS 3 hts gX9_areUnlikeYards_X9_isWithin rfl rfl rfl (by decide +kernel) (rm_ok (by decide) (by decide))) (pre_S hK hH) rfl rfl hl.1 rfl (lv_room (Nat.le_of_ble_eq_true rfl)) dX9_areUnlikeYards_28 ⟨Nat.zero_le _, Nat.zero_le _⟩) hS (fun H locs hH hS => ?_)
    refine lv_if_eq (tgt := 43) hx hb dX9_areUnlikeYards_31 (by decide) (fun c8 => ?_) (fun c8 => ?_)
    · rw [if_pos c8] at hE
      exact sX9_areUnlikeYards_b43 (F := F) hC hE _ _ _ hH hS (lv_sub hl [] rfl)
    · rw [if_neg c8] at hE
      refine lv_iload_n hx hb dX9_areUnlikeYards_34 rfl (lv_at hl 1 rfl) ?_
      refine lv_iload_n hx hb dX9_areUnlikeYards_35 rfl (lv_at hl 2 rfl) ?_
      refine lv_icmp_eq (tgt := 43) hx hb dX9_areUnlikeYards_36 (by decide) (fun c9 => ?_) (fun c9 => ?_)
      · rw [if_pos c9] at hE
        exact sX9_areUnlikeYards_b43 (F := F) hC hE _ _ _ hH hS (lv_sub hl [] rfl)
      · rw [if_neg c9] at hE
        refine lv_iconst (v := 1) hx hb dX9_areUnlikeYards_39 (by decide) ?_
        refine lv_goto (tgt := 44) hx hb dX9_areUnlikeYards_40 (by decide) ?_
        have hZ := Option.some.inj hE
        subst hZ
        exact W.zret (v := 1) (ty := .boolean) hx hb hr rfl (fun t ht hW => ⟨rfl, by rw [ht]; exact hH, hS.F ht⟩) hS.2.2 dX9_areUnlikeYards_44
-- X9_waysNow
def fX9_waysNow (F : Nat) (L : HL) (a0 : Nat) : Option (Nat × HL) := (o_ob L a0 8).bind fun _ => (o_gR L a0 8 6).bind fun v1 => (o_gR L v1 7 0).bind fun v2 => (o_gR L a0 8 2).bind fun v3 => (o_gR L a0 8 3).bind fun v4 => (o_gR L v4 3 0).bind fun v5 => (fX4_draw F L v2 v3 v5).bind fun z6 => (o_gR z6 a0 8 6).bind fun v7 => some (v7, z6)
theorem oX9_waysNow {F : Nat} {L : HL} {a0 : Nat} {z : (Nat × HL)} (hE : fX9_waysNow F L a0 = some z) : o_ob L a0 8 = some () := by
  obtain ⟨_, h, _⟩ := Option.bind_eq_some_iff.mp hE
  exact h
set_option maxHeartbeats 4000000 in
set_option maxRecDepth 100000 in
theorem sX9_waysNow (l : Launch) (b0 : Nat) (D : va_G) (cA : Nat → ClassId) {F : Nat} {L : HL} {a0 : Nat} {z : (Nat × HL)} (hE : fX9_waysNow F L a0 = some z) : Met l yX9_waysNow wsX9_waysNow (RM 4 0 0) (Pk b0 D cA [.ref (b0 + a0)] L) (Qk b0 D cA (some (.ref (b0 + z.1))) z.2) 0 0 (Ab b0) := by
  refine Met.ofW (cc := cX9_waysNow) (maxL := 1) (ret := (some (.object "KindStreets$Ways"))) (by decide) rfl ?_
  intro p ev s m args below meth c s₁ B hml hv
  obtain ⟨rfl, hH, hK⟩ := hv
  have hx := B.exec
  have hb := B.bytes
  have hr := B.returns
  have hts := atoms_spec (ws := wsX9_waysNow) B.pre
  have hown : s.vm.findClass RX9 = some m.cls := findClass_of_methodNamed B.named
  have hlocks := B.notSynchronized
  have hC : Cx D cA p s m _ meth c cX9_waysNow 1 RX9 wsX9_waysNow (some (.object "KindStreets$Ways")) := ⟨hx, hb, hml, hown, hts, hK, hr, hlocks⟩
  have hS : va_S (Ab b0) s.heap s.heap [] := va_S.rf
  have hl := lv_entry ([.ref (b0 + a0)]) (n := 1) (Nat.le_of_ble_eq_true rfl)
  rw [lg_entry_eq]
  generalize (lg_sl ([.ref (b0 + a0)]) ++ List.replicate (1 - (lg_sl ([.ref (b0 + a0)])).length) Slot.unset).toArray = ls at hl ⊢
  have hl : lv_has ls 1 [(0, .ref (b0 + a0))] := hl
  unfold fX9_waysNow at hE
  obtain ⟨_, _, hE⟩ := Option.bind_eq_some_iff.mp hE
  refine lv_aload_n hx hb dX9_waysNow_0 rfl (lv_at hl 0 rfl) ?_
  obtain ⟨v1, hv1, hE⟩ := Option.bind_eq_some_iff.mp hE
  refine r_gR 6 (C := RX9) (T := TX9) (N := 10) (ci := 8) hx hb hts (by decide +kernel) hown hK hH hv1 rfl (by decide) (hts (.fieldLink RX9 40 "KindStreets" "ways" "LKindStreets$Ways;") (by decide +kernel)) (fun _ h9 => h9) dX9_waysNow_1 ?_
  obtain ⟨v2, hv2, hE⟩ := Option.bind_eq_some_iff.mp hE
  refine r_gR 0 (C := RX8) (T := TX8) (N := 2) (ci := 7) hx hb hts (by decide +kernel) hown hK hH hv2 rfl (by decide) (hts (.fieldLink RX9 280 "KindStreets$Ways" "plan" "LKindStreets$Plan;") (by decide +kernel)) (fun _ h9 => h9) dX9_waysNow_4 ?_
  refine lv_aload_n hx hb dX9_waysNow_7 rfl (lv_at hl 0 rfl) ?_
  obtain ⟨v3, hv3, hE⟩ := Option.bind_eq_some_iff.mp hE
  refine r_gR 2 (C := RX9) (T := TX9) (N := 10) (ci := 8) hx hb hts (by decide +kernel) hown hK hH hv3 rfl (by decide) (hts (.fieldLink RX9 23 "KindStreets" "town" "LKindStreets$Town;") (by decide +kernel)) (fun _ h9 => h9) dX9_waysNow_8 ?_
  refine lv_aload_n hx hb dX9_waysNow_11 rfl (lv_at hl 0 rfl) ?_
  obtain ⟨v4, hv4, hE⟩ := Option.bind_eq_some_iff.mp hE
  refine r_gR 3 (C := RX9) (T := TX9) (N := 10) (ci := 8) hx hb hts (by decide +kernel) hown hK hH hv4 rfl (by decide) (hts (.fieldLink RX9 29 "KindStreets" "now" "LKindStreets$Now;") (by decide +kernel)) (fun _ h9 => h9) dX9_waysNow_12 ?_
  obtain ⟨v5, hv5, hE⟩ := Option.bind_eq_some_iff.mp hE
  refine r_gR 0 (C := RX3) (T := TX3) (N := 3) (ci := 3) hx hb hts (by decide +kernel) hown hK hH hv5 rfl (by decide) (hts (.fieldLink RX9 98 "KindStreets$Now" "moment" "LKindStreets$Moment;") (by decide +kernel)) (fun _ h9 => h9) dX9_waysNow_15 ?_
  obtain ⟨z6, hz6, hE⟩ := Option.bind_eq_some_iff.mp hE
  refine r_callV (va_runV (As := [.ref (b0 + v3), .ref (b0 + v5)]) (rest := []) ⟨hx, hb, hml, hown, hts⟩ (sX4_draw l b0 D cA hz6) (cwV 2 hts gX9_waysNow_X4_draw rfl rfl rfl (by decide +kernel) (rm_ok (by decide) (by decide))) (pre_V (ci := 4) hK hH (oX4_draw hz6) rfl) rfl rfl hl.1 rfl (lv_room (Nat.le_of_ble_eq_true rfl)) dX9_waysNow_18 ⟨Nat.zero_le _, Nat.zero_le _⟩) hS (fun H locs hH hS => ?_)
  refine lv_aload_n hx hb dX9_waysNow_21 rfl (lv_at hl 0 rfl) ?_
  obtain ⟨v7, hv7, hE⟩ := Option.bind_eq_some_iff.mp hE
  refine r_gR 6 (C := RX9) (T := TX9) (N := 10) (ci := 8) hx hb hts (by decide +kernel) hown hK hH hv7 rfl (by decide) (hts (.fieldLink RX9 40 "KindStreets" "ways" "LKindStreets$Ways;") (by decide +kernel)) (fun _ h9 => h9) dX9_waysNow_22 ?_
  have hZ := Option.some.inj hE
  subst hZ
  exact W.aret (v := .ref (b0 + v7)) hx hb hr (Or.inl ⟨_, rfl⟩) (Or.inr ⟨_, rfl⟩) (fun t ht hW => ⟨rfl, by rw [ht]; exact hH, hS.F ht⟩) hS.2.2 dX9_waysNow_25
-- X9_raise
def fX9_raise (F : Nat) (L : HL) (x0 : Nat) (x1 : Int32) (x2 : Int32) : Option HL := (o_aI L x0 0 x1).bind fun v1 => (o_sI L x0 0 x1 (if v1 < x2 then x2 else v1)).bind fun L2 => some L2
set_option maxHeartbeats 4000000 in
set_option maxRecDepth 100000 in
theorem sX9_raise (l : Launch) (b0 : Nat) (D : va_G) (cA : Nat → ClassId) {F : Nat} {L : HL} {x0 : Nat} {x1 : Int32} {x2 : Int32} {z : HL} (hE : fX9_raise F L x0 x1 x2 = some z) : Met l yX9_raise wsX9_raise (RM 1 0 0) (Pk b0 D cA [.ref (b0 + x0), .int x1, .int x2] L) (Qk b0 D cA none z) 0 0 (Ab b0) := by
  refine Met.ofW (cc := cX9_raise) (maxL := 3) (ret := none) (by decide) rfl ?_
  intro p ev s m args below meth c s₁ B hml hv
  obtain ⟨rfl, hH, hK⟩ := hv
  have hx := B.exec
  have hb := B.bytes
  have hr := B.returns
  have hts := atoms_spec (ws := wsX9_raise) B.pre
  have hown : s.vm.findClass RX9 = some m.cls := findClass_of_methodNamed B.named
  have hlocks := B.notSynchronized
  have hC : Cx D cA p s m _ meth c cX9_raise 3 RX9 wsX9_raise none := ⟨hx, hb, hml, hown, hts, hK, hr, hlocks⟩
  have hS : va_S (Ab b0) s.heap s.heap [] := va_S.rf
  have hl := lv_entry ([.ref (b0 + x0), .int x1, .int x2]) (n := 3) (Nat.le_of_ble_eq_true rfl)
  rw [lg_entry_eq]
  generalize (lg_sl ([.ref (b0 + x0), .int x1, .int x2]) ++ List.replicate (3 - (lg_sl ([.ref (b0 + x0), .int x1, .int x2])).length) Slot.unset).toArray = ls at hl ⊢
  have hl : lv_has ls 3 [(0, .ref (b0 + x0)), (1, .int x1), (2, .int x2)] := hl
  unfold fX9_raise at hE
  refine lv_aload_n hx hb dX9_raise_0 rfl (lv_at hl 0 rfl) ?_
  refine lv_iload_n hx hb dX9_raise_1 rfl (lv_at hl 1 rfl) ?_
  refine lv_aload_n hx hb dX9_raise_2 rfl (lv_at hl 0 rfl) ?_
  refine lv_iload_n hx hb dX9_raise_3 rfl (lv_at hl 1 rfl) ?_
  obtain ⟨v1, hv1, hE⟩ := Option.bind_eq_some_iff.mp hE
  refine r_iald hx hb hK hH hv1 dX9_raise_4 ?_
  refine lv_iload_n hx hb dX9_raise_5 rfl (lv_at hl 2 rfl) ?_
  refine va_mmax hx hb (hml.trans hl.1.symm) hown (hts (.methodLink RX9 281 Lib.Math.max.name) (by decide +kernel)) (hts (.static Lib.Math.max.name) (by decide +kernel)) (hts (.initialized "java/lang/Math") (by decide +kernel)) (hts (.code Lib.Math.max.name Lib.Math.max.code 2 (some .int)) (by decide +kernel)) (by decide) (Nat.le_of_ble_eq_true rfl) (by decide) (by decide) dX9_raise_6 ?_
  obtain ⟨L2, hL2, hE⟩ := Option.bind_eq_some_iff.mp hE
  refine r_iast hx hb hK hH hS hL2 dX9_raise_9 (fun H locs hH hS => ?_)
  have hZ := Option.some.inj hE
  subst hZ
  exact W.vret hx hb hr (fun t ht hW => ⟨rfl, by rw [ht]; exact hH, hS.F ht⟩) hS.2.2 dX9_raise_10
-- X9_streetsAt
def fX9_streetsAt_b41 (F : Nat) (k4 : Nat → Int32 → Int32 → Int32 → HL → Option (Int32 × HL)) (a0 : Nat) (x1 : Int32) (x2 : Int32) (x3 : Int32) (L : HL) : Option (Int32 × HL) := k4 a0 x1 x2 (x3 + 1) L
set_option maxHeartbeats 4000000 in
set_option maxRecDepth 100000 in
theorem sX9_streetsAt_b41 {b0 : Nat} {D : va_G} {cA : Nat → ClassId} {p : Program} {l : Launch} {ev : Env} {s : State} {m : MethodId} {args : Array Value} {below : List Frame} {meth : Method} {c : Code} {F : Nat} {z : (Int32 × HL)} {k4 : Nat → Int32 → Int32 → Int32 → HL → Option (Int32 × HL)} {a0 : Nat} {x1 : Int32} {x2 : Int32} {x3 : Int32} {L : HL} (hC : Cx D cA p s m args meth c cX9_streetsAt 4 RX9 wsX9_streetsAt (some .int)) (hk4 : ∀ (a0' : Nat) (x1' : Int32) (x2' : Int32) (x3' : Int32) (L' : HL), k4 a0' x1' x2' x3' L' = some z → WB b0 D cA p l ev (RM 1 0 0) s m args below meth c 4 0 0 (MQ below (Qk b0 D cA (some (.int z.1)) z.2) args s 0 0 (Ab b0)) 4 [(0, .ref (b0 + a0')), (1, .int x1'), (2, .int x2'), (3, .int x3')] [] L') (hE : fX9_streetsAt_b41 F k4 a0 x1 x2 x3 L = some z) : WB b0 D cA p l ev (RM 1 0 0) s m args below meth c 4 0 0 (MQ below (Qk b0 D cA (some (.int z.1)) z.2) args s 0 0 (Ab b0)) 41 [(0, .ref (b0 + a0)), (1, .int x1), (2, .int x2), (3, .int x3)] [] L := by
  obtain ⟨hx, hb, hml, hown, hts, hK, hr, hlocks⟩ := id hC
  intro H locs ls hH hS hl
  unfold fX9_streetsAt_b41 at hE
  refine lv_iinc (v := (x3 + 1)) (lv' := [(3, .int (x3 + 1)), (0, .ref (b0 + a0)), (1, .int x1), (2, .int x2)]) hx hb dX9_streetsAt_41 hl (k := 3) rfl rfl (by decide) rfl (fun ls hl => ?_)
  refine lv_goto (tgt := 4) hx hb dX9_streetsAt_44 (by decide) ?_
  exact hk4 _ _ _ _ _ hE _ _ _ hH hS (lv_sub hl [1, 2, 3, 0] rfl)
def fX9_streetsAt_b4c (F : Nat) (k4 : Nat → Int32 → Int32 → Int32 → HL → Option (Int32 × HL)) (a0 : Nat) (x1 : Int32) (x2 : Int32) (x3 : Int32) (L : HL) : Option (Int32 × HL) := (o_gR L a0 8 2).bind fun v1 => (o_gI L v1 6 1).bind fun v2 => if v2 ≤ x3 then (some (x2, L)) else ((o_gR L a0 8 2).bind fun v4 => (fX7_endsOf_T F L v4 x1).bind fun z5 => (o_gR z5.2 a0 8 2).bind fun v6 => (fX7_endsOf_T F z5.2 v6 x3).bind fun z7 => if (z5.1 &&& z7.1) = 0 then (fX9_streetsAt_b41 F k4 a0 x1 x2 x3 z7.2) else (fX9_streetsAt_b41 F k4 a0 x1 (x2 ||| ((1 : Int32) <<< (x3 &&& 31))) x3 z7.2))
def fX9_streetsAt_b4 (F : Nat) : Nat → Nat → Int32 → Int32 → Int32 → HL → Option (Int32 × HL)
  | 0 => fun _ _ _ _ _ => none
  | n + 1 => fun a0 x1 x2 x3 L => fX9_streetsAt_b4c F (fX9_streetsAt_b4 F n) a0 x1 x2 x3 L
set_option maxHeartbeats 4000000 in
set_option maxRecDepth 100000 in
theorem sX9_streetsAt_b4c {b0 : Nat} {D : va_G} {cA : Nat → ClassId} {p : Program} {l : Launch} {ev : Env} {s : State} {m : MethodId} {args : Array Value} {below : List Frame} {meth : Method} {c : Code} {F : Nat} {z : (Int32 × HL)} {k4 : Nat → Int32 → Int32 → Int32 → HL → Option (Int32 × HL)} {a0 : Nat} {x1 : Int32} {x2 : Int32} {x3 : Int32} {L : HL} (hC : Cx D cA p s m args meth c cX9_streetsAt 4 RX9 wsX9_streetsAt (some .int)) (hk4 : ∀ (a0' : Nat) (x1' : Int32) (x2' : Int32) (x3' : Int32) (L' : HL), k4 a0' x1' x2' x3' L' = some z → WB b0 D cA p l ev (RM 1 0 0) s m args below meth c 4 0 0 (MQ below (Qk b0 D cA (some (.int z.1)) z.2) args s 0 0 (Ab b0)) 4 [(0, .ref (b0 + a0')), (1, .int x1'), (2, .int x2'), (3, .int x3')] [] L') (hE : fX9_streetsAt_b4c F k4 a0 x1 x2 x3 L = some z) : WB b0 D cA p l ev (RM 1 0 0) s m args below meth c 4 0 0 (MQ below (Qk b0 D cA (some (.int z.1)) z.2) args s 0 0 (Ab b0)) 4 [(0, .ref (b0 + a0)), (1, .int x1), (2, .int x2), (3, .int x3)] [] L := by
  obtain ⟨hx, hb, hml, hown, hts, hK, hr, hlocks⟩ := id hC
  intro H locs ls hH hS hl
  unfold fX9_streetsAt_b4c at hE
  refine lv_iload_n hx hb dX9_streetsAt_4 rfl (lv_at hl 3 rfl) ?_
  refine lv_aload_n hx hb dX9_streetsAt_5 rfl (lv_at hl 0 rfl) ?_
  obtain ⟨v1, hv1, hE⟩ := Option.bind_eq_some_iff.mp hE
  refine r_gR 2 (C := RX9) (T := TX9) (N := 10) (ci := 8) hx hb hts (by decide +kernel) hown hK hH hv1 rfl (by decide) (hts (.fieldLink RX9 23 "KindStreets" "town" "LKindStreets$Town;") (by decide +kernel)) (fun _ h9 => h9) dX9_streetsAt_6 ?_
  obtain ⟨v2, hv2, hE⟩ := Option.bind_eq_some_iff.mp hE
  refine r_gI 1 (C := RX7) (T := TX7) (N := 8) (ci := 6) hx hb hts (by decide +kernel) hown hK hH hv2 rfl (by decide) (hts (.fieldLink RX9 189 "KindStreets$Town" "streets" "I") (by decide +kernel)) (fun _ h9 => h9) dX9_streetsAt_9 ?_
  refine lv_icmp_ge (tgt := 47) hx hb dX9_streetsAt_12 (by decide) (fun c3 => ?_) (fun c3 => ?_)
  · rw [if_pos c3] at hE
    refine lv_iload_n hx hb dX9_streetsAt_47 rfl (lv_at hl 2 rfl) ?_
    have hZ := Option.some.inj hE
    subst hZ
    exact W.iret (v := x2) hx hb hr (fun t ht hW => ⟨rfl, by rw [ht]; exact hH, hS.F ht⟩) hS.2.2 dX9_streetsAt_48
  · rw [if_neg c3] at hE
    refine lv_aload_n hx hb dX9_streetsAt_15 rfl (lv_at hl 0 rfl) ?_
    obtain ⟨v4, hv4, hE⟩ := Option.bind_eq_some_iff.mp hE
    refine r_gR 2 (C := RX9) (T := TX9) (N := 10) (ci := 8) hx hb hts (by decide +kernel) hown hK hH hv4 rfl (by decide) (hts (.fieldLink RX9 23 "KindStreets" "town" "LKindStreets$Town;") (by decide +kernel)) (fun _ h9 => h9) dX9_streetsAt_16 ?_
    refine lv_iload_n hx hb dX9_streetsAt_19 rfl (lv_at hl 1 rfl) ?_
    obtain ⟨z5, hz5, hE⟩ := Option.bind_eq_some_iff.mp hE
    refine r_callI (va_runV (As := [.int x1]) (rest := []) ⟨hx, hb, hml, hown, hts⟩ (sX7_endsOf_T l b0 D cA hz5) (cwV 1 hts gX9_streetsAt_X7_endsOf rfl rfl rfl (by decide +kernel) (rm_ok (by decide) (by decide))) (pre_V (ci := 6) hK hH (oX7_endsOf_T hz5) rfl) rfl rfl hl.1 rfl (lv_room (Nat.le_of_ble_eq_true rfl)) dX9_streetsAt_20 ⟨Nat.zero_le _, Nat.zero_le _⟩) hS (fun H locs hH hS => ?_)
    refine lv_aload_n hx hb dX9_streetsAt_23 rfl (lv_at hl 0 rfl) ?_
    obtain ⟨v6, hv6, hE⟩ := Option.bind_eq_some_iff.mp hE
    refine r_gR 2 (C := RX9) (T := TX9) (N := 10) (ci := 8) hx hb hts (by decide +kernel) hown hK hH hv6 rfl (by decide) (hts (.fieldLink RX9 23 "KindStreets" "town" "LKindStreets$Town;") (by decide +kernel)) (fun _ h9 => h9) dX9_streetsAt_24 ?_
    refine lv_iload_n hx hb dX9_streetsAt_27 rfl (lv_at hl 3 rfl) ?_
    obtain ⟨z7, hz7, hE⟩ := Option.bind_eq_some_iff.mp hE
    refine r_callI (va_runV (As := [.int x3]) (rest := [.int z5.1]) ⟨hx, hb, hml, hown, hts⟩ (sX7_endsOf_T l b0 D cA hz7) (cwV 1 hts gX9_streetsAt_X7_endsOf rfl rfl rfl (by decide +kernel) (rm_ok (by decide) (by decide))) (pre_V (ci := 6) hK hH (oX7_endsOf_T hz7) rfl) rfl rfl hl.1 rfl (lv_room (Nat.le_of_ble_eq_true rfl)) dX9_streetsAt_28 ⟨Nat.zero_le _, Nat.zero_le _⟩) hS (fun H locs hH hS => ?_)
    refine lv_iand hx hb dX9_streetsAt_31 ?_
    refine lv_if_eq (tgt := 41) hx hb dX9_streetsAt_32 (by decide) (fun c8 => ?_) (fun c8 => ?_)
    · rw [if_pos c8] at hE
      exact sX9_streetsAt_b41 (F := F) hC hk4 hE _ _ _ hH hS (lv_sub hl [0, 1, 2, 3] rfl)
    · rw [if_neg c8] at hE
      refine lv_iload_n hx hb dX9_streetsAt_35 rfl (lv_at hl 2 rfl) ?_
      refine lv_iconst (v := 1) hx hb dX9_streetsAt_36 (by decide) ?_
      refine lv_iload_n hx hb dX9_streetsAt_37 rfl (lv_at hl 3 rfl) ?_
      refine lv_ishl hx hb dX9_streetsAt_38 ?_
      refine lv_ior hx hb dX9_streetsAt_39 ?_
      refine lv_istore_n (lv' := [(2, .int (x2 ||| ((1 : Int32) <<< (x3 &&& 31)))), (0, .ref (b0 + a0)), (1, .int x1), (3, .int x3)]) hx hb dX9_streetsAt_40 rfl hl (by decide) rfl (fun ls hl => ?_)
      exact sX9_streetsAt_b41 (F := F) hC hk4 hE _ _ _ hH hS (lv_sub hl [1, 2, 0, 3] rfl)
theorem sX9_streetsAt_b4 {b0 : Nat} {D : va_G} {cA : Nat → ClassId} {p : Program} {l : Launch} {ev : Env} {s : State} {m : MethodId} {args : Array Value} {below : List Frame} {meth : Method} {c : Code} {F : Nat} {z : (Int32 × HL)} (hC : Cx D cA p s m args meth c cX9_streetsAt 4 RX9 wsX9_streetsAt (some .int)) : ∀ (n : Nat) (a0 : Nat) (x1 : Int32) (x2 : Int32) (x3 : Int32) (L : HL), fX9_streetsAt_b4 F n a0 x1 x2 x3 L = some z → WB b0 D cA p l ev (RM 1 0 0) s m args below meth c 4 0 0 (MQ below (Qk b0 D cA (some (.int z.1)) z.2) args s 0 0 (Ab b0)) 4 [(0, .ref (b0 + a0)), (1, .int x1), (2, .int x2), (3, .int x3)] [] L := by
  intro n
  induction n with
  | zero => intro a0 x1 x2 x3 L hE; cases hE
  | succ n ih => intro a0 x1 x2 x3 L hE; exact sX9_streetsAt_b4c (F := F) hC ih hE
def fX9_streetsAt (F : Nat) (L : HL) (a0 : Nat) (x1 : Int32) : Option (Int32 × HL) := (o_ob L a0 8).bind fun _ => fX9_streetsAt_b4 F F a0 x1 0 0 L
theorem oX9_streetsAt {F : Nat} {L : HL} {a0 : Nat} {x1 : Int32} {z : (Int32 × HL)} (hE : fX9_streetsAt F L a0 x1 = some z) : o_ob L a0 8 = some () := by
  obtain ⟨_, h, _⟩ := Option.bind_eq_some_iff.mp hE
  exact h
set_option maxHeartbeats 4000000 in
set_option maxRecDepth 100000 in
theorem sX9_streetsAt (l : Launch) (b0 : Nat) (D : va_G) (cA : Nat → ClassId) {F : Nat} {L : HL} {a0 : Nat} {x1 : Int32} {z : (Int32 × HL)} (hE : fX9_streetsAt F L a0 x1 = some z) : Met l yX9_streetsAt wsX9_streetsAt (RM 1 0 0) (Pk b0 D cA [.ref (b0 + a0), .int x1] L) (Qk b0 D cA (some (.int z.1)) z.2) 0 0 (Ab b0) := by
  refine Met.ofW (cc := cX9_streetsAt) (maxL := 4) (ret := (some .int)) (by decide) rfl ?_
  intro p ev s m args below meth c s₁ B hml hv
  obtain ⟨rfl, hH, hK⟩ := hv
  have hx := B.exec
  have hb := B.bytes
  have hr := B.returns
  have hts := atoms_spec (ws := wsX9_streetsAt) B.pre
  have hown : s.vm.findClass RX9 = some m.cls := findClass_of_methodNamed B.named
  have hlocks := B.notSynchronized
  have hC : Cx D cA p s m _ meth c cX9_streetsAt 4 RX9 wsX9_streetsAt (some .int) := ⟨hx, hb, hml, hown, hts, hK, hr, hlocks⟩
  have hS : va_S (Ab b0) s.heap s.heap [] := va_S.rf
  have hl := lv_entry ([.ref (b0 + a0), .int x1]) (n := 4) (Nat.le_of_ble_eq_true rfl)
  rw [lg_entry_eq]
  generalize (lg_sl ([.ref (b0 + a0), .int x1]) ++ List.replicate (4 - (lg_sl ([.ref (b0 + a0), .int x1])).length) Slot.unset).toArray = ls at hl ⊢
  have hl : lv_has ls 4 [(0, .ref (b0 + a0)), (1, .int x1)] := hl
  unfold fX9_streetsAt at hE
  obtain ⟨_, _, hE⟩ := Option.bind_eq_some_iff.mp hE
  refine lv_iconst (v := 0) hx hb dX9_streetsAt_0 (by decide) ?_
  refine lv_istore_n (lv' := [(2, .int 0), (0, .ref (b0 + a0)), (1, .int x1)]) hx hb dX9_streetsAt_1 rfl hl (by decide) rfl (fun ls hl => ?_)
  refine lv_iconst (v := 0) hx hb dX9_streetsAt_2 (by decide) ?_
  refine lv_istore_n (lv' := [(3, .int 0), (2, .int 0), (0, .ref (b0 + a0)), (1, .int x1)]) hx hb dX9_streetsAt_3 rfl hl (by decide) rfl (fun ls hl => ?_)
  exact sX9_streetsAt_b4 (F := F) hC F _ _ _ _ _ hE _ _ _ hH hS (lv_sub hl [2, 3, 1, 0] rfl)
-- X9_livingInAny
def fX9_livingInAny_b40 (F : Nat) (k4 : Nat → Int32 → Int32 → Int32 → HL → Option (Int32 × HL)) (a0 : Nat) (x1 : Int32) (x2 : Int32) (x3 : Int32) (L : HL) : Option (Int32 × HL) := k4 a0 x1 x2 (x3 + 1) L
set_option maxHeartbeats 4000000 in
set_option maxRecDepth 100000 in
theorem sX9_livingInAny_b40 {b0 : Nat} {D : va_G} {cA : Nat → ClassId} {p : Program} {l : Launch} {ev : Env} {s : State} {m : MethodId} {args : Array Value} {below : List Frame} {meth : Method} {c : Code} {F : Nat} {z : (Int32 × HL)} {k4 : Nat → Int32 → Int32 → Int32 → HL → Option (Int32 × HL)} {a0 : Nat} {x1 : Int32} {x2 : Int32} {x3 : Int32} {L : HL} (hC : Cx D cA p s m args meth c cX9_livingInAny 4 RX9 wsX9_livingInAny (some .int)) (hk4 : ∀ (a0' : Nat) (x1' : Int32) (x2' : Int32) (x3' : Int32) (L' : HL), k4 a0' x1' x2' x3' L' = some z → WB b0 D cA p l ev (RM 1 0 0) s m args below meth c 4 0 0 (MQ below (Qk b0 D cA (some (.int z.1)) z.2) args s 0 0 (Ab b0)) 4 [(0, .ref (b0 + a0')), (1, .int x1'), (2, .int x2'), (3, .int x3')] [] L') (hE : fX9_livingInAny_b40 F k4 a0 x1 x2 x3 L = some z) : WB b0 D cA p l ev (RM 1 0 0) s m args below meth c 4 0 0 (MQ below (Qk b0 D cA (some (.int z.1)) z.2) args s 0 0 (Ab b0)) 40 [(0, .ref (b0 + a0)), (1, .int x1), (2, .int x2), (3, .int x3)] [] L := by
  obtain ⟨hx, hb, hml, hown, hts, hK, hr, hlocks⟩ := id hC
  intro H locs ls hH hS hl
  unfold fX9_livingInAny_b40 at hE
  refine lv_iinc (v := (x3 + 1)) (lv' := [(3, .int (x3 + 1)), (0, .ref (b0 + a0)), (1, .int x1), (2, .int x2)]) hx hb dX9_livingInAny_40 hl (k := 3) rfl rfl (by decide) rfl (fun ls hl => ?_)
  refine lv_goto (tgt := 4) hx hb dX9_livingInAny_43 (by decide) ?_
  exact hk4 _ _ _ _ _ hE _ _ _ hH hS (lv_sub hl [1, 2, 3, 0] rfl)
def fX9_livingInAny_b4c (F : Nat) (k4 : Nat → Int32 → Int32 → Int32 → HL → Option (Int32 × HL)) (a0 : Nat) (x1 : Int32) (x2 : Int32) (x3 : Int32) (L : HL) : Option (Int32 × HL) := (o_gR L a0 8 2).bind fun v1 => (o_gI L v1 6 2).bind fun v2 => if v2 ≤ x3 then (some (x2, L)) else ((o_gR L a0 8 3).bind fun v4 => (o_gR L v4 3 0).bind fun v5 => (o_gR L v5 2 3).bind fun v6 => (o_aI L v6 0 x3).bind fun v7 => (fX5_has F L x1 v7).bind fun z8 => if z8.1 = 0 then (fX9_livingInAny_b40 F k4 a0 x1 x2 x3 z8.2) else (fX9_livingInAny_b40 F k4 a0 x1 (x2 ||| ((1 : Int32) <<< (x3 &&& 31))) x3 z8.2))
def fX9_livingInAny_b4 (F : Nat) : Nat → Nat → Int32 → Int32 → Int32 → HL → Option (Int32 × HL)
  | 0 => fun _ _ _ _ _ => none
  | n + 1 => fun a0 x1 x2 x3 L => fX9_livingInAny_b4c F (fX9_livingInAny_b4 F n) a0 x1 x2 x3 L
set_option maxHeartbeats 4000000 in
set_option maxRecDepth 100000 in
theorem sX9_livingInAny_b4c {b0 : Nat} {D : va_G} {cA : Nat → ClassId} {p : Program} {l : Launch} {ev : Env} {s : State} {m : MethodId} {args : Array Value} {below : List Frame} {meth : Method} {c : Code} {F : Nat} {z : (Int32 × HL)} {k4 : Nat → Int32 → Int32 → Int32 → HL → Option (Int32 × HL)} {a0 : Nat} {x1 : Int32} {x2 : Int32} {x3 : Int32} {L : HL} (hC : Cx D cA p s m args meth c cX9_livingInAny 4 RX9 wsX9_livingInAny (some .int)) (hk4 : ∀ (a0' : Nat) (x1' : Int32) (x2' : Int32) (x3' : Int32) (L' : HL), k4 a0' x1' x2' x3' L' = some z → WB b0 D cA p l ev (RM 1 0 0) s m args below meth c 4 0 0 (MQ below (Qk b0 D cA (some (.int z.1)) z.2) args s 0 0 (Ab b0)) 4 [(0, .ref (b0 + a0')), (1, .int x1'), (2, .int x2'), (3, .int x3')] [] L') (hE : fX9_livingInAny_b4c F k4 a0 x1 x2 x3 L = some z) : WB b0 D cA p l ev (RM 1 0 0) s m args below meth c 4 0 0 (MQ below (Qk b0 D cA (some (.int z.1)) z.2) args s 0 0 (Ab b0)) 4 [(0, .ref (b0 + a0)), (1, .int x1), (2, .int x2), (3, .int x3)] [] L := by
  obtain ⟨hx, hb, hml, hown, hts, hK, hr, hlocks⟩ := id hC
  intro H locs ls hH hS hl
  unfold fX9_livingInAny_b4c at hE
  refine lv_iload_n hx hb dX9_livingInAny_4 rfl (lv_at hl 3 rfl) ?_
  refine lv_aload_n hx hb dX9_livingInAny_5 rfl (lv_at hl 0 rfl) ?_
  obtain ⟨v1, hv1, hE⟩ := Option.bind_eq_some_iff.mp hE
  refine r_gR 2 (C := RX9) (T := TX9) (N := 10) (ci := 8) hx hb hts (by decide +kernel) hown hK hH hv1 rfl (by decide) (hts (.fieldLink RX9 23 "KindStreets" "town" "LKindStreets$Town;") (by decide +kernel)) (fun _ h9 => h9) dX9_livingInAny_6 ?_
  obtain ⟨v2, hv2, hE⟩ := Option.bind_eq_some_iff.mp hE
  refine r_gI 2 (C := RX7) (T := TX7) (N := 8) (ci := 6) hx hb hts (by decide +kernel) hown hK hH hv2 rfl (by decide) (hts (.fieldLink RX9 260 "KindStreets$Town" "citizens" "I") (by decide +kernel)) (fun _ h9 => h9) dX9_livingInAny_9 ?_
  refine lv_icmp_ge (tgt := 46) hx hb dX9_livingInAny_12 (by decide) (fun c3 => ?_) (fun c3 => ?_)
  · rw [if_pos c3] at hE
    refine lv_iload_n hx hb dX9_livingInAny_46 rfl (lv_at hl 2 rfl) ?_
    have hZ := Option.some.inj hE
    subst hZ
    exact W.iret (v := x2) hx hb hr (fun t ht hW => ⟨rfl, by rw [ht]; exact hH, hS.F ht⟩) hS.2.2 dX9_livingInAny_47
  · rw [if_neg c3] at hE
    refine lv_iload_n hx hb dX9_livingInAny_15 rfl (lv_at hl 1 rfl) ?_
    refine lv_aload_n hx hb dX9_livingInAny_16 rfl (lv_at hl 0 rfl) ?_
    obtain ⟨v4, hv4, hE⟩ := Option.bind_eq_some_iff.mp hE
    refine r_gR 3 (C := RX9) (T := TX9) (N := 10) (ci := 8) hx hb hts (by decide +kernel) hown hK hH hv4 rfl (by decide) (hts (.fieldLink RX9 29 "KindStreets" "now" "LKindStreets$Now;") (by decide +kernel)) (fun _ h9 => h9) dX9_livingInAny_17 ?_
    obtain ⟨v5, hv5, hE⟩ := Option.bind_eq_some_iff.mp hE
    refine r_gR 0 (C := RX3) (T := TX3) (N := 3) (ci := 3) hx hb hts (by decide +kernel) hown hK hH hv5 rfl (by decide) (hts (.fieldLink RX9 98 "KindStreets$Now" "moment" "LKindStreets$Moment;") (by decide +kernel)) (fun _ h9 => h9) dX9_livingInAny_20 ?_
    obtain ⟨v6, hv6, hE⟩ := Option.bind_eq_some_iff.mp hE
    refine r_gR 3 (C := RX2) (T := TX2) (N := 5) (ci := 2) hx hb hts (by decide +kernel) hown hK hH hv6 rfl (by decide) (hts (.fieldLink RX9 123 "KindStreets$Moment" "home" "[I") (by decide +kernel)) (fun _ h9 => h9) dX9_livingInAny_23 ?_
    refine lv_iload_n hx hb dX9_livingInAny_26 rfl (lv_at hl 3 rfl) ?_
    obtain ⟨v7, hv7, hE⟩ := Option.bind_eq_some_iff.mp hE
    refine r_iald hx hb hK hH hv7 dX9_livingInAny_27 ?_
    obtain ⟨z8, hz8, hE⟩ := Option.bind_eq_some_iff.mp hE
    refine r_callI (va_runS (As := [.int x1, .int v7]) (rest := []) ⟨hx, hb, hml, hown, hts⟩ (sX5_has l b0 D cA hz8) (va_cwS 2 hts gX9_livingInAny_X5_has rfl rfl rfl (by decide +kernel) (rm_ok (by decide) (by decide))) (pre_S hK hH) rfl rfl hl.1 rfl (lv_room (Nat.le_of_ble_eq_true rfl)) dX9_livingInAny_28 ⟨Nat.zero_le _, Nat.zero_le _⟩) hS (fun H locs hH hS => ?_)
    refine lv_if_eq (tgt := 40) hx hb dX9_livingInAny_31 (by decide) (fun c9 => ?_) (fun c9 => ?_)
    · rw [if_pos c9] at hE
      exact sX9_livingInAny_b40 (F := F) hC hk4 hE _ _ _ hH hS (lv_sub hl [0, 1, 2, 3] rfl)
    · rw [if_neg c9] at hE
      refine lv_iload_n hx hb dX9_livingInAny_34 rfl (lv_at hl 2 rfl) ?_
      refine lv_iconst (v := 1) hx hb dX9_livingInAny_35 (by decide) ?_
      refine lv_iload_n hx hb dX9_livingInAny_36 rfl (lv_at hl 3 rfl) ?_
      refine lv_ishl hx hb dX9_livingInAny_37 ?_
      refine lv_ior hx hb dX9_livingInAny_38 ?_
      refine lv_istore_n (lv' := [(2, .int (x2 ||| ((1 : Int32) <<< (x3 &&& 31)))), (0, .ref (b0 + a0)), (1, .int x1), (3, .int x3)]) hx hb dX9_livingInAny_39 rfl hl (by decide) rfl (fun ls hl => ?_)
      exact sX9_livingInAny_b40 (F := F) hC hk4 hE _ _ _ hH hS (lv_sub hl [1, 2, 0, 3] rfl)
theorem sX9_livingInAny_b4 {b0 : Nat} {D : va_G} {cA : Nat → ClassId} {p : Program} {l : Launch} {ev : Env} {s : State} {m : MethodId} {args : Array Value} {below : List Frame} {meth : Method} {c : Code} {F : Nat} {z : (Int32 × HL)} (hC : Cx D cA p s m args meth c cX9_livingInAny 4 RX9 wsX9_livingInAny (some .int)) : ∀ (n : Nat) (a0 : Nat) (x1 : Int32) (x2 : Int32) (x3 : Int32) (L : HL), fX9_livingInAny_b4 F n a0 x1 x2 x3 L = some z → WB b0 D cA p l ev (RM 1 0 0) s m args below meth c 4 0 0 (MQ below (Qk b0 D cA (some (.int z.1)) z.2) args s 0 0 (Ab b0)) 4 [(0, .ref (b0 + a0)), (1, .int x1), (2, .int x2), (3, .int x3)] [] L := by
  intro n
  induction n with
  | zero => intro a0 x1 x2 x3 L hE; cases hE
  | succ n ih => intro a0 x1 x2 x3 L hE; exact sX9_livingInAny_b4c (F := F) hC ih hE
def fX9_livingInAny (F : Nat) (L : HL) (a0 : Nat) (x1 : Int32) : Option (Int32 × HL) := (o_ob L a0 8).bind fun _ => fX9_livingInAny_b4 F F a0 x1 0 0 L
theorem oX9_livingInAny {F : Nat} {L : HL} {a0 : Nat} {x1 : Int32} {z : (Int32 × HL)} (hE : fX9_livingInAny F L a0 x1 = some z) : o_ob L a0 8 = some () := by
  obtain ⟨_, h, _⟩ := Option.bind_eq_some_iff.mp hE
  exact h
set_option maxHeartbeats 4000000 in
set_option maxRecDepth 100000 in
theorem sX9_livingInAny (l : Launch) (b0 : Nat) (D : va_G) (cA : Nat → ClassId) {F : Nat} {L : HL} {a0 : Nat} {x1 : Int32} {z : (Int32 × HL)} (hE : fX9_livingInAny F L a0 x1 = some z) : Met l yX9_livingInAny wsX9_livingInAny (RM 1 0 0) (Pk b0 D cA [.ref (b0 + a0), .int x1] L) (Qk b0 D cA (some (.int z.1)) z.2) 0 0 (Ab b0) := by
  refine Met.ofW (cc := cX9_livingInAny) (maxL := 4) (ret := (some .int)) (by decide) rfl ?_
  intro p ev s m args below meth c s₁ B hml hv
  obtain ⟨rfl, hH, hK⟩ := hv
  have hx := B.exec
  have hb := B.bytes
  have hr := B.returns
  have hts := atoms_spec (ws := wsX9_livingInAny) B.pre
  have hown : s.vm.findClass RX9 = some m.cls := findClass_of_methodNamed B.named
  have hlocks := B.notSynchronized
  have hC : Cx D cA p s m _ meth c cX9_livingInAny 4 RX9 wsX9_livingInAny (some .int) := ⟨hx, hb, hml, hown, hts, hK, hr, hlocks⟩
  have hS : va_S (Ab b0) s.heap s.heap [] := va_S.rf
  have hl := lv_entry ([.ref (b0 + a0), .int x1]) (n := 4) (Nat.le_of_ble_eq_true rfl)
  rw [lg_entry_eq]
  generalize (lg_sl ([.ref (b0 + a0), .int x1]) ++ List.replicate (4 - (lg_sl ([.ref (b0 + a0), .int x1])).length) Slot.unset).toArray = ls at hl ⊢
  have hl : lv_has ls 4 [(0, .ref (b0 + a0)), (1, .int x1)] := hl
  unfold fX9_livingInAny at hE
  obtain ⟨_, _, hE⟩ := Option.bind_eq_some_iff.mp hE
  refine lv_iconst (v := 0) hx hb dX9_livingInAny_0 (by decide) ?_
  refine lv_istore_n (lv' := [(2, .int 0), (0, .ref (b0 + a0)), (1, .int x1)]) hx hb dX9_livingInAny_1 rfl hl (by decide) rfl (fun ls hl => ?_)
  refine lv_iconst (v := 0) hx hb dX9_livingInAny_2 (by decide) ?_
  refine lv_istore_n (lv' := [(3, .int 0), (2, .int 0), (0, .ref (b0 + a0)), (1, .int x1)]) hx hb dX9_livingInAny_3 rfl hl (by decide) rfl (fun ls hl => ?_)
  exact sX9_livingInAny_b4 (F := F) hC F _ _ _ _ _ hE _ _ _ hH hS (lv_sub hl [2, 3, 1, 0] rfl)
-- X9_livingIn
def fX9_livingIn (F : Nat) (L : HL) (a0 : Nat) (x1 : Int32) : Option (Int32 × HL) := (o_ob L a0 8).bind fun _ => (fX9_livingInAny F L a0 ((1 : Int32) <<< (x1 &&& 31))).bind fun z1 => some (z1.1, z1.2)
theorem oX9_livingIn {F : Nat} {L : HL} {a0 : Nat} {x1 : Int32} {z : (Int32 × HL)} (hE : fX9_livingIn F L a0 x1 = some z) : o_ob L a0 8 = some () := by
  obtain ⟨_, h, _⟩ := Option.bind_eq_some_iff.mp hE
  exact h
set_option maxHeartbeats 4000000 in
set_option maxRecDepth 100000 in
theorem sX9_livingIn (l : Launch) (b0 : Nat) (D : va_G) (cA : Nat → ClassId) {F : Nat} {L : HL} {a0 : Nat} {x1 : Int32} {z : (Int32 × HL)} (hE : fX9_livingIn F L a0 x1 = some z) : Met l yX9_livingIn wsX9_livingIn (RM 2 0 0) (Pk b0 D cA [.ref (b0 + a0), .int x1] L) (Qk b0 D cA (some (.int z.1)) z.2) 0 0 (Ab b0) := by
  refine Met.ofW (cc := cX9_livingIn) (maxL := 2) (ret := (some .int)) (by decide) rfl ?_
  intro p ev s m args below meth c s₁ B hml hv
  obtain ⟨rfl, hH, hK⟩ := hv
  have hx := B.exec
  have hb := B.bytes
  have hr := B.returns
  have hts := atoms_spec (ws := wsX9_livingIn) B.pre
  have hown : s.vm.findClass RX9 = some m.cls := findClass_of_methodNamed B.named
  have hlocks := B.notSynchronized
  have hC : Cx D cA p s m _ meth c cX9_livingIn 2 RX9 wsX9_livingIn (some .int) := ⟨hx, hb, hml, hown, hts, hK, hr, hlocks⟩
  have hS : va_S (Ab b0) s.heap s.heap [] := va_S.rf
  have hl := lv_entry ([.ref (b0 + a0), .int x1]) (n := 2) (Nat.le_of_ble_eq_true rfl)
  rw [lg_entry_eq]
  generalize (lg_sl ([.ref (b0 + a0), .int x1]) ++ List.replicate (2 - (lg_sl ([.ref (b0 + a0), .int x1])).length) Slot.unset).toArray = ls at hl ⊢
  have hl : lv_has ls 2 [(0, .ref (b0 + a0)), (1, .int x1)] := hl
  unfold fX9_livingIn at hE
  obtain ⟨_, _, hE⟩ := Option.bind_eq_some_iff.mp hE
  refine lv_aload_n hx hb dX9_livingIn_0 rfl (lv_at hl 0 rfl) ?_
  refine lv_iconst (v := 1) hx hb dX9_livingIn_1 (by decide) ?_
  refine lv_iload_n hx hb dX9_livingIn_2 rfl (lv_at hl 1 rfl) ?_
  refine lv_ishl hx hb dX9_livingIn_3 ?_
  obtain ⟨z1, hz1, hE⟩ := Option.bind_eq_some_iff.mp hE
  refine r_callI (va_runV (As := [.int ((1 : Int32) <<< (x1 &&& 31))]) (rest := []) ⟨hx, hb, hml, hown, hts⟩ (sX9_livingInAny l b0 D cA hz1) (cwV 1 hts gX9_livingIn_X9_livingInAny rfl rfl rfl (by decide +kernel) (rm_ok (by decide) (by decide))) (pre_V (ci := 8) hK hH (oX9_livingInAny hz1) rfl) rfl rfl hl.1 rfl (lv_room (Nat.le_of_ble_eq_true rfl)) dX9_livingIn_4 ⟨Nat.zero_le _, Nat.zero_le _⟩) hS (fun H locs hH hS => ?_)
  have hZ := Option.some.inj hE
  subst hZ
  exact W.iret (v := z1.1) hx hb hr (fun t ht hW => ⟨rfl, by rw [ht]; exact hH, hS.F ht⟩) hS.2.2 dX9_livingIn_7
-- X9_witnessesOf
def fX9_witnessesOf (F : Nat) (L : HL) (a0 : Nat) (x1 : Int32) : Option (Int32 × HL) := (o_ob L a0 8).bind fun _ => (o_gR L a0 8 3).bind fun v1 => (o_gR L v1 3 0).bind fun v2 => (o_gR L v2 2 3).bind fun v3 => (o_aI L v3 0 x1).bind fun v4 => (fX9_streetsAt F L a0 v4).bind fun z5 => (fX9_livingInAny F z5.2 a0 z5.1).bind fun z6 => (fX5_without F z6.2 z6.1 x1).bind fun z7 => some (z7.1, z7.2)
theorem oX9_witnessesOf {F : Nat} {L : HL} {a0 : Nat} {x1 : Int32} {z : (Int32 × HL)} (hE : fX9_witnessesOf F L a0 x1 = some z) : o_ob L a0 8 = some () := by
  obtain ⟨_, h, _⟩ := Option.bind_eq_some_iff.mp hE
  exact h
set_option maxHeartbeats 4000000 in
set_option maxRecDepth 100000 in
theorem sX9_witnessesOf (l : Launch) (b0 : Nat) (D : va_G) (cA : Nat → ClassId) {F : Nat} {L : HL} {a0 : Nat} {x1 : Int32} {z : (Int32 × HL)} (hE : fX9_witnessesOf F L a0 x1 = some z) : Met l yX9_witnessesOf wsX9_witnessesOf (RM 2 0 0) (Pk b0 D cA [.ref (b0 + a0), .int x1] L) (Qk b0 D cA (some (.int z.1)) z.2) 0 0 (Ab b0) := by
  refine Met.ofW (cc := cX9_witnessesOf) (maxL := 2) (ret := (some .int)) (by decide) rfl ?_
  intro p ev s m args below meth c s₁ B hml hv
  obtain ⟨rfl, hH, hK⟩ := hv
  have hx := B.exec
  have hb := B.bytes
  have hr := B.returns
  have hts := atoms_spec (ws := wsX9_witnessesOf) B.pre
  have hown : s.vm.findClass RX9 = some m.cls := findClass_of_methodNamed B.named
  have hlocks := B.notSynchronized
  have hC : Cx D cA p s m _ meth c cX9_witnessesOf 2 RX9 wsX9_witnessesOf (some .int) := ⟨hx, hb, hml, hown, hts, hK, hr, hlocks⟩
  have hS : va_S (Ab b0) s.heap s.heap [] := va_S.rf
  have hl := lv_entry ([.ref (b0 + a0), .int x1]) (n := 2) (Nat.le_of_ble_eq_true rfl)
  rw [lg_entry_eq]
  generalize (lg_sl ([.ref (b0 + a0), .int x1]) ++ List.replicate (2 - (lg_sl ([.ref (b0 + a0), .int x1])).length) Slot.unset).toArray = ls at hl ⊢
  have hl : lv_has ls 2 [(0, .ref (b0 + a0)), (1, .int x1)] := hl
  unfold fX9_witnessesOf at hE
  obtain ⟨_, _, hE⟩ := Option.bind_eq_some_iff.mp hE
  refine lv_aload_n hx hb dX9_witnessesOf_0 rfl (lv_at hl 0 rfl) ?_
  refine lv_aload_n hx hb dX9_witnessesOf_1 rfl (lv_at hl 0 rfl) ?_
  refine lv_aload_n hx hb dX9_witnessesOf_2 rfl (lv_at hl 0 rfl) ?_
  obtain ⟨v1, hv1, hE⟩ := Option.bind_eq_some_iff.mp hE
  refine r_gR 3 (C := RX9) (T := TX9) (N := 10) (ci := 8) hx hb hts (by decide +kernel) hown hK hH hv1 rfl (by decide) (hts (.fieldLink RX9 29 "KindStreets" "now" "LKindStreets$Now;") (by decide +kernel)) (fun _ h9 => h9) dX9_witnessesOf_3 ?_
  obtain ⟨v2, hv2, hE⟩ := Option.bind_eq_some_iff.mp hE
  refine r_gR 0 (C := RX3) (T := TX3) (N := 3) (ci := 3) hx hb hts (by decide +kernel) hown hK hH hv2 rfl (by decide) (hts (.fieldLink RX9 98 "KindStreets$Now" "moment" "LKindStreets$Moment;") (by decide +kernel)) (fun _ h9 => h9) dX9_witnessesOf_6 ?_
  obtain ⟨v3, hv3, hE⟩ := Option.bind_eq_some_iff.mp hE
  refine r_gR 3 (C := RX2) (T := TX2) (N := 5) (ci := 2) hx hb hts (by decide +kernel) hown hK hH hv3 rfl (by decide) (hts (.fieldLink RX9 123 "KindStreets$Moment" "home" "[I") (by decide +kernel)) (fun _ h9 => h9) dX9_witnessesOf_9 ?_
  refine lv_iload_n hx hb dX9_witnessesOf_12 rfl (lv_at hl 1 rfl) ?_
  obtain ⟨v4, hv4, hE⟩ := Option.bind_eq_some_iff.mp hE
  refine r_iald hx hb hK hH hv4 dX9_witnessesOf_13 ?_
  obtain ⟨z5, hz5, hE⟩ := Option.bind_eq_some_iff.mp hE
  refine r_callI (va_runV (As := [.int v4]) (rest := [.ref (b0 + a0)]) ⟨hx, hb, hml, hown, hts⟩ (sX9_streetsAt l b0 D cA hz5) (cwV 1 hts gX9_witnessesOf_X9_streetsAt rfl rfl rfl (by decide +kernel) (rm_ok (by decide) (by decide))) (pre_V (ci := 8) hK hH (oX9_streetsAt hz5) rfl) rfl rfl hl.1 rfl (lv_room (Nat.le_of_ble_eq_true rfl)) dX9_witnessesOf_14 ⟨Nat.zero_le _, Nat.zero_le _⟩) hS (fun H locs hH hS => ?_)
  obtain ⟨z6, hz6, hE⟩ := Option.bind_eq_some_iff.mp hE
  refine r_callI (va_runV (As := [.int z5.1]) (rest := []) ⟨hx, hb, hml, hown, hts⟩ (sX9_livingInAny l b0 D cA hz6) (cwV 1 hts gX9_witnessesOf_X9_livingInAny rfl rfl rfl (by decide +kernel) (rm_ok (by decide) (by decide))) (pre_V (ci := 8) hK hH (oX9_livingInAny hz6) rfl) rfl rfl hl.1 rfl (lv_room (Nat.le_of_ble_eq_true rfl)) dX9_witnessesOf_17 ⟨Nat.zero_le _, Nat.zero_le _⟩) hS (fun H locs hH hS => ?_)
  refine lv_iload_n hx hb dX9_witnessesOf_20 rfl (lv_at hl 1 rfl) ?_
  obtain ⟨z7, hz7, hE⟩ := Option.bind_eq_some_iff.mp hE
  refine r_callI (va_runS (As := [.int z6.1, .int x1]) (rest := []) ⟨hx, hb, hml, hown, hts⟩ (sX5_without l b0 D cA hz7) (va_cwS 2 hts gX9_witnessesOf_X5_without rfl rfl rfl (by decide +kernel) (rm_ok (by decide) (by decide))) (pre_S hK hH) rfl rfl hl.1 rfl (lv_room (Nat.le_of_ble_eq_true rfl)) dX9_witnessesOf_21 ⟨Nat.zero_le _, Nat.zero_le _⟩) hS (fun H locs hH hS => ?_)
  have hZ := Option.some.inj hE
  subst hZ
  exact W.iret (v := z7.1) hx hb hr (fun t ht hW => ⟨rfl, by rw [ht]; exact hH, hS.F ht⟩) hS.2.2 dX9_witnessesOf_24
-- X9_widthsTogether
def fX9_widthsTogether_b4c (F : Nat) (k4 : Nat → Int32 → Int32 → HL → Option (Int32 × HL)) (a0 : Nat) (x1 : Int32) (x2 : Int32) (L : HL) : Option (Int32 × HL) := (o_gR L a0 8 2).bind fun v1 => (o_gI L v1 6 1).bind fun v2 => if v2 ≤ x2 then (some (x1, L)) else ((o_gR L a0 8 3).bind fun v4 => (o_gR L v4 3 0).bind fun v5 => (fX2_widthOf F L v5 x2).bind fun z6 => k4 a0 (x1 + z6.1) (x2 + 1) z6.2)
def fX9_widthsTogether_b4 (F : Nat) : Nat → Nat → Int32 → Int32 → HL → Option (Int32 × HL)
  | 0 => fun _ _ _ _ => none
  | n + 1 => fun a0 x1 x2 L => fX9_widthsTogether_b4c F (fX9_widthsTogether_b4 F n) a0 x1 x2 L
set_option maxHeartbeats 4000000 in
set_option maxRecDepth 100000 in
theorem sX9_widthsTogether_b4c {b0 : Nat} {D : va_G} {cA : Nat → ClassId} {p : Program} {l : Launch} {ev : Env} {s : State} {m : MethodId} {args : Array Value} {below : List Frame} {meth : Method} {c : Code} {F : Nat} {z : (Int32 × HL)} {k4 : Nat → Int32 → Int32 → HL → Option (Int32 × HL)} {a0 : Nat} {x1 : Int32} {x2 : Int32} {L : HL} (hC : Cx D cA p s m args meth c cX9_widthsTogether 3 RX9 wsX9_widthsTogether (some .int)) (hk4 : ∀ (a0' : Nat) (x1' : Int32) (x2' : Int32) (L' : HL), k4 a0' x1' x2' L' = some z → WB b0 D cA p l ev (RM 3 0 0) s m args below meth c 3 0 0 (MQ below (Qk b0 D cA (some (.int z.1)) z.2) args s 0 0 (Ab b0)) 4 [(0, .ref (b0 + a0')), (1, .int x1'), (2, .int x2')] [] L') (hE : fX9_widthsTogether_b4c F k4 a0 x1 x2 L = some z) : WB b0 D cA p l ev (RM 3 0 0) s m args below meth c 3 0 0 (MQ below (Qk b0 D cA (some (.int z.1)) z.2) args s 0 0 (Ab b0)) 4 [(0, .ref (b0 + a0)), (1, .int x1), (2, .int x2)] [] L := by
  obtain ⟨hx, hb, hml, hown, hts, hK, hr, hlocks⟩ := id hC
  intro H locs ls hH hS hl
  unfold fX9_widthsTogether_b4c at hE
  refine lv_iload_n hx hb dX9_widthsTogether_4 rfl (lv_at hl 2 rfl) ?_
  refine lv_aload_n hx hb dX9_widthsTogether_5 rfl (lv_at hl 0 rfl) ?_
  obtain ⟨v1, hv1, hE⟩ := Option.bind_eq_some_iff.mp hE
  refine r_gR 2 (C := RX9) (T := TX9) (N := 10) (ci := 8) hx hb hts (by decide +kernel) hown hK hH hv1 rfl (by decide) (hts (.fieldLink RX9 23 "KindStreets" "town" "LKindStreets$Town;") (by decide +kernel)) (fun _ h9 => h9) dX9_widthsTogether_6 ?_
  obtain ⟨v2, hv2, hE⟩ := Option.bind_eq_some_iff.mp hE
  refine r_gI 1 (C := RX7) (T := TX7) (N := 8) (ci := 6) hx hb hts (by decide +kernel) hown hK hH hv2 rfl (by decide) (hts (.fieldLink RX9 189 "KindStreets$Town" "streets" "I") (by decide +kernel)) (fun _ h9 => h9) dX9_widthsTogether_9 ?_
  refine lv_icmp_ge (tgt := 35) hx hb dX9_widthsTogether_12 (by decide) (fun c3 => ?_) (fun c3 => ?_)
  · rw [if_pos c3] at hE
    refine lv_iload_n hx hb dX9_widthsTogether_35 rfl (lv_at hl 1 rfl) ?_
    have hZ := Option.some.inj hE
    subst hZ
    exact W.iret (v := x1) hx hb hr (fun t ht hW => ⟨rfl, by rw [ht]; exact hH, hS.F ht⟩) hS.2.2 dX9_widthsTogether_36
  · rw [if_neg c3] at hE
    refine lv_iload_n hx hb dX9_widthsTogether_15 rfl (lv_at hl 1 rfl) ?_
    refine lv_aload_n hx hb dX9_widthsTogether_16 rfl (lv_at hl 0 rfl) ?_
    obtain ⟨v4, hv4, hE⟩ := Option.bind_eq_some_iff.mp hE
    refine r_gR 3 (C := RX9) (T := TX9) (N := 10) (ci := 8) hx hb hts (by decide +kernel) hown hK hH hv4 rfl (by decide) (hts (.fieldLink RX9 29 "KindStreets" "now" "LKindStreets$Now;") (by decide +kernel)) (fun _ h9 => h9) dX9_widthsTogether_17 ?_
    obtain ⟨v5, hv5, hE⟩ := Option.bind_eq_some_iff.mp hE
    refine r_gR 0 (C := RX3) (T := TX3) (N := 3) (ci := 3) hx hb hts (by decide +kernel) hown hK hH hv5 rfl (by decide) (hts (.fieldLink RX9 98 "KindStreets$Now" "moment" "LKindStreets$Moment;") (by decide +kernel)) (fun _ h9 => h9) dX9_widthsTogether_20 ?_
    refine lv_iload_n hx hb dX9_widthsTogether_23 rfl (lv_at hl 2 rfl) ?_
    obtain ⟨z6, hz6, hE⟩ := Option.bind_eq_some_iff.mp hE
    refine r_callI (va_runV (As := [.int x2]) (rest := [.int x1]) ⟨hx, hb, hml, hown, hts⟩ (sX2_widthOf l b0 D cA hz6) (cwV 1 hts gX9_widthsTogether_X2_widthOf rfl rfl rfl (by decide +kernel) (rm_ok (by decide) (by decide))) (pre_V (ci := 2) hK hH (oX2_widthOf hz6) rfl) rfl rfl hl.1 rfl (lv_room (Nat.le_of_ble_eq_true rfl)) dX9_widthsTogether_24 ⟨Nat.zero_le _, Nat.zero_le _⟩) hS (fun H locs hH hS => ?_)
    refine lv_iadd hx hb dX9_widthsTogether_27 ?_
    refine lv_istore_n (lv' := [(1, .int (x1 + z6.1)), (0, .ref (b0 + a0)), (2, .int x2)]) hx hb dX9_widthsTogether_28 rfl hl (by decide) rfl (fun ls hl => ?_)
    refine lv_iinc (v := (x2 + 1)) (lv' := [(2, .int (x2 + 1)), (1, .int (x1 + z6.1)), (0, .ref (b0 + a0))]) hx hb dX9_widthsTogether_29 hl (k := 2) rfl rfl (by decide) rfl (fun ls hl => ?_)
    refine lv_goto (tgt := 4) hx hb dX9_widthsTogether_32 (by decide) ?_
    exact hk4 _ _ _ _ hE _ _ _ hH hS (lv_sub hl [2, 1, 0] rfl)
theorem sX9_widthsTogether_b4 {b0 : Nat} {D : va_G} {cA : Nat → ClassId} {p : Program} {l : Launch} {ev : Env} {s : State} {m : MethodId} {args : Array Value} {below : List Frame} {meth : Method} {c : Code} {F : Nat} {z : (Int32 × HL)} (hC : Cx D cA p s m args meth c cX9_widthsTogether 3 RX9 wsX9_widthsTogether (some .int)) : ∀ (n : Nat) (a0 : Nat) (x1 : Int32) (x2 : Int32) (L : HL), fX9_widthsTogether_b4 F n a0 x1 x2 L = some z → WB b0 D cA p l ev (RM 3 0 0) s m args below meth c 3 0 0 (MQ below (Qk b0 D cA (some (.int z.1)) z.2) args s 0 0 (Ab b0)) 4 [(0, .ref (b0 + a0)), (1, .int x1), (2, .int x2)] [] L := by
  intro n
  induction n with
  | zero => intro a0 x1 x2 L hE; cases hE
  | succ n ih => intro a0 x1 x2 L hE; exact sX9_widthsTogether_b4c (F := F) hC ih hE
def fX9_widthsTogether (F : Nat) (L : HL) (a0 : Nat) : Option (Int32 × HL) := (o_ob L a0 8).bind fun _ => fX9_widthsTogether_b4 F F a0 0 0 L
theorem oX9_widthsTogether {F : Nat} {L : HL} {a0 : Nat} {z : (Int32 × HL)} (hE : fX9_widthsTogether F L a0 = some z) : o_ob L a0 8 = some () := by
  obtain ⟨_, h, _⟩ := Option.bind_eq_some_iff.mp hE
  exact h
set_option maxHeartbeats 4000000 in
set_option maxRecDepth 100000 in
theorem sX9_widthsTogether (l : Launch) (b0 : Nat) (D : va_G) (cA : Nat → ClassId) {F : Nat} {L : HL} {a0 : Nat} {z : (Int32 × HL)} (hE : fX9_widthsTogether F L a0 = some z) : Met l yX9_widthsTogether wsX9_widthsTogether (RM 3 0 0) (Pk b0 D cA [.ref (b0 + a0)] L) (Qk b0 D cA (some (.int z.1)) z.2) 0 0 (Ab b0) := by
  refine Met.ofW (cc := cX9_widthsTogether) (maxL := 3) (ret := (some .int)) (by decide) rfl ?_
  intro p ev s m args below meth c s₁ B hml hv
  obtain ⟨rfl, hH, hK⟩ := hv
  have hx := B.exec
  have hb := B.bytes
  have hr := B.returns
  have hts := atoms_spec (ws := wsX9_widthsTogether) B.pre
  have hown : s.vm.findClass RX9 = some m.cls := findClass_of_methodNamed B.named
  have hlocks := B.notSynchronized
  have hC : Cx D cA p s m _ meth c cX9_widthsTogether 3 RX9 wsX9_widthsTogether (some .int) := ⟨hx, hb, hml, hown, hts, hK, hr, hlocks⟩
  have hS : va_S (Ab b0) s.heap s.heap [] := va_S.rf
  have hl := lv_entry ([.ref (b0 + a0)]) (n := 3) (Nat.le_of_ble_eq_true rfl)
  rw [lg_entry_eq]
  generalize (lg_sl ([.ref (b0 + a0)]) ++ List.replicate (3 - (lg_sl ([.ref (b0 + a0)])).length) Slot.unset).toArray = ls at hl ⊢
  have hl : lv_has ls 3 [(0, .ref (b0 + a0))] := hl
  unfold fX9_widthsTogether at hE
  obtain ⟨_, _, hE⟩ := Option.bind_eq_some_iff.mp hE
  refine lv_iconst (v := 0) hx hb dX9_widthsTogether_0 (by decide) ?_
  refine lv_istore_n (lv' := [(1, .int 0), (0, .ref (b0 + a0))]) hx hb dX9_widthsTogether_1 rfl hl (by decide) rfl (fun ls hl => ?_)
  refine lv_iconst (v := 0) hx hb dX9_widthsTogether_2 (by decide) ?_
  refine lv_istore_n (lv' := [(2, .int 0), (1, .int 0), (0, .ref (b0 + a0))]) hx hb dX9_widthsTogether_3 rfl hl (by decide) rfl (fun ls hl => ?_)
  exact sX9_widthsTogether_b4 (F := F) hC F _ _ _ _ hE _ _ _ hH hS (lv_sub hl [2, 1, 0] rfl)
-- X9_streetsWithHidden
def fX9_streetsWithHidden_b33 (F : Nat) (k4 : Nat → Int32 → Int32 → HL → Option (Int32 × HL)) (a0 : Nat) (x1 : Int32) (x2 : Int32) (L : HL) : Option (Int32 × HL) := k4 a0 x1 (x2 + 1) L
set_option maxHeartbeats 4000000 in
set_option maxRecDepth 100000 in
theorem sX9_streetsWithHidden_b33 {b0 : Nat} {D : va_G} {cA : Nat → ClassId} {p : Program} {l : Launch} {ev : Env} {s : State} {m : MethodId} {args : Array Value} {below : List Frame} {meth : Method} {c : Code} {F : Nat} {z : (Int32 × HL)} {k4 : Nat → Int32 → Int32 → HL → Option (Int32 × HL)} {a0 : Nat} {x1 : Int32} {x2 : Int32} {L : HL} (hC : Cx D cA p s m args meth c cX9_streetsWithHidden 3 RX9 wsX9_streetsWithHidden (some .int)) (hk4 : ∀ (a0' : Nat) (x1' : Int32) (x2' : Int32) (L' : HL), k4 a0' x1' x2' L' = some z → WB b0 D cA p l ev (RM 0 0 0) s m args below meth c 3 0 0 (MQ below (Qk b0 D cA (some (.int z.1)) z.2) args s 0 0 (Ab b0)) 4 [(0, .ref (b0 + a0')), (1, .int x1'), (2, .int x2')] [] L') (hE : fX9_streetsWithHidden_b33 F k4 a0 x1 x2 L = some z) : WB b0 D cA p l ev (RM 0 0 0) s m args below meth c 3 0 0 (MQ below (Qk b0 D cA (some (.int z.1)) z.2) args s 0 0 (Ab b0)) 33 [(0, .ref (b0 + a0)), (1, .int x1), (2, .int x2)] [] L := by
  obtain ⟨hx, hb, hml, hown, hts, hK, hr, hlocks⟩ := id hC
  intro H locs ls hH hS hl
  unfold fX9_streetsWithHidden_b33 at hE
  refine lv_iinc (v := (x2 + 1)) (lv' := [(2, .int (x2 + 1)), (0, .ref (b0 + a0)), (1, .int x1)]) hx hb dX9_streetsWithHidden_33 hl (k := 2) rfl rfl (by decide) rfl (fun ls hl => ?_)
  refine lv_goto (tgt := 4) hx hb dX9_streetsWithHidden_36 (by decide) ?_
  exact hk4 _ _ _ _ hE _ _ _ hH hS (lv_sub hl [1, 2, 0] rfl)
def fX9_streetsWithHidden_b4c (F : Nat) (k4 : Nat → Int32 → Int32 → HL → Option (Int32 × HL)) (a0 : Nat) (x1 : Int32) (x2 : Int32) (L : HL) : Option (Int32 × HL) := (o_gR L a0 8 2).bind fun v1 => (o_gI L v1 6 1).bind fun v2 => if v2 ≤ x2 then (some (x1, L)) else ((o_gR L a0 8 3).bind fun v4 => (o_gR L v4 3 0).bind fun v5 => (o_gR L v5 2 1).bind fun v6 => (o_aI L v6 0 x2).bind fun v7 => if v7 ≤ 0 then (fX9_streetsWithHidden_b33 F k4 a0 x1 x2 L) else (fX9_streetsWithHidden_b33 F k4 a0 (x1 + 1) x2 L))
def fX9_streetsWithHidden_b4 (F : Nat) : Nat → Nat → Int32 → Int32 → HL → Option (Int32 × HL)
  | 0 => fun _ _ _ _ => none
  | n + 1 => fun a0 x1 x2 L => fX9_streetsWithHidden_b4c F (fX9_streetsWithHidden_b4 F n) a0 x1 x2 L
set_option maxHeartbeats 4000000 in
set_option maxRecDepth 100000 in
theorem sX9_streetsWithHidden_b4c {b0 : Nat} {D : va_G} {cA : Nat → ClassId} {p : Program} {l : Launch} {ev : Env} {s : State} {m : MethodId} {args : Array Value} {below : List Frame} {meth : Method} {c : Code} {F : Nat} {z : (Int32 × HL)} {k4 : Nat → Int32 → Int32 → HL → Option (Int32 × HL)} {a0 : Nat} {x1 : Int32} {x2 : Int32} {L : HL} (hC : Cx D cA p s m args meth c cX9_streetsWithHidden 3 RX9 wsX9_streetsWithHidden (some .int)) (hk4 : ∀ (a0' : Nat) (x1' : Int32) (x2' : Int32) (L' : HL), k4 a0' x1' x2' L' = some z → WB b0 D cA p l ev (RM 0 0 0) s m args below meth c 3 0 0 (MQ below (Qk b0 D cA (some (.int z.1)) z.2) args s 0 0 (Ab b0)) 4 [(0, .ref (b0 + a0')), (1, .int x1'), (2, .int x2')] [] L') (hE : fX9_streetsWithHidden_b4c F k4 a0 x1 x2 L = some z) : WB b0 D cA p l ev (RM 0 0 0) s m args below meth c 3 0 0 (MQ below (Qk b0 D cA (some (.int z.1)) z.2) args s 0 0 (Ab b0)) 4 [(0, .ref (b0 + a0)), (1, .int x1), (2, .int x2)] [] L := by
  obtain ⟨hx, hb, hml, hown, hts, hK, hr, hlocks⟩ := id hC
  intro H locs ls hH hS hl
  unfold fX9_streetsWithHidden_b4c at hE
  refine lv_iload_n hx hb dX9_streetsWithHidden_4 rfl (lv_at hl 2 rfl) ?_
  refine lv_aload_n hx hb dX9_streetsWithHidden_5 rfl (lv_at hl 0 rfl) ?_
  obtain ⟨v1, hv1, hE⟩ := Option.bind_eq_some_iff.mp hE
  refine r_gR 2 (C := RX9) (T := TX9) (N := 10) (ci := 8) hx hb hts (by decide +kernel) hown hK hH hv1 rfl (by decide) (hts (.fieldLink RX9 23 "KindStreets" "town" "LKindStreets$Town;") (by decide +kernel)) (fun _ h9 => h9) dX9_streetsWithHidden_6 ?_
  obtain ⟨v2, hv2, hE⟩ := Option.bind_eq_some_iff.mp hE
  refine r_gI 1 (C := RX7) (T := TX7) (N := 8) (ci := 6) hx hb hts (by decide +kernel) hown hK hH hv2 rfl (by decide) (hts (.fieldLink RX9 189 "KindStreets$Town" "streets" "I") (by decide +kernel)) (fun _ h9 => h9) dX9_streetsWithHidden_9 ?_
  refine lv_icmp_ge (tgt := 39) hx hb dX9_streetsWithHidden_12 (by decide) (fun c3 => ?_) (fun c3 => ?_)
  · rw [if_pos c3] at hE
    refine lv_iload_n hx hb dX9_streetsWithHidden_39 rfl (lv_at hl 1 rfl) ?_
    have hZ := Option.some.inj hE
    subst hZ
    exact W.iret (v := x1) hx hb hr (fun t ht hW => ⟨rfl, by rw [ht]; exact hH, hS.F ht⟩) hS.2.2 dX9_streetsWithHidden_40
  · rw [if_neg c3] at hE
    refine lv_aload_n hx hb dX9_streetsWithHidden_15 rfl (lv_at hl 0 rfl) ?_
    obtain ⟨v4, hv4, hE⟩ := Option.bind_eq_some_iff.mp hE
    refine r_gR 3 (C := RX9) (T := TX9) (N := 10) (ci := 8) hx hb hts (by decide +kernel) hown hK hH hv4 rfl (by decide) (hts (.fieldLink RX9 29 "KindStreets" "now" "LKindStreets$Now;") (by decide +kernel)) (fun _ h9 => h9) dX9_streetsWithHidden_16 ?_
    obtain ⟨v5, hv5, hE⟩ := Option.bind_eq_some_iff.mp hE
    refine r_gR 0 (C := RX3) (T := TX3) (N := 3) (ci := 3) hx hb hts (by decide +kernel) hown hK hH hv5 rfl (by decide) (hts (.fieldLink RX9 98 "KindStreets$Now" "moment" "LKindStreets$Moment;") (by decide +kernel)) (fun _ h9 => h9) dX9_streetsWithHidden_19 ?_
    obtain ⟨v6, hv6, hE⟩ := Option.bind_eq_some_iff.mp hE
    refine r_gR 1 (C := RX2) (T := TX2) (N := 5) (ci := 2) hx hb hts (by decide +kernel) hown hK hH hv6 rfl (by decide) (hts (.fieldLink RX9 107 "KindStreets$Moment" "hidden" "[I") (by decide +kernel)) (fun _ h9 => h9) dX9_streetsWithHidden_22 ?_
    refine lv_iload_n hx hb dX9_streetsWithHidden_25 rfl (lv_at hl 2 rfl) ?_
    obtain ⟨v7, hv7, hE⟩ := Option.bind_eq_some_iff.mp hE
    refine r_iald hx hb hK hH hv7 dX9_streetsWithHidden_26 ?_
    refine lv_if_le (tgt := 33) hx hb dX9_streetsWithHidden_27 (by decide) (fun c8 => ?_) (fun c8 => ?_)
    · rw [if_pos c8] at hE
      exact sX9_streetsWithHidden_b33 (F := F) hC hk4 hE _ _ _ hH hS (lv_sub hl [0, 1, 2] rfl)
    · rw [if_neg c8] at hE
      refine lv_iinc (v := (x1 + 1)) (lv' := [(1, .int (x1 + 1)), (0, .ref (b0 + a0)), (2, .int x2)]) hx hb dX9_streetsWithHidden_30 hl (k := 1) rfl rfl (by decide) rfl (fun ls hl => ?_)
      exact sX9_streetsWithHidden_b33 (F := F) hC hk4 hE _ _ _ hH hS (lv_sub hl [1, 0, 2] rfl)
theorem sX9_streetsWithHidden_b4 {b0 : Nat} {D : va_G} {cA : Nat → ClassId} {p : Program} {l : Launch} {ev : Env} {s : State} {m : MethodId} {args : Array Value} {below : List Frame} {meth : Method} {c : Code} {F : Nat} {z : (Int32 × HL)} (hC : Cx D cA p s m args meth c cX9_streetsWithHidden 3 RX9 wsX9_streetsWithHidden (some .int)) : ∀ (n : Nat) (a0 : Nat) (x1 : Int32) (x2 : Int32) (L : HL), fX9_streetsWithHidden_b4 F n a0 x1 x2 L = some z → WB b0 D cA p l ev (RM 0 0 0) s m args below meth c 3 0 0 (MQ below (Qk b0 D cA (some (.int z.1)) z.2) args s 0 0 (Ab b0)) 4 [(0, .ref (b0 + a0)), (1, .int x1), (2, .int x2)] [] L := by
  intro n
  induction n with
  | zero => intro a0 x1 x2 L hE; cases hE
  | succ n ih => intro a0 x1 x2 L hE; exact sX9_streetsWithHidden_b4c (F := F) hC ih hE
def fX9_streetsWithHidden (F : Nat) (L : HL) (a0 : Nat) : Option (Int32 × HL) := (o_ob L a0 8).bind fun _ => fX9_streetsWithHidden_b4 F F a0 0 0 L
theorem oX9_streetsWithHidden {F : Nat} {L : HL} {a0 : Nat} {z : (Int32 × HL)} (hE : fX9_streetsWithHidden F L a0 = some z) : o_ob L a0 8 = some () := by
  obtain ⟨_, h, _⟩ := Option.bind_eq_some_iff.mp hE
  exact h
set_option maxHeartbeats 4000000 in
set_option maxRecDepth 100000 in
theorem sX9_streetsWithHidden (l : Launch) (b0 : Nat) (D : va_G) (cA : Nat → ClassId) {F : Nat} {L : HL} {a0 : Nat} {z : (Int32 × HL)} (hE : fX9_streetsWithHidden F L a0 = some z) : Met l yX9_streetsWithHidden wsX9_streetsWithHidden (RM 0 0 0) (Pk b0 D cA [.ref (b0 + a0)] L) (Qk b0 D cA (some (.int z.1)) z.2) 0 0 (Ab b0) := by
  refine Met.ofW (cc := cX9_streetsWithHidden) (maxL := 3) (ret := (some .int)) (by decide) rfl ?_
  intro p ev s m args below meth c s₁ B hml hv
  obtain ⟨rfl, hH, hK⟩ := hv
  have hx := B.exec
  have hb := B.bytes
  have hr := B.returns
  have hts := atoms_spec (ws := wsX9_streetsWithHidden) B.pre
  have hown : s.vm.findClass RX9 = some m.cls := findClass_of_methodNamed B.named
  have hlocks := B.notSynchronized
  have hC : Cx D cA p s m _ meth c cX9_streetsWithHidden 3 RX9 wsX9_streetsWithHidden (some .int) := ⟨hx, hb, hml, hown, hts, hK, hr, hlocks⟩
  have hS : va_S (Ab b0) s.heap s.heap [] := va_S.rf
  have hl := lv_entry ([.ref (b0 + a0)]) (n := 3) (Nat.le_of_ble_eq_true rfl)
  rw [lg_entry_eq]
  generalize (lg_sl ([.ref (b0 + a0)]) ++ List.replicate (3 - (lg_sl ([.ref (b0 + a0)])).length) Slot.unset).toArray = ls at hl ⊢
  have hl : lv_has ls 3 [(0, .ref (b0 + a0))] := hl
  unfold fX9_streetsWithHidden at hE
  obtain ⟨_, _, hE⟩ := Option.bind_eq_some_iff.mp hE
  refine lv_iconst (v := 0) hx hb dX9_streetsWithHidden_0 (by decide) ?_
  refine lv_istore_n (lv' := [(1, .int 0), (0, .ref (b0 + a0))]) hx hb dX9_streetsWithHidden_1 rfl hl (by decide) rfl (fun ls hl => ?_)
  refine lv_iconst (v := 0) hx hb dX9_streetsWithHidden_2 (by decide) ?_
  refine lv_istore_n (lv' := [(2, .int 0), (1, .int 0), (0, .ref (b0 + a0))]) hx hb dX9_streetsWithHidden_3 rfl hl (by decide) rfl (fun ls hl => ?_)
  exact sX9_streetsWithHidden_b4 (F := F) hC F _ _ _ _ hE _ _ _ hH hS (lv_sub hl [2, 1, 0] rfl)
-- X9_markAsStreet
def fX9_markAsStreet (F : Nat) (L : HL) (a0 : Nat) (x1 : Int32) : Option (Int32 × HL) := (o_ob L a0 8).bind fun _ => (o_gJ L a0 8 9).bind fun v1 => (o_p L a0 8 9 (.long (v1 + 1))).bind fun L2 => (o_gR L2 a0 8 3).bind fun v3 => (o_gR L2 v3 3 0).bind fun v4 => (fX2_widthOf F L2 v4 x1).bind fun z5 => some (z5.1, z5.2)
theorem oX9_markAsStreet {F : Nat} {L : HL} {a0 : Nat} {x1 : Int32} {z : (Int32 × HL)} (hE : fX9_markAsStreet F L a0 x1 = some z) : o_ob L a0 8 = some () := by
  obtain ⟨_, h, _⟩ := Option.bind_eq_some_iff.mp hE
  exact h
set_option maxHeartbeats 4000000 in
set_option maxRecDepth 100000 in
theorem sX9_markAsStreet (l : Launch) (b0 : Nat) (D : va_G) (cA : Nat → ClassId) {F : Nat} {L : HL} {a0 : Nat} {x1 : Int32} {z : (Int32 × HL)} (hE : fX9_markAsStreet F L a0 x1 = some z) : Met l yX9_markAsStreet wsX9_markAsStreet (RM 3 0 0) (Pk b0 D cA [.ref (b0 + a0), .int x1] L) (Qk b0 D cA (some (.int z.1)) z.2) 0 0 (Ab b0) := by
  refine Met.ofW (cc := cX9_markAsStreet) (maxL := 2) (ret := (some .int)) (by decide) rfl ?_
  intro p ev s m args below meth c s₁ B hml hv
  obtain ⟨rfl, hH, hK⟩ := hv
  have hx := B.exec
  have hb := B.bytes
  have hr := B.returns
  have hts := atoms_spec (ws := wsX9_markAsStreet) B.pre
  have hown : s.vm.findClass RX9 = some m.cls := findClass_of_methodNamed B.named
  have hlocks := B.notSynchronized
  have hC : Cx D cA p s m _ meth c cX9_markAsStreet 2 RX9 wsX9_markAsStreet (some .int) := ⟨hx, hb, hml, hown, hts, hK, hr, hlocks⟩
  have hS : va_S (Ab b0) s.heap s.heap [] := va_S.rf
  have hl := lv_entry ([.ref (b0 + a0), .int x1]) (n := 2) (Nat.le_of_ble_eq_true rfl)
  rw [lg_entry_eq]
  generalize (lg_sl ([.ref (b0 + a0), .int x1]) ++ List.replicate (2 - (lg_sl ([.ref (b0 + a0), .int x1])).length) Slot.unset).toArray = ls at hl ⊢
  have hl : lv_has ls 2 [(0, .ref (b0 + a0)), (1, .int x1)] := hl
  unfold fX9_markAsStreet at hE
  obtain ⟨_, _, hE⟩ := Option.bind_eq_some_iff.mp hE
  refine lv_aload_n hx hb dX9_markAsStreet_0 rfl (lv_at hl 0 rfl) ?_
  refine lv_dup hx hb dX9_markAsStreet_1 rfl ?_
  obtain ⟨v1, hv1, hE⟩ := Option.bind_eq_some_iff.mp hE
  refine r_gJ 9 (C := RX9) (T := TX9) (N := 10) (ci := 8) hx hb hts (by decide +kernel) hown hK hH hv1 rfl (by decide) (hts (.fieldLink RX9 263 "KindStreets" "trace" "J") (by decide +kernel)) (fun _ h9 => h9) dX9_markAsStreet_2 ?_
  refine lv_lconst (v := 1) hx hb dX9_markAsStreet_5 (by decide) ?_
  refine lv_ladd hx hb dX9_markAsStreet_6 ?_
  obtain ⟨L2, hL2, hE⟩ := Option.bind_eq_some_iff.mp hE
  refine r_p 9 (v := .long (v1 + 1)) (ty := .long) (C := RX9) (T := TX9) (N := 10) (ci := 8) hx hb hts (by decide +kernel) tyX9 tyX9_ok nmX9 hown hK hH hS hL2 rfl (by decide) (hts (.fieldLink RX9 263 "KindStreets" "trace" "J") (by decide +kernel)) (fun _ h9 => h9) rfl (by decide +kernel) rfl rfl dX9_markAsStreet_7 (fun H locs hH hS => ?_)
  refine lv_aload_n hx hb dX9_markAsStreet_10 rfl (lv_at hl 0 rfl) ?_
  obtain ⟨v3, hv3, hE⟩ := Option.bind_eq_some_iff.mp hE
  refine r_gR 3 (C := RX9) (T := TX9) (N := 10) (ci := 8) hx hb hts (by decide +kernel) hown hK hH hv3 rfl (by decide) (hts (.fieldLink RX9 29 "KindStreets" "now" "LKindStreets$Now;") (by decide +kernel)) (fun _ h9 => h9) dX9_markAsStreet_11 ?_
  obtain ⟨v4, hv4, hE⟩ := Option.bind_eq_some_iff.mp hE
  refine r_gR 0 (C := RX3) (T := TX3) (N := 3) (ci := 3) hx hb hts (by decide +kernel) hown hK hH hv4 rfl (by decide) (hts (.fieldLink RX9 98 "KindStreets$Now" "moment" "LKindStreets$Moment;") (by decide +kernel)) (fun _ h9 => h9) dX9_markAsStreet_14 ?_
  refine lv_iload_n hx hb dX9_markAsStreet_17 rfl (lv_at hl 1 rfl) ?_
  obtain ⟨z5, hz5, hE⟩ := Option.bind_eq_some_iff.mp hE
  refine r_callI (va_runV (As := [.int x1]) (rest := []) ⟨hx, hb, hml, hown, hts⟩ (sX2_widthOf l b0 D cA hz5) (cwV 1 hts gX9_markAsStreet_X2_widthOf rfl rfl rfl (by decide +kernel) (rm_ok (by decide) (by decide))) (pre_V (ci := 2) hK hH (oX2_widthOf hz5) rfl) rfl rfl hl.1 rfl (lv_room (Nat.le_of_ble_eq_true rfl)) dX9_markAsStreet_18 ⟨Nat.zero_le _, Nat.zero_le _⟩) hS (fun H locs hH hS => ?_)
  have hZ := Option.some.inj hE
  subst hZ
  exact W.iret (v := z5.1) hx hb hr (fun t ht hW => ⟨rfl, by rw [ht]; exact hH, hS.F ht⟩) hS.2.2 dX9_markAsStreet_21
-- X9_markAsCross
def fX9_markAsCross (F : Nat) (L : HL) (a0 : Nat) (x1 : Int32) : Option (Int32 × HL) := (o_ob L a0 8).bind fun _ => (o_gJ L a0 8 9).bind fun v1 => (o_p L a0 8 9 (.long (v1 + 10))).bind fun L2 => (fX9_markAsStreet F L2 a0 x1).bind fun z3 => (fX9_livingIn F z3.2 a0 x1).bind fun z4 => (fJ6_bitCount_0f7a4 F z4.2 z4.1).bind fun z5 => some (z3.1 + z5.1, z5.2)
theorem oX9_markAsCross {F : Nat} {L : HL} {a0 : Nat} {x1 : Int32} {z : (Int32 × HL)} (hE : fX9_markAsCross F L a0 x1 = some z) : o_ob L a0 8 = some () := by
  obtain ⟨_, h, _⟩ := Option.bind_eq_some_iff.mp hE
  exact h
set_option maxHeartbeats 4000000 in
set_option maxRecDepth 100000 in
theorem sX9_markAsCross (l : Launch) (b0 : Nat) (D : va_G) (cA : Nat → ClassId) {F : Nat} {L : HL} {a0 : Nat} {x1 : Int32} {z : (Int32 × HL)} (hE : fX9_markAsCross F L a0 x1 = some z) : Met l yX9_markAsCross wsX9_markAsCross (RM 4 0 0) (Pk b0 D cA [.ref (b0 + a0), .int x1] L) (Qk b0 D cA (some (.int z.1)) z.2) 0 0 (Ab b0) := by
  refine Met.ofW (cc := cX9_markAsCross) (maxL := 2) (ret := (some .int)) (by decide) rfl ?_
  intro p ev s m args below meth c s₁ B hml hv
  obtain ⟨rfl, hH, hK⟩ := hv
  have hx := B.exec
  have hb := B.bytes
  have hr := B.returns
  have hts := atoms_spec (ws := wsX9_markAsCross) B.pre
  have hown : s.vm.findClass RX9 = some m.cls := findClass_of_methodNamed B.named
  have hlocks := B.notSynchronized
  have hC : Cx D cA p s m _ meth c cX9_markAsCross 2 RX9 wsX9_markAsCross (some .int) := ⟨hx, hb, hml, hown, hts, hK, hr, hlocks⟩
  have hS : va_S (Ab b0) s.heap s.heap [] := va_S.rf
  have hl := lv_entry ([.ref (b0 + a0), .int x1]) (n := 2) (Nat.le_of_ble_eq_true rfl)
  rw [lg_entry_eq]
  generalize (lg_sl ([.ref (b0 + a0), .int x1]) ++ List.replicate (2 - (lg_sl ([.ref (b0 + a0), .int x1])).length) Slot.unset).toArray = ls at hl ⊢
  have hl : lv_has ls 2 [(0, .ref (b0 + a0)), (1, .int x1)] := hl
  unfold fX9_markAsCross at hE
  obtain ⟨_, _, hE⟩ := Option.bind_eq_some_iff.mp hE
  refine lv_aload_n hx hb dX9_markAsCross_0 rfl (lv_at hl 0 rfl) ?_
  refine lv_dup hx hb dX9_markAsCross_1 rfl ?_
  obtain ⟨v1, hv1, hE⟩ := Option.bind_eq_some_iff.mp hE
  refine r_gJ 9 (C := RX9) (T := TX9) (N := 10) (ci := 8) hx hb hts (by decide +kernel) hown hK hH hv1 rfl (by decide) (hts (.fieldLink RX9 263 "KindStreets" "trace" "J") (by decide +kernel)) (fun _ h9 => h9) dX9_markAsCross_2 ?_
  refine lv_ldc2 hx hb hown (hts (.constantLong RX9 267 (10)) (by decide +kernel)) dX9_markAsCross_5 ?_
  refine lv_ladd hx hb dX9_markAsCross_8 ?_
  obtain ⟨L2, hL2, hE⟩ := Option.bind_eq_some_iff.mp hE
  refine r_p 9 (v := .long (v1 + 10)) (ty := .long) (C := RX9) (T := TX9) (N := 10) (ci := 8) hx hb hts (by decide +kernel) tyX9 tyX9_ok nmX9 hown hK hH hS hL2 rfl (by decide) (hts (.fieldLink RX9 263 "KindStreets" "trace" "J") (by decide +kernel)) (fun _ h9 => h9) rfl (by decide +kernel) rfl rfl dX9_markAsCross_9 (fun H locs hH hS => ?_)
  refine lv_aload_n hx hb dX9_markAsCross_12 rfl (lv_at hl 0 rfl) ?_
  refine lv_iload_n hx hb dX9_markAsCross_13 rfl (lv_at hl 1 rfl) ?_
  obtain ⟨z3, hz3, hE⟩ := Option.bind_eq_some_iff.mp hE
  refine r_callI (va_runV (As := [.int x1]) (rest := []) ⟨hx, hb, hml, hown, hts⟩ (sX9_markAsStreet l b0 D cA hz3) (cwV 1 hts gX9_markAsCross_X9_markAsStreet rfl rfl rfl (by decide +kernel) (rm_ok (by decide) (by decide))) (pre_V (ci := 8) hK hH (oX9_markAsStreet hz3) rfl) rfl rfl hl.1 rfl (lv_room (Nat.le_of_ble_eq_true rfl)) dX9_markAsCross_14 ⟨Nat.zero_le _, Nat.zero_le _⟩) hS (fun H locs hH hS => ?_)
  refine lv_aload_n hx hb dX9_markAsCross_17 rfl (lv_at hl 0 rfl) ?_
  refine lv_iload_n hx hb dX9_markAsCross_18 rfl (lv_at hl 1 rfl) ?_
  obtain ⟨z4, hz4, hE⟩ := Option.bind_eq_some_iff.mp hE
  refine r_callI (va_runV (As := [.int x1]) (rest := [.int z3.1]) ⟨hx, hb, hml, hown, hts⟩ (sX9_livingIn l b0 D cA hz4) (cwV 1 hts gX9_markAsCross_X9_livingIn rfl rfl rfl (by decide +kernel) (rm_ok (by decide) (by decide))) (pre_V (ci := 8) hK hH (oX9_livingIn hz4) rfl) rfl rfl hl.1 rfl (lv_room (Nat.le_of_ble_eq_true rfl)) dX9_markAsCross_19 ⟨Nat.zero_le _, Nat.zero_le _⟩) hS (fun H locs hH hS => ?_)
  obtain ⟨z5, hz5, hE⟩ := Option.bind_eq_some_iff.mp hE
  refine r_callI (va_runS (As := [.int z4.1]) (rest := [.int z3.1]) ⟨hx, hb, hml, hown, hts⟩ (sJ6_bitCount_0f7a4 l b0 D cA hz5) (va_cwS 1 hts gX9_markAsCross_J6_bitCount_0f7a4 rfl rfl rfl (by decide +kernel) (rm_ok (by decide) (by decide))) (pre_S hK hH) rfl rfl hl.1 rfl (lv_room (Nat.le_of_ble_eq_true rfl)) dX9_markAsCross_22 ⟨Nat.zero_le _, Nat.zero_le _⟩) hS (fun H locs hH hS => ?_)
  refine lv_iadd hx hb dX9_markAsCross_25 ?_
  have hZ := Option.some.inj hE
  subst hZ
  exact W.iret (v := (z3.1 + z5.1)) hx hb hr (fun t ht hW => ⟨rfl, by rw [ht]; exact hH, hS.F ht⟩) hS.2.2 dX9_markAsCross_26
-- X9_markAsLane
def fX9_markAsLane (F : Nat) (L : HL) (a0 : Nat) (x1 : Int32) : Option (Int32 × HL) := (o_ob L a0 8).bind fun _ => (o_gJ L a0 8 9).bind fun v1 => (o_p L a0 8 9 (.long (v1 + 100))).bind fun L2 => (fX9_markAsStreet F L2 a0 x1).bind fun z3 => (o_gR z3.2 a0 8 3).bind fun v4 => (o_gR z3.2 v4 3 0).bind fun v5 => (o_gR z3.2 v5 2 1).bind fun v6 => (o_aI z3.2 v6 0 x1).bind fun v7 => some (z3.1 - v7, z3.2)
theorem oX9_markAsLane {F : Nat} {L : HL} {a0 : Nat} {x1 : Int32} {z : (Int32 × HL)} (hE : fX9_markAsLane F L a0 x1 = some z) : o_ob L a0 8 = some () := by
  obtain ⟨_, h, _⟩ := Option.bind_eq_some_iff.mp hE
  exact h
set_option maxHeartbeats 4000000 in
set_option maxRecDepth 100000 in
theorem sX9_markAsLane (l : Launch) (b0 : Nat) (D : va_G) (cA : Nat → ClassId) {F : Nat} {L : HL} {a0 : Nat} {x1 : Int32} {z : (Int32 × HL)} (hE : fX9_markAsLane F L a0 x1 = some z) : Met l yX9_markAsLane wsX9_markAsLane (RM 4 0 0) (Pk b0 D cA [.ref (b0 + a0), .int x1] L) (Qk b0 D cA (some (.int z.1)) z.2) 0 0 (Ab b0) := by
  refine Met.ofW (cc := cX9_markAsLane) (maxL := 2) (ret := (some .int)) (by decide) rfl ?_
  intro p ev s m args below meth c s₁ B hml hv
  obtain ⟨rfl, hH, hK⟩ := hv
  have hx := B.exec
  have hb := B.bytes
  have hr := B.returns
  have hts := atoms_spec (ws := wsX9_markAsLane) B.pre
  have hown : s.vm.findClass RX9 = some m.cls := findClass_of_methodNamed B.named
  have hlocks := B.notSynchronized
  have hC : Cx D cA p s m _ meth c cX9_markAsLane 2 RX9 wsX9_markAsLane (some .int) := ⟨hx, hb, hml, hown, hts, hK, hr, hlocks⟩
  have hS : va_S (Ab b0) s.heap s.heap [] := va_S.rf
  have hl := lv_entry ([.ref (b0 + a0), .int x1]) (n := 2) (Nat.le_of_ble_eq_true rfl)
  rw [lg_entry_eq]
  generalize (lg_sl ([.ref (b0 + a0), .int x1]) ++ List.replicate (2 - (lg_sl ([.ref (b0 + a0), .int x1])).length) Slot.unset).toArray = ls at hl ⊢
  have hl : lv_has ls 2 [(0, .ref (b0 + a0)), (1, .int x1)] := hl
  unfold fX9_markAsLane at hE
  obtain ⟨_, _, hE⟩ := Option.bind_eq_some_iff.mp hE
  refine lv_aload_n hx hb dX9_markAsLane_0 rfl (lv_at hl 0 rfl) ?_
  refine lv_dup hx hb dX9_markAsLane_1 rfl ?_
  obtain ⟨v1, hv1, hE⟩ := Option.bind_eq_some_iff.mp hE
  refine r_gJ 9 (C := RX9) (T := TX9) (N := 10) (ci := 8) hx hb hts (by decide +kernel) hown hK hH hv1 rfl (by decide) (hts (.fieldLink RX9 263 "KindStreets" "trace" "J") (by decide +kernel)) (fun _ h9 => h9) dX9_markAsLane_2 ?_
  refine lv_ldc2 hx hb hown (hts (.constantLong RX9 269 (100)) (by decide +kernel)) dX9_markAsLane_5 ?_
  refine lv_ladd hx hb dX9_markAsLane_8 ?_
  obtain ⟨L2, hL2, hE⟩ := Option.bind_eq_some_iff.mp hE
  refine r_p 9 (v := .long (v1 + 100)) (ty := .long) (C := RX9) (T := TX9) (N := 10) (ci := 8) hx hb hts (by decide +kernel) tyX9 tyX9_ok nmX9 hown hK hH hS hL2 rfl (by decide) (hts (.fieldLink RX9 263 "KindStreets" "trace" "J") (by decide +kernel)) (fun _ h9 => h9) rfl (by decide +kernel) rfl rfl dX9_markAsLane_9 (fun H locs hH hS => ?_)
  refine lv_aload_n hx hb dX9_markAsLane_12 rfl (lv_at hl 0 rfl) ?_
  refine lv_iload_n hx hb dX9_markAsLane_13 rfl (lv_at hl 1 rfl) ?_
  obtain ⟨z3, hz3, hE⟩ := Option.bind_eq_some_iff.mp hE
  refine r_callI (va_runV (As := [.int x1]) (rest := []) ⟨hx, hb, hml, hown, hts⟩ (sX9_markAsStreet l b0 D cA hz3) (cwV 1 hts gX9_markAsLane_X9_markAsStreet rfl rfl rfl (by decide +kernel) (rm_ok (by decide) (by decide))) (pre_V (ci := 8) hK hH (oX9_markAsStreet hz3) rfl) rfl rfl hl.1 rfl (lv_room (Nat.le_of_ble_eq_true rfl)) dX9_markAsLane_14 ⟨Nat.zero_le _, Nat.zero_le _⟩) hS (fun H locs hH hS => ?_)
  refine lv_aload_n hx hb dX9_markAsLane_17 rfl (lv_at hl 0 rfl) ?_
  obtain ⟨v4, hv4, hE⟩ := Option.bind_eq_some_iff.mp hE
  refine r_gR 3 (C := RX9) (T := TX9) (N := 10) (ci := 8) hx hb hts (by decide +kernel) hown hK hH hv4 rfl (by decide) (hts (.fieldLink RX9 29 "KindStreets" "now" "LKindStreets$Now;") (by decide +kernel)) (fun _ h9 => h9) dX9_markAsLane_18 ?_
  obtain ⟨v5, hv5, hE⟩ := Option.bind_eq_some_iff.mp hE
  refine r_gR 0 (C := RX3) (T := TX3) (N := 3) (ci := 3) hx hb hts (by decide +kernel) hown hK hH hv5 rfl (by decide) (hts (.fieldLink RX9 98 "KindStreets$Now" "moment" "LKindStreets$Moment;") (by decide +kernel)) (fun _ h9 => h9) dX9_markAsLane_21 ?_
  obtain ⟨v6, hv6, hE⟩ := Option.bind_eq_some_iff.mp hE
  refine r_gR 1 (C := RX2) (T := TX2) (N := 5) (ci := 2) hx hb hts (by decide +kernel) hown hK hH hv6 rfl (by decide) (hts (.fieldLink RX9 107 "KindStreets$Moment" "hidden" "[I") (by decide +kernel)) (fun _ h9 => h9) dX9_markAsLane_24 ?_
  refine lv_iload_n hx hb dX9_markAsLane_27 rfl (lv_at hl 1 rfl) ?_
  obtain ⟨v7, hv7, hE⟩ := Option.bind_eq_some_iff.mp hE
  refine r_iald hx hb hK hH hv7 dX9_markAsLane_28 ?_
  refine lv_isub hx hb dX9_markAsLane_29 ?_
  have hZ := Option.some.inj hE
  subst hZ
  exact W.iret (v := (z3.1 - v7)) hx hb hr (fun t ht hW => ⟨rfl, by rw [ht]; exact hH, hS.F ht⟩) hS.2.2 dX9_markAsLane_30
-- X9_markAsBoulevard
def fX9_markAsBoulevard (F : Nat) (L : HL) (a0 : Nat) (x1 : Int32) : Option (Int32 × HL) := (o_ob L a0 8).bind fun _ => (o_gJ L a0 8 9).bind fun v1 => (o_p L a0 8 9 (.long (v1 + 1000))).bind fun L2 => (fX9_markAsCross F L2 a0 x1).bind fun z3 => some (z3.1 * 2, z3.2)
theorem oX9_markAsBoulevard {F : Nat} {L : HL} {a0 : Nat} {x1 : Int32} {z : (Int32 × HL)} (hE : fX9_markAsBoulevard F L a0 x1 = some z) : o_ob L a0 8 = some () := by
  obtain ⟨_, h, _⟩ := Option.bind_eq_some_iff.mp hE
  exact h
set_option maxHeartbeats 4000000 in
set_option maxRecDepth 100000 in
theorem sX9_markAsBoulevard (l : Launch) (b0 : Nat) (D : va_G) (cA : Nat → ClassId) {F : Nat} {L : HL} {a0 : Nat} {x1 : Int32} {z : (Int32 × HL)} (hE : fX9_markAsBoulevard F L a0 x1 = some z) : Met l yX9_markAsBoulevard wsX9_markAsBoulevard (RM 5 0 0) (Pk b0 D cA [.ref (b0 + a0), .int x1] L) (Qk b0 D cA (some (.int z.1)) z.2) 0 0 (Ab b0) := by
  refine Met.ofW (cc := cX9_markAsBoulevard) (maxL := 2) (ret := (some .int)) (by decide) rfl ?_
  intro p ev s m args below meth c s₁ B hml hv
  obtain ⟨rfl, hH, hK⟩ := hv
  have hx := B.exec
  have hb := B.bytes
  have hr := B.returns
  have hts := atoms_spec (ws := wsX9_markAsBoulevard) B.pre
  have hown : s.vm.findClass RX9 = some m.cls := findClass_of_methodNamed B.named
  have hlocks := B.notSynchronized
  have hC : Cx D cA p s m _ meth c cX9_markAsBoulevard 2 RX9 wsX9_markAsBoulevard (some .int) := ⟨hx, hb, hml, hown, hts, hK, hr, hlocks⟩
  have hS : va_S (Ab b0) s.heap s.heap [] := va_S.rf
  have hl := lv_entry ([.ref (b0 + a0), .int x1]) (n := 2) (Nat.le_of_ble_eq_true rfl)
  rw [lg_entry_eq]
  generalize (lg_sl ([.ref (b0 + a0), .int x1]) ++ List.replicate (2 - (lg_sl ([.ref (b0 + a0), .int x1])).length) Slot.unset).toArray = ls at hl ⊢
  have hl : lv_has ls 2 [(0, .ref (b0 + a0)), (1, .int x1)] := hl
  unfold fX9_markAsBoulevard at hE
  obtain ⟨_, _, hE⟩ := Option.bind_eq_some_iff.mp hE
  refine lv_aload_n hx hb dX9_markAsBoulevard_0 rfl (lv_at hl 0 rfl) ?_
  refine lv_dup hx hb dX9_markAsBoulevard_1 rfl ?_
  obtain ⟨v1, hv1, hE⟩ := Option.bind_eq_some_iff.mp hE
  refine r_gJ 9 (C := RX9) (T := TX9) (N := 10) (ci := 8) hx hb hts (by decide +kernel) hown hK hH hv1 rfl (by decide) (hts (.fieldLink RX9 263 "KindStreets" "trace" "J") (by decide +kernel)) (fun _ h9 => h9) dX9_markAsBoulevard_2 ?_
  refine lv_ldc2 hx hb hown (hts (.constantLong RX9 271 (1000)) (by decide +kernel)) dX9_markAsBoulevard_5 ?_
  refine lv_ladd hx hb dX9_markAsBoulevard_8 ?_
  obtain ⟨L2, hL2, hE⟩ := Option.bind_eq_some_iff.mp hE
  refine r_p 9 (v := .long (v1 + 1000)) (ty := .long) (C := RX9) (T := TX9) (N := 10) (ci := 8) hx hb hts (by decide +kernel) tyX9 tyX9_ok nmX9 hown hK hH hS hL2 rfl (by decide) (hts (.fieldLink RX9 263 "KindStreets" "trace" "J") (by decide +kernel)) (fun _ h9 => h9) rfl (by decide +kernel) rfl rfl dX9_markAsBoulevard_9 (fun H locs hH hS => ?_)
  refine lv_aload_n hx hb dX9_markAsBoulevard_12 rfl (lv_at hl 0 rfl) ?_
  refine lv_iload_n hx hb dX9_markAsBoulevard_13 rfl (lv_at hl 1 rfl) ?_
  obtain ⟨z3, hz3, hE⟩ := Option.bind_eq_some_iff.mp hE
  refine r_callI (va_runV (As := [.int x1]) (rest := []) ⟨hx, hb, hml, hown, hts⟩ (sX9_markAsCross l b0 D cA hz3) (cwV 1 hts gX9_markAsBoulevard_X9_markAsCross rfl rfl rfl (by decide +kernel) (rm_ok (by decide) (by decide))) (pre_V (ci := 8) hK hH (oX9_markAsCross hz3) rfl) rfl rfl hl.1 rfl (lv_room (Nat.le_of_ble_eq_true rfl)) dX9_markAsBoulevard_14 ⟨Nat.zero_le _, Nat.zero_le _⟩) hS (fun H locs hH hS => ?_)
  refine lv_iconst (v := 2) hx hb dX9_markAsBoulevard_17 (by decide) ?_
  refine lv_imul hx hb dX9_markAsBoulevard_18 ?_
  have hZ := Option.some.inj hE
  subst hZ
  exact W.iret (v := (z3.1 * 2)) hx hb hr (fun t ht hW => ⟨rfl, by rw [ht]; exact hH, hS.F ht⟩) hS.2.2 dX9_markAsBoulevard_19
-- X9_markAsCourt
def fX9_markAsCourt (F : Nat) (L : HL) (a0 : Nat) (x1 : Int32) : Option (Int32 × HL) := (o_ob L a0 8).bind fun _ => (o_gJ L a0 8 9).bind fun v1 => (o_p L a0 8 9 (.long (v1 + 10000))).bind fun L2 => (fX9_markAsLane F L2 a0 x1).bind fun z3 => some (z3.1 + x1, z3.2)
theorem oX9_markAsCourt {F : Nat} {L : HL} {a0 : Nat} {x1 : Int32} {z : (Int32 × HL)} (hE : fX9_markAsCourt F L a0 x1 = some z) : o_ob L a0 8 = some () := by
  obtain ⟨_, h, _⟩ := Option.bind_eq_some_iff.mp hE
  exact h
set_option maxHeartbeats 4000000 in
set_option maxRecDepth 100000 in
theorem sX9_markAsCourt (l : Launch) (b0 : Nat) (D : va_G) (cA : Nat → ClassId) {F : Nat} {L : HL} {a0 : Nat} {x1 : Int32} {z : (Int32 × HL)} (hE : fX9_markAsCourt F L a0 x1 = some z) : Met l yX9_markAsCourt wsX9_markAsCourt (RM 5 0 0) (Pk b0 D cA [.ref (b0 + a0), .int x1] L) (Qk b0 D cA (some (.int z.1)) z.2) 0 0 (Ab b0) := by
  refine Met.ofW (cc := cX9_markAsCourt) (maxL := 2) (ret := (some .int)) (by decide) rfl ?_
  intro p ev s m args below meth c s₁ B hml hv
  obtain ⟨rfl, hH, hK⟩ := hv
  have hx := B.exec
  have hb := B.bytes
  have hr := B.returns
  have hts := atoms_spec (ws := wsX9_markAsCourt) B.pre
  have hown : s.vm.findClass RX9 = some m.cls := findClass_of_methodNamed B.named
  have hlocks := B.notSynchronized
  have hC : Cx D cA p s m _ meth c cX9_markAsCourt 2 RX9 wsX9_markAsCourt (some .int) := ⟨hx, hb, hml, hown, hts, hK, hr, hlocks⟩
  have hS : va_S (Ab b0) s.heap s.heap [] := va_S.rf
  have hl := lv_entry ([.ref (b0 + a0), .int x1]) (n := 2) (Nat.le_of_ble_eq_true rfl)
  rw [lg_entry_eq]
  generalize (lg_sl ([.ref (b0 + a0), .int x1]) ++ List.replicate (2 - (lg_sl ([.ref (b0 + a0), .int x1])).length) Slot.unset).toArray = ls at hl ⊢
  have hl : lv_has ls 2 [(0, .ref (b0 + a0)), (1, .int x1)] := hl
  unfold fX9_markAsCourt at hE
  obtain ⟨_, _, hE⟩ := Option.bind_eq_some_iff.mp hE
  refine lv_aload_n hx hb dX9_markAsCourt_0 rfl (lv_at hl 0 rfl) ?_
  refine lv_dup hx hb dX9_markAsCourt_1 rfl ?_
  obtain ⟨v1, hv1, hE⟩ := Option.bind_eq_some_iff.mp hE
  refine r_gJ 9 (C := RX9) (T := TX9) (N := 10) (ci := 8) hx hb hts (by decide +kernel) hown hK hH hv1 rfl (by decide) (hts (.fieldLink RX9 263 "KindStreets" "trace" "J") (by decide +kernel)) (fun _ h9 => h9) dX9_markAsCourt_2 ?_
  refine lv_ldc2 hx hb hown (hts (.constantLong RX9 273 (10000)) (by decide +kernel)) dX9_markAsCourt_5 ?_
  refine lv_ladd hx hb dX9_markAsCourt_8 ?_
  obtain ⟨L2, hL2, hE⟩ := Option.bind_eq_some_iff.mp hE
  refine r_p 9 (v := .long (v1 + 10000)) (ty := .long) (C := RX9) (T := TX9) (N := 10) (ci := 8) hx hb hts (by decide +kernel) tyX9 tyX9_ok nmX9 hown hK hH hS hL2 rfl (by decide) (hts (.fieldLink RX9 263 "KindStreets" "trace" "J") (by decide +kernel)) (fun _ h9 => h9) rfl (by decide +kernel) rfl rfl dX9_markAsCourt_9 (fun H locs hH hS => ?_)
  refine lv_aload_n hx hb dX9_markAsCourt_12 rfl (lv_at hl 0 rfl) ?_
  refine lv_iload_n hx hb dX9_markAsCourt_13 rfl (lv_at hl 1 rfl) ?_
  obtain ⟨z3, hz3, hE⟩ := Option.bind_eq_some_iff.mp hE
  refine r_callI (va_runV (As := [.int x1]) (rest := []) ⟨hx, hb, hml, hown, hts⟩ (sX9_markAsLane l b0 D cA hz3) (cwV 1 hts gX9_markAsCourt_X9_markAsLane rfl rfl rfl (by decide +kernel) (rm_ok (by decide) (by decide))) (pre_V (ci := 8) hK hH (oX9_markAsLane hz3) rfl) rfl rfl hl.1 rfl (lv_room (Nat.le_of_ble_eq_true rfl)) dX9_markAsCourt_14 ⟨Nat.zero_le _, Nat.zero_le _⟩) hS (fun H locs hH hS => ?_)
  refine lv_iload_n hx hb dX9_markAsCourt_17 rfl (lv_at hl 1 rfl) ?_
  refine lv_iadd hx hb dX9_markAsCourt_18 ?_
  have hZ := Option.some.inj hE
  subst hZ
  exact W.iret (v := (z3.1 + x1)) hx hb hr (fun t ht hW => ⟨rfl, by rw [ht]; exact hH, hS.F ht⟩) hS.2.2 dX9_markAsCourt_19
-- X9_markAsAlley
def fX9_markAsAlley (F : Nat) (L : HL) (a0 : Nat) (x1 : Int32) : Option (Int32 × HL) := (o_ob L a0 8).bind fun _ => (o_gJ L a0 8 9).bind fun v1 => (o_p L a0 8 9 (.long (v1 + 100000))).bind fun L2 => (fX9_markAsStreet F L2 a0 x1).bind fun z3 => (fX9_streetsAt F z3.2 a0 x1).bind fun z4 => (fJ6_bitCount_0f7a4 F z4.2 z4.1).bind fun z5 => some (z3.1 + z5.1, z5.2)
theorem oX9_markAsAlley {F : Nat} {L : HL} {a0 : Nat} {x1 : Int32} {z : (Int32 × HL)} (hE : fX9_markAsAlley F L a0 x1 = some z) : o_ob L a0 8 = some () := by
  obtain ⟨_, h, _⟩ := Option.bind_eq_some_iff.mp hE
  exact h
set_option maxHeartbeats 4000000 in
set_option maxRecDepth 100000 in
theorem sX9_markAsAlley (l : Launch) (b0 : Nat) (D : va_G) (cA : Nat → ClassId) {F : Nat} {L : HL} {a0 : Nat} {x1 : Int32} {z : (Int32 × HL)} (hE : fX9_markAsAlley F L a0 x1 = some z) : Met l yX9_markAsAlley wsX9_markAsAlley (RM 4 0 0) (Pk b0 D cA [.ref (b0 + a0), .int x1] L) (Qk b0 D cA (some (.int z.1)) z.2) 0 0 (Ab b0) := by
  refine Met.ofW (cc := cX9_markAsAlley) (maxL := 2) (ret := (some .int)) (by decide) rfl ?_
  intro p ev s m args below meth c s₁ B hml hv
  obtain ⟨rfl, hH, hK⟩ := hv
  have hx := B.exec
  have hb := B.bytes
  have hr := B.returns
  have hts := atoms_spec (ws := wsX9_markAsAlley) B.pre
  have hown : s.vm.findClass RX9 = some m.cls := findClass_of_methodNamed B.named
  have hlocks := B.notSynchronized
  have hC : Cx D cA p s m _ meth c cX9_markAsAlley 2 RX9 wsX9_markAsAlley (some .int) := ⟨hx, hb, hml, hown, hts, hK, hr, hlocks⟩
  have hS : va_S (Ab b0) s.heap s.heap [] := va_S.rf
  have hl := lv_entry ([.ref (b0 + a0), .int x1]) (n := 2) (Nat.le_of_ble_eq_true rfl)
  rw [lg_entry_eq]
  generalize (lg_sl ([.ref (b0 + a0), .int x1]) ++ List.replicate (2 - (lg_sl ([.ref (b0 + a0), .int x1])).length) Slot.unset).toArray = ls at hl ⊢
  have hl : lv_has ls 2 [(0, .ref (b0 + a0)), (1, .int x1)] := hl
  unfold fX9_markAsAlley at hE
  obtain ⟨_, _, hE⟩ := Option.bind_eq_some_iff.mp hE
  refine lv_aload_n hx hb dX9_markAsAlley_0 rfl (lv_at hl 0 rfl) ?_
  refine lv_dup hx hb dX9_markAsAlley_1 rfl ?_
  obtain ⟨v1, hv1, hE⟩ := Option.bind_eq_some_iff.mp hE
  refine r_gJ 9 (C := RX9) (T := TX9) (N := 10) (ci := 8) hx hb hts (by decide +kernel) hown hK hH hv1 rfl (by decide) (hts (.fieldLink RX9 263 "KindStreets" "trace" "J") (by decide +kernel)) (fun _ h9 => h9) dX9_markAsAlley_2 ?_
  refine lv_ldc2 hx hb hown (hts (.constantLong RX9 275 (100000)) (by decide +kernel)) dX9_markAsAlley_5 ?_
  refine lv_ladd hx hb dX9_markAsAlley_8 ?_
  obtain ⟨L2, hL2, hE⟩ := Option.bind_eq_some_iff.mp hE
  refine r_p 9 (v := .long (v1 + 100000)) (ty := .long) (C := RX9) (T := TX9) (N := 10) (ci := 8) hx hb hts (by decide +kernel) tyX9 tyX9_ok nmX9 hown hK hH hS hL2 rfl (by decide) (hts (.fieldLink RX9 263 "KindStreets" "trace" "J") (by decide +kernel)) (fun _ h9 => h9) rfl (by decide +kernel) rfl rfl dX9_markAsAlley_9 (fun H locs hH hS => ?_)
  refine lv_aload_n hx hb dX9_markAsAlley_12 rfl (lv_at hl 0 rfl) ?_
  refine lv_iload_n hx hb dX9_markAsAlley_13 rfl (lv_at hl 1 rfl) ?_
  obtain ⟨z3, hz3, hE⟩ := Option.bind_eq_some_iff.mp hE
  refine r_callI (va_runV (As := [.int x1]) (rest := []) ⟨hx, hb, hml, hown, hts⟩ (sX9_markAsStreet l b0 D cA hz3) (cwV 1 hts gX9_markAsAlley_X9_markAsStreet rfl rfl rfl (by decide +kernel) (rm_ok (by decide) (by decide))) (pre_V (ci := 8) hK hH (oX9_markAsStreet hz3) rfl) rfl rfl hl.1 rfl (lv_room (Nat.le_of_ble_eq_true rfl)) dX9_markAsAlley_14 ⟨Nat.zero_le _, Nat.zero_le _⟩) hS (fun H locs hH hS => ?_)
  refine lv_aload_n hx hb dX9_markAsAlley_17 rfl (lv_at hl 0 rfl) ?_
  refine lv_iload_n hx hb dX9_markAsAlley_18 rfl (lv_at hl 1 rfl) ?_
  obtain ⟨z4, hz4, hE⟩ := Option.bind_eq_some_iff.mp hE
  refine r_callI (va_runV (As := [.int x1]) (rest := [.int z3.1]) ⟨hx, hb, hml, hown, hts⟩ (sX9_streetsAt l b0 D cA hz4) (cwV 1 hts gX9_markAsAlley_X9_streetsAt rfl rfl rfl (by decide +kernel) (rm_ok (by decide) (by decide))) (pre_V (ci := 8) hK hH (oX9_streetsAt hz4) rfl) rfl rfl hl.1 rfl (lv_room (Nat.le_of_ble_eq_true rfl)) dX9_markAsAlley_19 ⟨Nat.zero_le _, Nat.zero_le _⟩) hS (fun H locs hH hS => ?_)
  obtain ⟨z5, hz5, hE⟩ := Option.bind_eq_some_iff.mp hE
  refine r_callI (va_runS (As := [.int z4.1]) (rest := [.int z3.1]) ⟨hx, hb, hml, hown, hts⟩ (sJ6_bitCount_0f7a4 l b0 D cA hz5) (va_cwS 1 hts gX9_markAsAlley_J6_bitCount_0f7a4 rfl rfl rfl (by decide +kernel) (rm_ok (by decide) (by decide))) (pre_S hK hH) rfl rfl hl.1 rfl (lv_room (Nat.le_of_ble_eq_true rfl)) dX9_markAsAlley_22 ⟨Nat.zero_le _, Nat.zero_le _⟩) hS (fun H locs hH hS => ?_)
  refine lv_iadd hx hb dX9_markAsAlley_25 ?_
  have hZ := Option.some.inj hE
  subst hZ
  exact W.iret (v := (z3.1 + z5.1)) hx hb hr (fun t ht hW => ⟨rfl, by rw [ht]; exact hH, hS.F ht⟩) hS.2.2 dX9_markAsAlley_26
-- X9_type
def fX9_type (F : Nat) (L : HL) (a0 : Nat) (x1 : Int32) : Option (Int32 × HL) := (o_ob L a0 8).bind fun _ => (fX9_isWithin F L x1 0 255).bind fun z1 => if z1.1 = 0 then (some ((-1), z1.2)) else ((o_gR z1.2 a0 8 0).bind fun v3 => (o_gI z1.2 v3 5 2).bind fun v4 => if v4 < 120 then ((o_gR z1.2 a0 8 0).bind fun v6 => (fX6_add F z1.2 v6 x1).bind fun z7 => (o_gR z7 a0 8 0).bind fun v8 => (o_gI z7 v8 5 2).bind fun v9 => some (v9, z7)) else (some ((-3), z1.2)))
theorem oX9_type {F : Nat} {L : HL} {a0 : Nat} {x1 : Int32} {z : (Int32 × HL)} (hE : fX9_type F L a0 x1 = some z) : o_ob L a0 8 = some () := by
  obtain ⟨_, h, _⟩ := Option.bind_eq_some_iff.mp hE
  exact h
set_option maxHeartbeats 4000000 in
set_option maxRecDepth 100000 in
theorem sX9_type (l : Launch) (b0 : Nat) (D : va_G) (cA : Nat → ClassId) {F : Nat} {L : HL} {a0 : Nat} {x1 : Int32} {z : (Int32 × HL)} (hE : fX9_type F L a0 x1 = some z) : Met l yX9_type wsX9_type (RM 1 0 0) (Pk b0 D cA [.ref (b0 + a0), .int x1] L) (Qk b0 D cA (some (.int z.1)) z.2) 0 0 (Ab b0) := by
  refine Met.ofW (cc := cX9_type) (maxL := 2) (ret := (some .int)) (by decide) rfl ?_
  intro p ev s m args below meth c s₁ B hml hv
  obtain ⟨rfl, hH, hK⟩ := hv
  have hx := B.exec
  have hb := B.bytes
  have hr := B.returns
  have hts := atoms_spec (ws := wsX9_type) B.pre
  have hown : s.vm.findClass RX9 = some m.cls := findClass_of_methodNamed B.named
  have hlocks := B.notSynchronized
  have hC : Cx D cA p s m _ meth c cX9_type 2 RX9 wsX9_type (some .int) := ⟨hx, hb, hml, hown, hts, hK, hr, hlocks⟩
  have hS : va_S (Ab b0) s.heap s.heap [] := va_S.rf
  have hl := lv_entry ([.ref (b0 + a0), .int x1]) (n := 2) (Nat.le_of_ble_eq_true rfl)
  rw [lg_entry_eq]
  generalize (lg_sl ([.ref (b0 + a0), .int x1]) ++ List.replicate (2 - (lg_sl ([.ref (b0 + a0), .int x1])).length) Slot.unset).toArray = ls at hl ⊢
  have hl : lv_has ls 2 [(0, .ref (b0 + a0)), (1, .int x1)] := hl
  unfold fX9_type at hE
  obtain ⟨_, _, hE⟩ := Option.bind_eq_some_iff.mp hE
  refine lv_iload_n hx hb dX9_type_0 rfl (lv_at hl 1 rfl) ?_
  refine lv_iconst (v := 0) hx hb dX9_type_1 (by decide) ?_
  refine lv_sipush (v := 255) hx hb dX9_type_2 (by decide) ?_
  obtain ⟨z1, hz1, hE⟩ := Option.bind_eq_some_iff.mp hE
  refine r_callI (va_runS (As := [.int x1, .int 0, .int 255]) (rest := []) ⟨hx, hb, hml, hown, hts⟩ (sX9_isWithin l b0 D cA hz1) (va_cwS 3 hts gX9_type_X9_isWithin rfl rfl rfl (by decide +kernel) (rm_ok (by decide) (by decide))) (pre_S hK hH) rfl rfl hl.1 rfl (lv_room (Nat.le_of_ble_eq_true rfl)) dX9_type_5 ⟨Nat.zero_le _, Nat.zero_le _⟩) hS (fun H locs hH hS => ?_)
  refine lv_if_ne (tgt := 13) hx hb dX9_type_8 (by decide) (fun c2 => ?_) (fun c2 => ?_)
  · rw [if_neg c2] at hE
    refine lv_aload_n hx hb dX9_type_13 rfl (lv_at hl 0 rfl) ?_
    obtain ⟨v3, hv3, hE⟩ := Option.bind_eq_some_iff.mp hE
    refine r_gR 0 (C := RX9) (T := TX9) (N := 10) (ci := 8) hx hb hts (by decide +kernel) hown hK hH hv3 rfl (by decide) (hts (.fieldLink RX9 10 "KindStreets" "text" "LKindStreets$Text;") (by decide +kernel)) (fun _ h9 => h9) dX9_type_14 ?_
    obtain ⟨v4, hv4, hE⟩ := Option.bind_eq_some_iff.mp hE
    refine r_gI 2 (C := RX6) (T := TX6) (N := 3) (ci := 5) hx hb hts (by decide +kernel) hown hK hH hv4 rfl (by decide) (hts (.fieldLink RX9 62 "KindStreets$Text" "length" "I") (by decide +kernel)) (fun _ h9 => h9) dX9_type_17 ?_
    refine lv_bipush (v := 120) hx hb dX9_type_20 (by decide) ?_
    refine lv_icmp_lt (tgt := 28) hx hb dX9_type_22 (by decide) (fun c5 => ?_) (fun c5 => ?_)
    · rw [if_pos c5] at hE
      refine lv_aload_n hx hb dX9_type_28 rfl (lv_at hl 0 rfl) ?_
      obtain ⟨v6, hv6, hE⟩ := Option.bind_eq_some_iff.mp hE
      refine r_gR 0 (C := RX9) (T := TX9) (N := 10) (ci := 8) hx hb hts (by decide +kernel) hown hK hH hv6 rfl (by decide) (hts (.fieldLink RX9 10 "KindStreets" "text" "LKindStreets$Text;") (by decide +kernel)) (fun _ h9 => h9) dX9_type_29 ?_
      refine lv_iload_n hx hb dX9_type_32 rfl (lv_at hl 1 rfl) ?_
      obtain ⟨z7, hz7, hE⟩ := Option.bind_eq_some_iff.mp hE
      refine r_callV (va_runV (As := [.int x1]) (rest := []) ⟨hx, hb, hml, hown, hts⟩ (sX6_add l b0 D cA hz7) (cwV 1 hts gX9_type_X6_add rfl rfl rfl (by decide +kernel) (rm_ok (by decide) (by decide))) (pre_V (ci := 5) hK hH (oX6_add hz7) rfl) rfl rfl hl.1 rfl (lv_room (Nat.le_of_ble_eq_true rfl)) dX9_type_33 ⟨Nat.zero_le _, Nat.zero_le _⟩) hS (fun H locs hH hS => ?_)
      refine lv_aload_n hx hb dX9_type_36 rfl (lv_at hl 0 rfl) ?_
      obtain ⟨v8, hv8, hE⟩ := Option.bind_eq_some_iff.mp hE
      refine r_gR 0 (C := RX9) (T := TX9) (N := 10) (ci := 8) hx hb hts (by decide +kernel) hown hK hH hv8 rfl (by decide) (hts (.fieldLink RX9 10 "KindStreets" "text" "LKindStreets$Text;") (by decide +kernel)) (fun _ h9 => h9) dX9_type_37 ?_
      obtain ⟨v9, hv9, hE⟩ := Option.bind_eq_some_iff.mp hE
      refine r_gI 2 (C := RX6) (T := TX6) (N := 3) (ci := 5) hx hb hts (by decide +kernel) hown hK hH hv9 rfl (by decide) (hts (.fieldLink RX9 62 "KindStreets$Text" "length" "I") (by decide +kernel)) (fun _ h9 => h9) dX9_type_40 ?_
      have hZ := Option.some.inj hE
      subst hZ
      exact W.iret (v := v9) hx hb hr (fun t ht hW => ⟨rfl, by rw [ht]; exact hH, hS.F ht⟩) hS.2.2 dX9_type_43
    · rw [if_neg c5] at hE
      refine lv_bipush (v := (-3)) hx hb dX9_type_25 (by decide) ?_
      have hZ := Option.some.inj hE
      subst hZ
      exact W.iret (v := (-3)) hx hb hr (fun t ht hW => ⟨rfl, by rw [ht]; exact hH, hS.F ht⟩) hS.2.2 dX9_type_27
  · rw [if_pos c2] at hE
    refine lv_iconst (v := (-1)) hx hb dX9_type_11 (by decide) ?_
    have hZ := Option.some.inj hE
    subst hZ
    exact W.iret (v := (-1)) hx hb hr (fun t ht hW => ⟨rfl, by rw [ht]; exact hH, hS.F ht⟩) hS.2.2 dX9_type_12
-- X9_clear
def fX9_clear (F : Nat) (L : HL) (a0 : Nat) : Option (Int32 × HL) := (o_ob L a0 8).bind fun _ => (o_gR L a0 8 0).bind fun v1 => (o_gI L v1 5 2).bind fun v2 => (o_gR L a0 8 0).bind fun v3 => (o_p L v3 5 2 (.int 0)).bind fun L4 => some (v2, L4)
theorem oX9_clear {F : Nat} {L : HL} {a0 : Nat} {z : (Int32 × HL)} (hE : fX9_clear F L a0 = some z) : o_ob L a0 8 = some () := by
  obtain ⟨_, h, _⟩ := Option.bind_eq_some_iff.mp hE
  exact h
set_option maxHeartbeats 4000000 in
set_option maxRecDepth 100000 in
theorem sX9_clear (l : Launch) (b0 : Nat) (D : va_G) (cA : Nat → ClassId) {F : Nat} {L : HL} {a0 : Nat} {z : (Int32 × HL)} (hE : fX9_clear F L a0 = some z) : Met l yX9_clear wsX9_clear (RM 0 0 0) (Pk b0 D cA [.ref (b0 + a0)] L) (Qk b0 D cA (some (.int z.1)) z.2) 0 0 (Ab b0) := by
  refine Met.ofW (cc := cX9_clear) (maxL := 2) (ret := (some .int)) (by decide) rfl ?_
  intro p ev s m args below meth c s₁ B hml hv
  obtain ⟨rfl, hH, hK⟩ := hv
  have hx := B.exec
  have hb := B.bytes
  have hr := B.returns
  have hts := atoms_spec (ws := wsX9_clear) B.pre
  have hown : s.vm.findClass RX9 = some m.cls := findClass_of_methodNamed B.named
  have hlocks := B.notSynchronized
  have hC : Cx D cA p s m _ meth c cX9_clear 2 RX9 wsX9_clear (some .int) := ⟨hx, hb, hml, hown, hts, hK, hr, hlocks⟩
  have hS : va_S (Ab b0) s.heap s.heap [] := va_S.rf
  have hl := lv_entry ([.ref (b0 + a0)]) (n := 2) (Nat.le_of_ble_eq_true rfl)
  rw [lg_entry_eq]
  generalize (lg_sl ([.ref (b0 + a0)]) ++ List.replicate (2 - (lg_sl ([.ref (b0 + a0)])).length) Slot.unset).toArray = ls at hl ⊢
  have hl : lv_has ls 2 [(0, .ref (b0 + a0))] := hl
  unfold fX9_clear at hE
  obtain ⟨_, _, hE⟩ := Option.bind_eq_some_iff.mp hE
  refine lv_aload_n hx hb dX9_clear_0 rfl (lv_at hl 0 rfl) ?_
  obtain ⟨v1, hv1, hE⟩ := Option.bind_eq_some_iff.mp hE
  refine r_gR 0 (C := RX9) (T := TX9) (N := 10) (ci := 8) hx hb hts (by decide +kernel) hown hK hH hv1 rfl (by decide) (hts (.fieldLink RX9 10 "KindStreets" "text" "LKindStreets$Text;") (by decide +kernel)) (fun _ h9 => h9) dX9_clear_1 ?_
  obtain ⟨v2, hv2, hE⟩ := Option.bind_eq_some_iff.mp hE
  refine r_gI 2 (C := RX6) (T := TX6) (N := 3) (ci := 5) hx hb hts (by decide +kernel) hown hK hH hv2 rfl (by decide) (hts (.fieldLink RX9 62 "KindStreets$Text" "length" "I") (by decide +kernel)) (fun _ h9 => h9) dX9_clear_4 ?_
  refine lv_istore_n (lv' := [(1, .int v2), (0, .ref (b0 + a0))]) hx hb dX9_clear_7 rfl hl (by decide) rfl (fun ls hl => ?_)
  refine lv_aload_n hx hb dX9_clear_8 rfl (lv_at hl 1 rfl) ?_
  obtain ⟨v3, hv3, hE⟩ := Option.bind_eq_some_iff.mp hE
  refine r_gR 0 (C := RX9) (T := TX9) (N := 10) (ci := 8) hx hb hts (by decide +kernel) hown hK hH hv3 rfl (by decide) (hts (.fieldLink RX9 10 "KindStreets" "text" "LKindStreets$Text;") (by decide +kernel)) (fun _ h9 => h9) dX9_clear_9 ?_
  refine lv_iconst (v := 0) hx hb dX9_clear_12 (by decide) ?_
  obtain ⟨L4, hL4, hE⟩ := Option.bind_eq_some_iff.mp hE
  refine r_p 2 (v := .int 0) (ty := .int) (C := RX6) (T := TX6) (N := 3) (ci := 5) hx hb hts (by decide +kernel) tyX6 tyX6_ok nmX6 hown hK hH hS hL4 rfl (by decide) (hts (.fieldLink RX9 62 "KindStreets$Text" "length" "I") (by decide +kernel)) (fun _ h9 => h9) rfl (by decide +kernel) rfl rfl dX9_clear_13 (fun H locs hH hS => ?_)
  refine lv_iload_n hx hb dX9_clear_16 rfl (lv_at hl 0 rfl) ?_
  have hZ := Option.some.inj hE
  subst hZ
  exact W.iret (v := v2) hx hb hr (fun t ht hW => ⟨rfl, by rw [ht]; exact hH, hS.F ht⟩) hS.2.2 dX9_clear_17
-- X9_town
def fX9_town (F : Nat) (L : HL) (a0 : Nat) : Option (Int32 × HL) := (o_ob L a0 8).bind fun _ => (o_gR L a0 8 0).bind fun v1 => (o_gR L a0 8 1).bind fun v2 => (fX6_readInto F L v1 v2).bind fun z3 => if 0 ≤ z3.1 then ((o_gR z3.2 a0 8 2).bind fun v5 => (o_gR z3.2 a0 8 1).bind fun v6 => (fX7_become_T F z3.2 v5 v6).bind fun z7 => (o_gR z7 a0 8 3).bind fun v8 => (o_gR z7 a0 8 2).bind fun v9 => (fX3_begin F z7 v8 v9).bind fun z10 => (o_p z10 a0 8 5 (.int 0)).bind fun L11 => (o_gR L11 a0 8 8).bind fun v12 => (o_p L11 v12 1 2 (.int 0)).bind fun L13 => (o_gR L13 a0 8 0).bind fun v14 => (o_p L13 v14 5 2 (.int 0)).bind fun L15 => some (z3.1, L15)) else (some (z3.1, z3.2))
theorem oX9_town {F : Nat} {L : HL} {a0 : Nat} {z : (Int32 × HL)} (hE : fX9_town F L a0 = some z) : o_ob L a0 8 = some () := by
  obtain ⟨_, h, _⟩ := Option.bind_eq_some_iff.mp hE
  exact h
set_option maxHeartbeats 4000000 in
set_option maxRecDepth 100000 in
theorem sX9_town (l : Launch) (b0 : Nat) (D : va_G) (cA : Nat → ClassId) {F : Nat} {L : HL} {a0 : Nat} {z : (Int32 × HL)} (hE : fX9_town F L a0 = some z) : Met l yX9_town wsX9_town (RM 6 0 0) (Pk b0 D cA [.ref (b0 + a0)] L) (Qk b0 D cA (some (.int z.1)) z.2) 0 0 (Ab b0) := by
  refine Met.ofW (cc := cX9_town) (maxL := 2) (ret := (some .int)) (by decide) rfl ?_
  intro p ev s m args below meth c s₁ B hml hv
  obtain ⟨rfl, hH, hK⟩ := hv
  have hx := B.exec
  have hb := B.bytes
  have hr := B.returns
  have hts := atoms_spec (ws := wsX9_town) B.pre
  have hown : s.vm.findClass RX9 = some m.cls := findClass_of_methodNamed B.named
  have hlocks := B.notSynchronized
  have hC : Cx D cA p s m _ meth c cX9_town 2 RX9 wsX9_town (some .int) := ⟨hx, hb, hml, hown, hts, hK, hr, hlocks⟩
  have hS : va_S (Ab b0) s.heap s.heap [] := va_S.rf
  have hl := lv_entry ([.ref (b0 + a0)]) (n := 2) (Nat.le_of_ble_eq_true rfl)
  rw [lg_entry_eq]
  generalize (lg_sl ([.ref (b0 + a0)]) ++ List.replicate (2 - (lg_sl ([.ref (b0 + a0)])).length) Slot.unset).toArray = ls at hl ⊢
  have hl : lv_has ls 2 [(0, .ref (b0 + a0))] := hl
  unfold fX9_town at hE
  obtain ⟨_, _, hE⟩ := Option.bind_eq_some_iff.mp hE
  refine lv_aload_n hx hb dX9_town_0 rfl (lv_at hl 0 rfl) ?_
  obtain ⟨v1, hv1, hE⟩ := Option.bind_eq_some_iff.mp hE
  refine r_gR 0 (C := RX9) (T := TX9) (N := 10) (ci := 8) hx hb hts (by decide +kernel) hown hK hH hv1 rfl (by decide) (hts (.fieldLink RX9 10 "KindStreets" "text" "LKindStreets$Text;") (by decide +kernel)) (fun _ h9 => h9) dX9_town_1 ?_
  refine lv_aload_n hx hb dX9_town_4 rfl (lv_at hl 0 rfl) ?_
  obtain ⟨v2, hv2, hE⟩ := Option.bind_eq_some_iff.mp hE
  refine r_gR 1 (C := RX9) (T := TX9) (N := 10) (ci := 8) hx hb hts (by decide +kernel) hown hK hH hv2 rfl (by decide) (hts (.fieldLink RX9 19 "KindStreets" "draft" "LKindStreets$Town;") (by decide +kernel)) (fun _ h9 => h9) dX9_town_5 ?_
  obtain ⟨z3, hz3, hE⟩ := Option.bind_eq_some_iff.mp hE
  refine r_callI (va_runV (As := [.ref (b0 + v2)]) (rest := []) ⟨hx, hb, hml, hown, hts⟩ (sX6_readInto l b0 D cA hz3) (cwV 1 hts gX9_town_X6_readInto rfl rfl rfl (by decide +kernel) (rm_ok (by decide) (by decide))) (pre_V (ci := 5) hK hH (oX6_readInto hz3) rfl) rfl rfl hl.1 rfl (lv_room (Nat.le_of_ble_eq_true rfl)) dX9_town_8 ⟨Nat.zero_le _, Nat.zero_le _⟩) hS (fun H locs hH hS => ?_)
  refine lv_istore_n (lv' := [(1, .int z3.1), (0, .ref (b0 + a0))]) hx hb dX9_town_11 rfl hl (by decide) rfl (fun ls hl => ?_)
  refine lv_iload_n hx hb dX9_town_12 rfl (lv_at hl 0 rfl) ?_
  refine lv_if_ge (tgt := 18) hx hb dX9_town_13 (by decide) (fun c4 => ?_) (fun c4 => ?_)
  · rw [if_pos c4] at hE
    refine lv_aload_n hx hb dX9_town_18 rfl (lv_at hl 1 rfl) ?_
    obtain ⟨v5, hv5, hE⟩ := Option.bind_eq_some_iff.mp hE
    refine r_gR 2 (C := RX9) (T := TX9) (N := 10) (ci := 8) hx hb hts (by decide +kernel) hown hK hH hv5 rfl (by decide) (hts (.fieldLink RX9 23 "KindStreets" "town" "LKindStreets$Town;") (by decide +kernel)) (fun _ h9 => h9) dX9_town_19 ?_
    refine lv_aload_n hx hb dX9_town_22 rfl (lv_at hl 1 rfl) ?_
    obtain ⟨v6, hv6, hE⟩ := Option.bind_eq_some_iff.mp hE
    refine r_gR 1 (C := RX9) (T := TX9) (N := 10) (ci := 8) hx hb hts (by decide +kernel) hown hK hH hv6 rfl (by decide) (hts (.fieldLink RX9 19 "KindStreets" "draft" "LKindStreets$Town;") (by decide +kernel)) (fun _ h9 => h9) dX9_town_23 ?_
    obtain ⟨z7, hz7, hE⟩ := Option.bind_eq_some_iff.mp hE
    refine r_callV (va_runV (As := [.ref (b0 + v6)]) (rest := []) ⟨hx, hb, hml, hown, hts⟩ (sX7_become_T l b0 D cA hz7) (cwV 1 hts gX9_town_X7_become rfl rfl rfl (by decide +kernel) (rm_ok (by decide) (by decide))) (pre_V (ci := 6) hK hH (oX7_become_T hz7) rfl) rfl rfl hl.1 rfl (lv_room (Nat.le_of_ble_eq_true rfl)) dX9_town_26 ⟨Nat.zero_le _, Nat.zero_le _⟩) hS (fun H locs hH hS => ?_)
    refine lv_aload_n hx hb dX9_town_29 rfl (lv_at hl 1 rfl) ?_
    obtain ⟨v8, hv8, hE⟩ := Option.bind_eq_some_iff.mp hE
    refine r_gR 3 (C := RX9) (T := TX9) (N := 10) (ci := 8) hx hb hts (by decide +kernel) hown hK hH hv8 rfl (by decide) (hts (.fieldLink RX9 29 "KindStreets" "now" "LKindStreets$Now;") (by decide +kernel)) (fun _ h9 => h9) dX9_town_30 ?_
    refine lv_aload_n hx hb dX9_town_33 rfl (lv_at hl 1 rfl) ?_
    obtain ⟨v9, hv9, hE⟩ := Option.bind_eq_some_iff.mp hE
    refine r_gR 2 (C := RX9) (T := TX9) (N := 10) (ci := 8) hx hb hts (by decide +kernel) hown hK hH hv9 rfl (by decide) (hts (.fieldLink RX9 23 "KindStreets" "town" "LKindStreets$Town;") (by decide +kernel)) (fun _ h9 => h9) dX9_town_34 ?_
    obtain ⟨z10, hz10, hE⟩ := Option.bind_eq_some_iff.mp hE
    refine r_callV (va_runV (As := [.ref (b0 + v9)]) (rest := []) ⟨hx, hb, hml, hown, hts⟩ (sX3_begin l b0 D cA hz10) (cwV 1 hts gX9_town_X3_begin rfl rfl rfl (by decide +kernel) (rm_ok (by decide) (by decide))) (pre_V (ci := 3) hK hH (oX3_begin hz10) rfl) rfl rfl hl.1 rfl (lv_room (Nat.le_of_ble_eq_true rfl)) dX9_town_37 ⟨Nat.zero_le _, Nat.zero_le _⟩) hS (fun H locs hH hS => ?_)
    refine lv_aload_n hx hb dX9_town_40 rfl (lv_at hl 1 rfl) ?_
    refine lv_iconst (v := 0) hx hb dX9_town_41 (by decide) ?_
    obtain ⟨L11, hL11, hE⟩ := Option.bind_eq_some_iff.mp hE
    refine r_p 5 (v := .int 0) (ty := .int) (C := RX9) (T := TX9) (N := 10) (ci := 8) hx hb hts (by decide +kernel) tyX9 tyX9_ok nmX9 hown hK hH hS hL11 rfl (by decide) (hts (.fieldLink RX9 81 "KindStreets" "kept" "I") (by decide +kernel)) (fun _ h9 => h9) rfl (by decide +kernel) rfl rfl dX9_town_42 (fun H locs hH hS => ?_)
    refine lv_aload_n hx hb dX9_town_45 rfl (lv_at hl 1 rfl) ?_
    obtain ⟨v12, hv12, hE⟩ := Option.bind_eq_some_iff.mp hE
    refine r_gR 8 (C := RX9) (T := TX9) (N := 10) (ci := 8) hx hb hts (by decide +kernel) hown hK hH hv12 rfl (by decide) (hts (.fieldLink RX9 54 "KindStreets" "measures" "LKindStreets$Measures;") (by decide +kernel)) (fun _ h9 => h9) dX9_town_46 ?_
    refine lv_iconst (v := 0) hx hb dX9_town_49 (by decide) ?_
    obtain ⟨L13, hL13, hE⟩ := Option.bind_eq_some_iff.mp hE
    refine r_p 2 (v := .int 0) (ty := .int) (C := RX1) (T := TX1) (N := 4) (ci := 1) hx hb hts (by decide +kernel) tyX1 tyX1_ok nmX1 hown hK hH hS hL13 rfl (by decide) (hts (.fieldLink RX9 84 "KindStreets$Measures" "measured" "I") (by decide +kernel)) (fun _ h9 => h9) rfl (by decide +kernel) rfl rfl dX9_town_50 (fun H locs hH hS => ?_)
    refine lv_aload_n hx hb dX9_town_53 rfl (lv_at hl 1 rfl) ?_
    obtain ⟨v14, hv14, hE⟩ := Option.bind_eq_some_iff.mp hE
    refine r_gR 0 (C := RX9) (T := TX9) (N := 10) (ci := 8) hx hb hts (by decide +kernel) hown hK hH hv14 rfl (by decide) (hts (.fieldLink RX9 10 "KindStreets" "text" "LKindStreets$Text;") (by decide +kernel)) (fun _ h9 => h9) dX9_town_54 ?_
    refine lv_iconst (v := 0) hx hb dX9_town_57 (by decide) ?_
    obtain ⟨L15, hL15, hE⟩ := Option.bind_eq_some_iff.mp hE
    refine r_p 2 (v := .int 0) (ty := .int) (C := RX6) (T := TX6) (N := 3) (ci := 5) hx hb hts (by decide +kernel) tyX6 tyX6_ok nmX6 hown hK hH hS hL15 rfl (by decide) (hts (.fieldLink RX9 62 "KindStreets$Text" "length" "I") (by decide +kernel)) (fun _ h9 => h9) rfl (by decide +kernel) rfl rfl dX9_town_58 (fun H locs hH hS => ?_)
    refine lv_iload_n hx hb dX9_town_61 rfl (lv_at hl 0 rfl) ?_
    have hZ := Option.some.inj hE
    subst hZ
    exact W.iret (v := z3.1) hx hb hr (fun t ht hW => ⟨rfl, by rw [ht]; exact hH, hS.F ht⟩) hS.2.2 dX9_town_62
  · rw [if_neg c4] at hE
    refine lv_iload_n hx hb dX9_town_16 rfl (lv_at hl 0 rfl) ?_
    have hZ := Option.some.inj hE
    subst hZ
    exact W.iret (v := z3.1) hx hb hr (fun t ht hW => ⟨rfl, by rw [ht]; exact hH, hS.F ht⟩) hS.2.2 dX9_town_17
-- X9_street
def fX9_street (F : Nat) (L : HL) (a0 : Nat) (x1 : Int32) (x2 : Int32) : Option (Int32 × HL) := (o_ob L a0 8).bind fun _ => (fX9_isStreet F L a0 x1).bind fun z1 => if z1.1 = 0 then (some ((-1), z1.2)) else (if x2 = 0 then ((o_gR z1.2 a0 8 2).bind fun v4 => (o_gR z1.2 v4 6 3).bind fun v5 => (o_aI z1.2 v5 0 x1).bind fun v6 => some (v6, z1.2)) else if x2 = 1 then ((o_gR z1.2 a0 8 2).bind fun v8 => (o_gR z1.2 v8 6 4).bind fun v9 => (o_aI z1.2 v9 0 x1).bind fun v10 => some (v10, z1.2)) else if x2 = 2 then ((o_gR z1.2 a0 8 3).bind fun v12 => (o_gR z1.2 v12 3 0).bind fun v13 => (o_gR z1.2 v13 2 0).bind fun v14 => (o_aI z1.2 v14 0 x1).bind fun v15 => some (v15, z1.2)) else if x2 = 3 then ((o_gR z1.2 a0 8 3).bind fun v17 => (o_gR z1.2 v17 3 0).bind fun v18 => (o_gR z1.2 v18 2 1).bind fun v19 => (o_aI z1.2 v19 0 x1).bind fun v20 => some (v20, z1.2)) else if x2 = 4 then ((o_gR z1.2 a0 8 3).bind fun v22 => (o_gR z1.2 v22 3 0).bind fun v23 => (o_gR z1.2 v23 2 2).bind fun v24 => (o_aI z1.2 v24 0 x1).bind fun v25 => some (v25, z1.2)) else if x2 = 5 then ((o_gR z1.2 a0 8 3).bind fun v27 => (o_gR z1.2 v27 3 0).bind fun v28 => (fX2_widthOf F z1.2 v28 x1).bind fun z29 => some (z29.1, z29.2)) else if x2 = 6 then ((fX9_livingIn F z1.2 a0 x1).bind fun z31 => some (z31.1, z31.2)) else some ((-1), z1.2))
theorem oX9_street {F : Nat} {L : HL} {a0 : Nat} {x1 : Int32} {x2 : Int32} {z : (Int32 × HL)} (hE : fX9_street F L a0 x1 x2 = some z) : o_ob L a0 8 = some () := by
  obtain ⟨_, h, _⟩ := Option.bind_eq_some_iff.mp hE
  exact h
set_option maxHeartbeats 4000000 in
set_option maxRecDepth 100000 in
theorem sX9_street (l : Launch) (b0 : Nat) (D : va_G) (cA : Nat → ClassId) {F : Nat} {L : HL} {a0 : Nat} {x1 : Int32} {x2 : Int32} {z : (Int32 × HL)} (hE : fX9_street F L a0 x1 x2 = some z) : Met l yX9_street wsX9_street (RM 3 0 0) (Pk b0 D cA [.ref (b0 + a0), .int x1, .int x2] L) (Qk b0 D cA (some (.int z.1)) z.2) 0 0 (Ab b0) := by
  refine Met.ofW (cc := cX9_street) (maxL := 3) (ret := (some .int)) (by decide) rfl ?_
  intro p ev s m args below meth c s₁ B hml hv
  obtain ⟨rfl, hH, hK⟩ := hv
  have hx := B.exec
  have hb := B.bytes
  have hr := B.returns
  have hts := atoms_spec (ws := wsX9_street) B.pre
  have hown : s.vm.findClass RX9 = some m.cls := findClass_of_methodNamed B.named
  have hlocks := B.notSynchronized
  have hC : Cx D cA p s m _ meth c cX9_street 3 RX9 wsX9_street (some .int) := ⟨hx, hb, hml, hown, hts, hK, hr, hlocks⟩
  have hS : va_S (Ab b0) s.heap s.heap [] := va_S.rf
  have hl := lv_entry ([.ref (b0 + a0), .int x1, .int x2]) (n := 3) (Nat.le_of_ble_eq_true rfl)
  rw [lg_entry_eq]
  generalize (lg_sl ([.ref (b0 + a0), .int x1, .int x2]) ++ List.replicate (3 - (lg_sl ([.ref (b0 + a0), .int x1, .int x2])).length) Slot.unset).toArray = ls at hl ⊢
  have hl : lv_has ls 3 [(0, .ref (b0 + a0)), (1, .int x1), (2, .int x2)] := hl
  unfold fX9_street at hE
  obtain ⟨_, _, hE⟩ := Option.bind_eq_some_iff.mp hE
  refine lv_aload_n hx hb dX9_street_0 rfl (lv_at hl 0 rfl) ?_
  refine lv_iload_n hx hb dX9_street_1 rfl (lv_at hl 1 rfl) ?_
  obtain ⟨z1, hz1, hE⟩ := Option.bind_eq_some_iff.mp hE
  refine r_callI (va_runV (As := [.int x1]) (rest := []) ⟨hx, hb, hml, hown, hts⟩ (sX9_isStreet l b0 D cA hz1) (cwV 1 hts gX9_street_X9_isStreet rfl rfl rfl (by decide +kernel) (rm_ok (by decide) (by decide))) (pre_V (ci := 8) hK hH (oX9_isStreet hz1) rfl) rfl rfl hl.1 rfl (lv_room (Nat.le_of_ble_eq_true rfl)) dX9_street_2 ⟨Nat.zero_le _, Nat.zero_le _⟩) hS (fun H locs hH hS => ?_)
  refine lv_if_ne (tgt := 10) hx hb dX9_street_5 (by decide) (fun c2 => ?_) (fun c2 => ?_)
  · rw [if_neg c2] at hE
    refine lv_iload_n hx hb dX9_street_10 rfl (lv_at hl 2 rfl) ?_
    by_cases c3 : x2 = 0
    · rw [if_pos c3] at hE
      refine lv_tableIn (tgt := 52) (off := 41) hx hb dX9_street_11 (by rw [c3]; decide) (by rw [c3]; decide) (by rw [c3]; rfl) (by decide) ?_
      refine lv_aload_n hx hb dX9_street_52 rfl (lv_at hl 0 rfl) ?_
      obtain ⟨v4, hv4, hE⟩ := Option.bind_eq_some_iff.mp hE
      refine r_gR 2 (C := RX9) (T := TX9) (N := 10) (ci := 8) hx hb hts (by decide +kernel) hown hK hH hv4 rfl (by decide) (hts (.fieldLink RX9 23 "KindStreets" "town" "LKindStreets$Town;") (by decide +kernel)) (fun _ h9 => h9) dX9_street_53 ?_
      obtain ⟨v5, hv5, hE⟩ := Option.bind_eq_some_iff.mp hE
      refine r_gR 3 (C := RX7) (T := TX7) (N := 8) (ci := 6) hx hb hts (by decide +kernel) hown hK hH hv5 rfl (by decide) (hts (.fieldLink RX9 91 "KindStreets$Town" "one" "[I") (by decide +kernel)) (fun _ h9 => h9) dX9_street_56 ?_
      refine lv_iload_n hx hb dX9_street_59 rfl (lv_at hl 1 rfl) ?_
      obtain ⟨v6, hv6, hE⟩ := Option.bind_eq_some_iff.mp hE
      refine r_iald hx hb hK hH hv6 dX9_street_60 ?_
      have hZ := Option.some.inj hE
      subst hZ
      exact W.iret (v := v6) hx hb hr (fun t ht hW => ⟨rfl, by rw [ht]; exact hH, hS.F ht⟩) hS.2.2 dX9_street_61
    rw [if_neg c3] at hE
    by_cases c7 : x2 = 1
    · rw [if_pos c7] at hE
      refine lv_tableIn (tgt := 62) (off := 51) hx hb dX9_street_11 (by rw [c7]; decide) (by rw [c7]; decide) (by rw [c7]; rfl) (by decide) ?_
      refine lv_aload_n hx hb dX9_street_62 rfl (lv_at hl 0 rfl) ?_
      obtain ⟨v8, hv8, hE⟩ := Option.bind_eq_some_iff.mp hE
      refine r_gR 2 (C := RX9) (T := TX9) (N := 10) (ci := 8) hx hb hts (by decide +kernel) hown hK hH hv8 rfl (by decide) (hts (.fieldLink RX9 23 "KindStreets" "town" "LKindStreets$Town;") (by decide +kernel)) (fun _ h9 => h9) dX9_street_63 ?_
      obtain ⟨v9, hv9, hE⟩ := Option.bind_eq_some_iff.mp hE
      refine r_gR 4 (C := RX7) (T := TX7) (N := 8) (ci := 6) hx hb hts (by decide +kernel) hown hK hH hv9 rfl (by decide) (hts (.fieldLink RX9 95 "KindStreets$Town" "other" "[I") (by decide +kernel)) (fun _ h9 => h9) dX9_street_66 ?_
      refine lv_iload_n hx hb dX9_street_69 rfl (lv_at hl 1 rfl) ?_
      obtain ⟨v10, hv10, hE⟩ := Option.bind_eq_some_iff.mp hE
      refine r_iald hx hb hK hH hv10 dX9_street_70 ?_
      have hZ := Option.some.inj hE
      subst hZ
      exact W.iret (v := v10) hx hb hr (fun t ht hW => ⟨rfl, by rw [ht]; exact hH, hS.F ht⟩) hS.2.2 dX9_street_71
    rw [if_neg c7] at hE
    by_cases c11 : x2 = 2
    · rw [if_pos c11] at hE
      refine lv_tableIn (tgt := 72) (off := 61) hx hb dX9_street_11 (by rw [c11]; decide) (by rw [c11]; decide) (by rw [c11]; rfl) (by decide) ?_
      refine lv_aload_n hx hb dX9_street_72 rfl (lv_at hl 0 rfl) ?_
      obtain ⟨v12, hv12, hE⟩ := Option.bind_eq_some_iff.mp hE
      refine r_gR 3 (C := RX9) (T := TX9) (N := 10) (ci := 8) hx hb hts (by decide +kernel) hown hK hH hv12 rfl (by decide) (hts (.fieldLink RX9 29 "KindStreets" "now" "LKindStreets$Now;") (by decide +kernel)) (fun _ h9 => h9) dX9_street_73 ?_
      obtain ⟨v13, hv13, hE⟩ := Option.bind_eq_some_iff.mp hE
      refine r_gR 0 (C := RX3) (T := TX3) (N := 3) (ci := 3) hx hb hts (by decide +kernel) hown hK hH hv13 rfl (by decide) (hts (.fieldLink RX9 98 "KindStreets$Now" "moment" "LKindStreets$Moment;") (by decide +kernel)) (fun _ h9 => h9) dX9_street_76 ?_
      obtain ⟨v14, hv14, hE⟩ := Option.bind_eq_some_iff.mp hE
      refine r_gR 0 (C := RX2) (T := TX2) (N := 5) (ci := 2) hx hb hts (by decide +kernel) hown hK hH hv14 rfl (by decide) (hts (.fieldLink RX9 102 "KindStreets$Moment" "seen" "[I") (by decide +kernel)) (fun _ h9 => h9) dX9_street_79 ?_
      refine lv_iload_n hx hb dX9_street_82 rfl (lv_at hl 1 rfl) ?_
      obtain ⟨v15, hv15, hE⟩ := Option.bind_eq_some_iff.mp hE
      refine r_iald hx hb hK hH hv15 dX9_street_83 ?_
      have hZ := Option.some.inj hE
      subst hZ
      exact W.iret (v := v15) hx hb hr (fun t ht hW => ⟨rfl, by rw [ht]; exact hH, hS.F ht⟩) hS.2.2 dX9_street_84
    rw [if_neg c11] at hE
    by_cases c16 : x2 = 3
    · rw [if_pos c16] at hE
      refine lv_tableIn (tgt := 85) (off := 74) hx hb dX9_street_11 (by rw [c16]; decide) (by rw [c16]; decide) (by rw [c16]; rfl) (by decide) ?_
      refine lv_aload_n hx hb dX9_street_85 rfl (lv_at hl 0 rfl) ?_
      obtain ⟨v17, hv17, hE⟩ := Option.bind_eq_some_iff.mp hE
      refine r_gR 3 (C := RX9) (T := TX9) (N := 10) (ci := 8) hx hb hts (by decide +kernel) hown hK hH hv17 rfl (by decide) (hts (.fieldLink RX9 29 "KindStreets" "now" "LKindStreets$Now;") (by decide +kernel)) (fun _ h9 => h9) dX9_street_86 ?_
      obtain ⟨v18, hv18, hE⟩ := Option.bind_eq_some_iff.mp hE
      refine r_gR 0 (C := RX3) (T := TX3) (N := 3) (ci := 3) hx hb hts (by decide +kernel) hown hK hH hv18 rfl (by decide) (hts (.fieldLink RX9 98 "KindStreets$Now" "moment" "LKindStreets$Moment;") (by decide +kernel)) (fun _ h9 => h9) dX9_street_89 ?_
      obtain ⟨v19, hv19, hE⟩ := Option.bind_eq_some_iff.mp hE
      refine r_gR 1 (C := RX2) (T := TX2) (N := 5) (ci := 2) hx hb hts (by decide +kernel) hown hK hH hv19 rfl (by decide) (hts (.fieldLink RX9 107 "KindStreets$Moment" "hidden" "[I") (by decide +kernel)) (fun _ h9 => h9) dX9_street_92 ?_
      refine lv_iload_n hx hb dX9_street_95 rfl (lv_at hl 1 rfl) ?_
      obtain ⟨v20, hv20, hE⟩ := Option.bind_eq_some_iff.mp hE
      refine r_iald hx hb hK hH hv20 dX9_street_96 ?_
      have hZ := Option.some.inj hE
      subst hZ
      exact W.iret (v := v20) hx hb hr (fun t ht hW => ⟨rfl, by rw [ht]; exact hH, hS.F ht⟩) hS.2.2 dX9_street_97
    rw [if_neg c16] at hE
    by_cases c21 : x2 = 4
    · rw [if_pos c21] at hE
      refine lv_tableIn (tgt := 98) (off := 87) hx hb dX9_street_11 (by rw [c21]; decide) (by rw [c21]; decide) (by rw [c21]; rfl) (by decide) ?_
      refine lv_aload_n hx hb dX9_street_98 rfl (lv_at hl 0 rfl) ?_
      obtain ⟨v22, hv22, hE⟩ := Option.bind_eq_some_iff.mp hE
      refine r_gR 3 (C := RX9) (T := TX9) (N := 10) (ci := 8) hx hb hts (by decide +kernel) hown hK hH hv22 rfl (by decide) (hts (.fieldLink RX9 29 "KindStreets" "now" "LKindStreets$Now;") (by decide +kernel)) (fun _ h9 => h9) dX9_street_99 ?_
      obtain ⟨v23, hv23, hE⟩ := Option.bind_eq_some_iff.mp hE
      refine r_gR 0 (C := RX3) (T := TX3) (N := 3) (ci := 3) hx hb hts (by decide +kernel) hown hK hH hv23 rfl (by decide) (hts (.fieldLink RX9 98 "KindStreets$Now" "moment" "LKindStreets$Moment;") (by decide +kernel)) (fun _ h9 => h9) dX9_street_102 ?_
      obtain ⟨v24, hv24, hE⟩ := Option.bind_eq_some_iff.mp hE
      refine r_gR 2 (C := RX2) (T := TX2) (N := 5) (ci := 2) hx hb hts (by decide +kernel) hown hK hH hv24 rfl (by decide) (hts (.fieldLink RX9 110 "KindStreets$Moment" "pretended" "[I") (by decide +kernel)) (fun _ h9 => h9) dX9_street_105 ?_
      refine lv_iload_n hx hb dX9_street_108 rfl (lv_at hl 1 rfl) ?_
      obtain ⟨v25, hv25, hE⟩ := Option.bind_eq_some_iff.mp hE
      refine r_iald hx hb hK hH hv25 dX9_street_109 ?_
      have hZ := Option.some.inj hE
      subst hZ
      exact W.iret (v := v25) hx hb hr (fun t ht hW => ⟨rfl, by rw [ht]; exact hH, hS.F ht⟩) hS.2.2 dX9_street_110
    rw [if_neg c21] at hE
    by_cases c26 : x2 = 5
    · rw [if_pos c26] at hE
      refine lv_tableIn (tgt := 111) (off := 100) hx hb dX9_street_11 (by rw [c26]; decide) (by rw [c26]; decide) (by rw [c26]; rfl) (by decide) ?_
      refine lv_aload_n hx hb dX9_street_111 rfl (lv_at hl 0 rfl) ?_
      obtain ⟨v27, hv27, hE⟩ := Option.bind_eq_some_iff.mp hE
      refine r_gR 3 (C := RX9) (T := TX9) (N := 10) (ci := 8) hx hb hts (by decide +kernel) hown hK hH hv27 rfl (by decide) (hts (.fieldLink RX9 29 "KindStreets" "now" "LKindStreets$Now;") (by decide +kernel)) (fun _ h9 => h9) dX9_street_112 ?_
      obtain ⟨v28, hv28, hE⟩ := Option.bind_eq_some_iff.mp hE
      refine r_gR 0 (C := RX3) (T := TX3) (N := 3) (ci := 3) hx hb hts (by decide +kernel) hown hK hH hv28 rfl (by decide) (hts (.fieldLink RX9 98 "KindStreets$Now" "moment" "LKindStreets$Moment;") (by decide +kernel)) (fun _ h9 => h9) dX9_street_115 ?_
      refine lv_iload_n hx hb dX9_street_118 rfl (lv_at hl 1 rfl) ?_
      obtain ⟨z29, hz29, hE⟩ := Option.bind_eq_some_iff.mp hE
      refine r_callI (va_runV (As := [.int x1]) (rest := []) ⟨hx, hb, hml, hown, hts⟩ (sX2_widthOf l b0 D cA hz29) (cwV 1 hts gX9_street_X2_widthOf rfl rfl rfl (by decide +kernel) (rm_ok (by decide) (by decide))) (pre_V (ci := 2) hK hH (oX2_widthOf hz29) rfl) rfl rfl hl.1 rfl (lv_room (Nat.le_of_ble_eq_true rfl)) dX9_street_119 ⟨Nat.zero_le _, Nat.zero_le _⟩) hS (fun H locs hH hS => ?_)
      have hZ := Option.some.inj hE
      subst hZ
      exact W.iret (v := z29.1) hx hb hr (fun t ht hW => ⟨rfl, by rw [ht]; exact hH, hS.F ht⟩) hS.2.2 dX9_street_122
    rw [if_neg c26] at hE
    by_cases c30 : x2 = 6
    · rw [if_pos c30] at hE
      refine lv_tableIn (tgt := 123) (off := 112) hx hb dX9_street_11 (by rw [c30]; decide) (by rw [c30]; decide) (by rw [c30]; rfl) (by decide) ?_
      refine lv_aload_n hx hb dX9_street_123 rfl (lv_at hl 0 rfl) ?_
      refine lv_iload_n hx hb dX9_street_124 rfl (lv_at hl 1 rfl) ?_
      obtain ⟨z31, hz31, hE⟩ := Option.bind_eq_some_iff.mp hE
      refine r_callI (va_runV (As := [.int x1]) (rest := []) ⟨hx, hb, hml, hown, hts⟩ (sX9_livingIn l b0 D cA hz31) (cwV 1 hts gX9_street_X9_livingIn rfl rfl rfl (by decide +kernel) (rm_ok (by decide) (by decide))) (pre_V (ci := 8) hK hH (oX9_livingIn hz31) rfl) rfl rfl hl.1 rfl (lv_room (Nat.le_of_ble_eq_true rfl)) dX9_street_125 ⟨Nat.zero_le _, Nat.zero_le _⟩) hS (fun H locs hH hS => ?_)
      have hZ := Option.some.inj hE
      subst hZ
      exact W.iret (v := z31.1) hx hb hr (fun t ht hW => ⟨rfl, by rw [ht]; exact hH, hS.F ht⟩) hS.2.2 dX9_street_128
    rw [if_neg c30] at hE
    refine lv_tableOut (tgt := 129) hx hb dX9_street_11 (by have q0 := sw_ne (k := 0) (by decide) c3; have q1 := sw_ne (k := 1) (by decide) c7; have q2 := sw_ne (k := 2) (by decide) c11; have q3 := sw_ne (k := 3) (by decide) c16; have q4 := sw_ne (k := 4) (by decide) c21; have q5 := sw_ne (k := 5) (by decide) c26; have q6 := sw_ne (k := 6) (by decide) c30; omega) (by decide) ?_
    refine lv_iconst (v := (-1)) hx hb dX9_street_129 (by decide) ?_
    have hZ := Option.some.inj hE
    subst hZ
    exact W.iret (v := (-1)) hx hb hr (fun t ht hW => ⟨rfl, by rw [ht]; exact hH, hS.F ht⟩) hS.2.2 dX9_street_130
  · rw [if_pos c2] at hE
    refine lv_iconst (v := (-1)) hx hb dX9_street_8 (by decide) ?_
    have hZ := Option.some.inj hE
    subst hZ
    exact W.iret (v := (-1)) hx hb hr (fun t ht hW => ⟨rfl, by rw [ht]; exact hH, hS.F ht⟩) hS.2.2 dX9_street_9
-- X9_citizen
def fX9_citizen (F : Nat) (L : HL) (a0 : Nat) (x1 : Int32) (x2 : Int32) : Option (Int32 × HL) := (o_ob L a0 8).bind fun _ => (fX9_isCitizen F L a0 x1).bind fun z1 => if z1.1 = 0 then (some ((-1), z1.2)) else (if x2 = 0 then ((o_gR z1.2 a0 8 3).bind fun v4 => (o_gR z1.2 v4 3 0).bind fun v5 => (o_gR z1.2 v5 2 3).bind fun v6 => (o_aI z1.2 v6 0 x1).bind fun v7 => some (v7, z1.2)) else if x2 = 1 then ((o_gR z1.2 a0 8 2).bind fun v9 => (o_gR z1.2 v9 6 7).bind fun v10 => (o_aI z1.2 v10 0 x1).bind fun v11 => some (v11, z1.2)) else if x2 = 2 then ((fX9_witnessesOf F z1.2 a0 x1).bind fun z13 => some (z13.1, z13.2)) else some ((-1), z1.2))
theorem oX9_citizen {F : Nat} {L : HL} {a0 : Nat} {x1 : Int32} {x2 : Int32} {z : (Int32 × HL)} (hE : fX9_citizen F L a0 x1 x2 = some z) : o_ob L a0 8 = some () := by
  obtain ⟨_, h, _⟩ := Option.bind_eq_some_iff.mp hE
  exact h
set_option maxHeartbeats 4000000 in
set_option maxRecDepth 100000 in
theorem sX9_citizen (l : Launch) (b0 : Nat) (D : va_G) (cA : Nat → ClassId) {F : Nat} {L : HL} {a0 : Nat} {x1 : Int32} {x2 : Int32} {z : (Int32 × HL)} (hE : fX9_citizen F L a0 x1 x2 = some z) : Met l yX9_citizen wsX9_citizen (RM 3 0 0) (Pk b0 D cA [.ref (b0 + a0), .int x1, .int x2] L) (Qk b0 D cA (some (.int z.1)) z.2) 0 0 (Ab b0) := by
  refine Met.ofW (cc := cX9_citizen) (maxL := 3) (ret := (some .int)) (by decide) rfl ?_
  intro p ev s m args below meth c s₁ B hml hv
  obtain ⟨rfl, hH, hK⟩ := hv
  have hx := B.exec
  have hb := B.bytes
  have hr := B.returns
  have hts := atoms_spec (ws := wsX9_citizen) B.pre
  have hown : s.vm.findClass RX9 = some m.cls := findClass_of_methodNamed B.named
  have hlocks := B.notSynchronized
  have hC : Cx D cA p s m _ meth c cX9_citizen 3 RX9 wsX9_citizen (some .int) := ⟨hx, hb, hml, hown, hts, hK, hr, hlocks⟩
  have hS : va_S (Ab b0) s.heap s.heap [] := va_S.rf
  have hl := lv_entry ([.ref (b0 + a0), .int x1, .int x2]) (n := 3) (Nat.le_of_ble_eq_true rfl)
  rw [lg_entry_eq]
  generalize (lg_sl ([.ref (b0 + a0), .int x1, .int x2]) ++ List.replicate (3 - (lg_sl ([.ref (b0 + a0), .int x1, .int x2])).length) Slot.unset).toArray = ls at hl ⊢
  have hl : lv_has ls 3 [(0, .ref (b0 + a0)), (1, .int x1), (2, .int x2)] := hl
  unfold fX9_citizen at hE
  obtain ⟨_, _, hE⟩ := Option.bind_eq_some_iff.mp hE
  refine lv_aload_n hx hb dX9_citizen_0 rfl (lv_at hl 0 rfl) ?_
  refine lv_iload_n hx hb dX9_citizen_1 rfl (lv_at hl 1 rfl) ?_
  obtain ⟨z1, hz1, hE⟩ := Option.bind_eq_some_iff.mp hE
  refine r_callI (va_runV (As := [.int x1]) (rest := []) ⟨hx, hb, hml, hown, hts⟩ (sX9_isCitizen l b0 D cA hz1) (cwV 1 hts gX9_citizen_X9_isCitizen rfl rfl rfl (by decide +kernel) (rm_ok (by decide) (by decide))) (pre_V (ci := 8) hK hH (oX9_isCitizen hz1) rfl) rfl rfl hl.1 rfl (lv_room (Nat.le_of_ble_eq_true rfl)) dX9_citizen_2 ⟨Nat.zero_le _, Nat.zero_le _⟩) hS (fun H locs hH hS => ?_)
  refine lv_if_ne (tgt := 10) hx hb dX9_citizen_5 (by decide) (fun c2 => ?_) (fun c2 => ?_)
  · rw [if_neg c2] at hE
    refine lv_iload_n hx hb dX9_citizen_10 rfl (lv_at hl 2 rfl) ?_
    by_cases c3 : x2 = 0
    · rw [if_pos c3] at hE
      refine lv_tableIn (tgt := 36) (off := 25) hx hb dX9_citizen_11 (by rw [c3]; decide) (by rw [c3]; decide) (by rw [c3]; rfl) (by decide) ?_
      refine lv_aload_n hx hb dX9_citizen_36 rfl (lv_at hl 0 rfl) ?_
      obtain ⟨v4, hv4, hE⟩ := Option.bind_eq_some_iff.mp hE
      refine r_gR 3 (C := RX9) (T := TX9) (N := 10) (ci := 8) hx hb hts (by decide +kernel) hown hK hH hv4 rfl (by decide) (hts (.fieldLink RX9 29 "KindStreets" "now" "LKindStreets$Now;") (by decide +kernel)) (fun _ h9 => h9) dX9_citizen_37 ?_
      obtain ⟨v5, hv5, hE⟩ := Option.bind_eq_some_iff.mp hE
      refine r_gR 0 (C := RX3) (T := TX3) (N := 3) (ci := 3) hx hb hts (by decide +kernel) hown hK hH hv5 rfl (by decide) (hts (.fieldLink RX9 98 "KindStreets$Now" "moment" "LKindStreets$Moment;") (by decide +kernel)) (fun _ h9 => h9) dX9_citizen_40 ?_
      obtain ⟨v6, hv6, hE⟩ := Option.bind_eq_some_iff.mp hE
      refine r_gR 3 (C := RX2) (T := TX2) (N := 5) (ci := 2) hx hb hts (by decide +kernel) hown hK hH hv6 rfl (by decide) (hts (.fieldLink RX9 123 "KindStreets$Moment" "home" "[I") (by decide +kernel)) (fun _ h9 => h9) dX9_citizen_43 ?_
      refine lv_iload_n hx hb dX9_citizen_46 rfl (lv_at hl 1 rfl) ?_
      obtain ⟨v7, hv7, hE⟩ := Option.bind_eq_some_iff.mp hE
      refine r_iald hx hb hK hH hv7 dX9_citizen_47 ?_
      have hZ := Option.some.inj hE
      subst hZ
      exact W.iret (v := v7) hx hb hr (fun t ht hW => ⟨rfl, by rw [ht]; exact hH, hS.F ht⟩) hS.2.2 dX9_citizen_48
    rw [if_neg c3] at hE
    by_cases c8 : x2 = 1
    · rw [if_pos c8] at hE
      refine lv_tableIn (tgt := 49) (off := 38) hx hb dX9_citizen_11 (by rw [c8]; decide) (by rw [c8]; decide) (by rw [c8]; rfl) (by decide) ?_
      refine lv_aload_n hx hb dX9_citizen_49 rfl (lv_at hl 0 rfl) ?_
      obtain ⟨v9, hv9, hE⟩ := Option.bind_eq_some_iff.mp hE
      refine r_gR 2 (C := RX9) (T := TX9) (N := 10) (ci := 8) hx hb hts (by decide +kernel) hown hK hH hv9 rfl (by decide) (hts (.fieldLink RX9 23 "KindStreets" "town" "LKindStreets$Town;") (by decide +kernel)) (fun _ h9 => h9) dX9_citizen_50 ?_
      obtain ⟨v10, hv10, hE⟩ := Option.bind_eq_some_iff.mp hE
      refine r_gR 7 (C := RX7) (T := TX7) (N := 8) (ci := 6) hx hb hts (by decide +kernel) hown hK hH hv10 rfl (by decide) (hts (.fieldLink RX9 126 "KindStreets$Town" "wants" "[I") (by decide +kernel)) (fun _ h9 => h9) dX9_citizen_53 ?_
      refine lv_iload_n hx hb dX9_citizen_56 rfl (lv_at hl 1 rfl) ?_
      obtain ⟨v11, hv11, hE⟩ := Option.bind_eq_some_iff.mp hE
      refine r_iald hx hb hK hH hv11 dX9_citizen_57 ?_
      have hZ := Option.some.inj hE
      subst hZ
      exact W.iret (v := v11) hx hb hr (fun t ht hW => ⟨rfl, by rw [ht]; exact hH, hS.F ht⟩) hS.2.2 dX9_citizen_58
    rw [if_neg c8] at hE
    by_cases c12 : x2 = 2
    · rw [if_pos c12] at hE
      refine lv_tableIn (tgt := 59) (off := 48) hx hb dX9_citizen_11 (by rw [c12]; decide) (by rw [c12]; decide) (by rw [c12]; rfl) (by decide) ?_
      refine lv_aload_n hx hb dX9_citizen_59 rfl (lv_at hl 0 rfl) ?_
      refine lv_iload_n hx hb dX9_citizen_60 rfl (lv_at hl 1 rfl) ?_
      obtain ⟨z13, hz13, hE⟩ := Option.bind_eq_some_iff.mp hE
      refine r_callI (va_runV (As := [.int x1]) (rest := []) ⟨hx, hb, hml, hown, hts⟩ (sX9_witnessesOf l b0 D cA hz13) (cwV 1 hts gX9_citizen_X9_witnessesOf rfl rfl rfl (by decide +kernel) (rm_ok (by decide) (by decide))) (pre_V (ci := 8) hK hH (oX9_witnessesOf hz13) rfl) rfl rfl hl.1 rfl (lv_room (Nat.le_of_ble_eq_true rfl)) dX9_citizen_61 ⟨Nat.zero_le _, Nat.zero_le _⟩) hS (fun H locs hH hS => ?_)
      have hZ := Option.some.inj hE
      subst hZ
      exact W.iret (v := z13.1) hx hb hr (fun t ht hW => ⟨rfl, by rw [ht]; exact hH, hS.F ht⟩) hS.2.2 dX9_citizen_64
    rw [if_neg c12] at hE
    refine lv_tableOut (tgt := 65) hx hb dX9_citizen_11 (by have q0 := sw_ne (k := 0) (by decide) c3; have q1 := sw_ne (k := 1) (by decide) c8; have q2 := sw_ne (k := 2) (by decide) c12; omega) (by decide) ?_
    refine lv_iconst (v := (-1)) hx hb dX9_citizen_65 (by decide) ?_
    have hZ := Option.some.inj hE
    subst hZ
    exact W.iret (v := (-1)) hx hb hr (fun t ht hW => ⟨rfl, by rw [ht]; exact hH, hS.F ht⟩) hS.2.2 dX9_citizen_66
  · rw [if_pos c2] at hE
    refine lv_iconst (v := (-1)) hx hb dX9_citizen_8 (by decide) ?_
    have hZ := Option.some.inj hE
    subst hZ
    exact W.iret (v := (-1)) hx hb hr (fun t ht hW => ⟨rfl, by rw [ht]; exact hH, hS.F ht⟩) hS.2.2 dX9_citizen_9
-- X9_does
def fX9_does_b27 (F : Nat)  (L : HL) : Option (Int32 × HL) := some ((-1), L)
set_option maxHeartbeats 4000000 in
set_option maxRecDepth 100000 in
theorem sX9_does_b27 {b0 : Nat} {D : va_G} {cA : Nat → ClassId} {p : Program} {l : Launch} {ev : Env} {s : State} {m : MethodId} {args : Array Value} {below : List Frame} {meth : Method} {c : Code} {F : Nat} {z : (Int32 × HL)}  {L : HL} (hC : Cx D cA p s m args meth c cX9_does 6 RX9 wsX9_does (some .int)) (hE : fX9_does_b27 F  L = some z) : WB b0 D cA p l ev (RM 3 0 0) s m args below meth c 6 0 0 (MQ below (Qk b0 D cA (some (.int z.1)) z.2) args s 0 0 (Ab b0)) 27 [] [] L := by
  obtain ⟨hx, hb, hml, hown, hts, hK, hr, hlocks⟩ := id hC
  intro H locs ls hH hS hl
  unfold fX9_does_b27 at hE
  refine lv_iconst (v := (-1)) hx hb dX9_does_27 (by decide) ?_
  have hZ := Option.some.inj hE
  subst hZ
  exact W.iret (v := (-1)) hx hb hr (fun t ht hW => ⟨rfl, by rw [ht]; exact hH, hS.F ht⟩) hS.2.2 dX9_does_28
def fX9_does_b131 (F : Nat) (a0 : Nat) (x4 : Int32) (L : HL) : Option (Int32 × HL) := (o_gR L a0 8 3).bind fun v18 => (o_gR L v18 3 0).bind fun v19 => (fX2_widthOf F L v19 x4).bind fun z20 => some (z20.1, z20.2)
set_option maxHeartbeats 4000000 in
set_option maxRecDepth 100000 in
theorem sX9_does_b131 {b0 : Nat} {D : va_G} {cA : Nat → ClassId} {p : Program} {l : Launch} {ev : Env} {s : State} {m : MethodId} {args : Array Value} {below : List Frame} {meth : Method} {c : Code} {F : Nat} {z : (Int32 × HL)} {a0 : Nat} {x4 : Int32} {L : HL} (hC : Cx D cA p s m args meth c cX9_does 6 RX9 wsX9_does (some .int)) (hE : fX9_does_b131 F a0 x4 L = some z) : WB b0 D cA p l ev (RM 3 0 0) s m args below meth c 6 0 0 (MQ below (Qk b0 D cA (some (.int z.1)) z.2) args s 0 0 (Ab b0)) 131 [(0, .ref (b0 + a0)), (4, .int x4)] [] L := by
  obtain ⟨hx, hb, hml, hown, hts, hK, hr, hlocks⟩ := id hC
  intro H locs ls hH hS hl
  unfold fX9_does_b131 at hE
  refine lv_aload_n hx hb dX9_does_131 rfl (lv_at hl 0 rfl) ?_
  obtain ⟨v18, hv18, hE⟩ := Option.bind_eq_some_iff.mp hE
  refine r_gR 3 (C := RX9) (T := TX9) (N := 10) (ci := 8) hx hb hts (by decide +kernel) hown hK hH hv18 rfl (by decide) (hts (.fieldLink RX9 29 "KindStreets" "now" "LKindStreets$Now;") (by decide +kernel)) (fun _ h9 => h9) dX9_does_132 ?_
  obtain ⟨v19, hv19, hE⟩ := Option.bind_eq_some_iff.mp hE
  refine r_gR 0 (C := RX3) (T := TX3) (N := 3) (ci := 3) hx hb hts (by decide +kernel) hown hK hH hv19 rfl (by decide) (hts (.fieldLink RX9 98 "KindStreets$Now" "moment" "LKindStreets$Moment;") (by decide +kernel)) (fun _ h9 => h9) dX9_does_135 ?_
  refine lv_iload hx hb dX9_does_138 (lv_at hl 1 rfl) ?_
  obtain ⟨z20, hz20, hE⟩ := Option.bind_eq_some_iff.mp hE
  refine r_callI (va_runV (As := [.int x4]) (rest := []) ⟨hx, hb, hml, hown, hts⟩ (sX2_widthOf l b0 D cA hz20) (cwV 1 hts gX9_does_X2_widthOf rfl rfl rfl (by decide +kernel) (rm_ok (by decide) (by decide))) (pre_V (ci := 2) hK hH (oX2_widthOf hz20) rfl) rfl rfl hl.1 rfl (lv_room (Nat.le_of_ble_eq_true rfl)) dX9_does_140 ⟨Nat.zero_le _, Nat.zero_le _⟩) hS (fun H locs hH hS => ?_)
  have hZ := Option.some.inj hE
  subst hZ
  exact W.iret (v := z20.1) hx hb hr (fun t ht hW => ⟨rfl, by rw [ht]; exact hH, hS.F ht⟩) hS.2.2 dX9_does_143
def fX9_does_b101 (F : Nat) (a0 : Nat) (x2 : Int32) (x4 : Int32) (y0 : Nat) (L : HL) : Option (Int32 × HL) := (fX9_raise F L y0 x4 x2).bind fun z29 => fX9_does_b131 F a0 x4 z29
set_option maxHeartbeats 4000000 in
set_option maxRecDepth 100000 in
theorem sX9_does_b101 {b0 : Nat} {D : va_G} {cA : Nat → ClassId} {p : Program} {l : Launch} {ev : Env} {s : State} {m : MethodId} {args : Array Value} {below : List Frame} {meth : Method} {c : Code} {F : Nat} {z : (Int32 × HL)} {a0 : Nat} {x2 : Int32} {x4 : Int32} {y0 : Nat} {L : HL} (hC : Cx D cA p s m args meth c cX9_does 6 RX9 wsX9_does (some .int)) (hE : fX9_does_b101 F a0 x2 x4 y0 L = some z) : WB b0 D cA p l ev (RM 3 0 0) s m args below meth c 6 0 0 (MQ below (Qk b0 D cA (some (.int z.1)) z.2) args s 0 0 (Ab b0)) 101 [(0, .ref (b0 + a0)), (2, .int x2), (4, .int x4)] [.ref (b0 + y0)] L := by
  obtain ⟨hx, hb, hml, hown, hts, hK, hr, hlocks⟩ := id hC
  intro H locs ls hH hS hl
  unfold fX9_does_b101 at hE
  refine lv_iload hx hb dX9_does_101 (lv_at hl 2 rfl) ?_
  refine lv_iload_n hx hb dX9_does_103 rfl (lv_at hl 1 rfl) ?_
  obtain ⟨z29, hz29, hE⟩ := Option.bind_eq_some_iff.mp hE
  refine r_callV (va_runS (As := [.ref (b0 + y0), .int x4, .int x2]) (rest := []) ⟨hx, hb, hml, hown, hts⟩ (sX9_raise l b0 D cA hz29) (va_cwS 3 hts gX9_does_X9_raise rfl rfl rfl (by decide +kernel) (rm_ok (by decide) (by decide))) (pre_S hK hH) rfl rfl hl.1 rfl (lv_room (Nat.le_of_ble_eq_true rfl)) dX9_does_104 ⟨Nat.zero_le _, Nat.zero_le _⟩) hS (fun H locs hH hS => ?_)
  refine lv_goto (tgt := 131) hx hb dX9_does_107 (by decide) ?_
  exact sX9_does_b131 (F := F) hC hE _ _ _ hH hS (lv_sub hl [0, 2] rfl)
def fX9_does_b59 (F : Nat) (a0 : Nat) (x1 : Int32) (x2 : Int32) (x4 : Int32) (y0 : Int32) (L : HL) : Option (Int32 × HL) := (fX9_witnessesOf F L a0 x1).bind fun z14 => (fJ6_bitCount_0f7a4 F z14.2 z14.1).bind fun z15 => if z15.1 < 2 then (if y0 = 0 then (fX9_does_b131 F a0 x4 z15.2) else ((o_gR z15.2 a0 8 3).bind fun v21 => (o_gR z15.2 v21 3 0).bind fun v22 => (o_gR z15.2 v22 2 1).bind fun v23 => (fX9_raise F z15.2 v23 x4 x2).bind fun z24 => fX9_does_b131 F a0 x4 z24)) else (if y0 = 0 then ((o_gR z15.2 a0 8 3).bind fun v26 => (o_gR z15.2 v26 3 0).bind fun v27 => (o_gR z15.2 v27 2 2).bind fun v28 => fX9_does_b101 F a0 x2 x4 v28 z15.2) else ((o_gR z15.2 a0 8 3).bind fun v30 => (o_gR z15.2 v30 3 0).bind fun v31 => (o_gR z15.2 v31 2 0).bind fun v32 => fX9_does_b101 F a0 x2 x4 v32 z15.2))
set_option maxHeartbeats 4000000 in
set_option maxRecDepth 100000 in
theorem sX9_does_b59 {b0 : Nat} {D : va_G} {cA : Nat → ClassId} {p : Program} {l : Launch} {ev : Env} {s : State} {m : MethodId} {args : Array Value} {below : List Frame} {meth : Method} {c : Code} {F : Nat} {z : (Int32 × HL)} {a0 : Nat} {x1 : Int32} {x2 : Int32} {x4 : Int32} {y0 : Int32} {L : HL} (hC : Cx D cA p s m args meth c cX9_does 6 RX9 wsX9_does (some .int)) (hE : fX9_does_b59 F a0 x1 x2 x4 y0 L = some z) : WB b0 D cA p l ev (RM 3 0 0) s m args below meth c 6 0 0 (MQ below (Qk b0 D cA (some (.int z.1)) z.2) args s 0 0 (Ab b0)) 59 [(0, .ref (b0 + a0)), (1, .int x1), (2, .int x2), (4, .int x4)] [.int y0] L := by
  obtain ⟨hx, hb, hml, hown, hts, hK, hr, hlocks⟩ := id hC
  intro H locs ls hH hS hl
  unfold fX9_does_b59 at hE
  refine lv_istore (lv' := [(5, .int y0), (0, .ref (b0 + a0)), (1, .int x1), (2, .int x2), (4, .int x4)]) hx hb dX9_does_59 hl (by decide) rfl (fun ls hl => ?_)
  refine lv_aload_n hx hb dX9_does_61 rfl (lv_at hl 1 rfl) ?_
  refine lv_iload_n hx hb dX9_does_62 rfl (lv_at hl 2 rfl) ?_
  obtain ⟨z14, hz14, hE⟩ := Option.bind_eq_some_iff.mp hE
  refine r_callI (va_runV (As := [.int x1]) (rest := []) ⟨hx, hb, hml, hown, hts⟩ (sX9_witnessesOf l b0 D cA hz14) (cwV 1 hts gX9_does_X9_witnessesOf rfl rfl rfl (by decide +kernel) (rm_ok (by decide) (by decide))) (pre_V (ci := 8) hK hH (oX9_witnessesOf hz14) rfl) rfl rfl hl.1 rfl (lv_room (Nat.le_of_ble_eq_true rfl)) dX9_does_63 ⟨Nat.zero_le _, Nat.zero_le _⟩) hS (fun H locs hH hS => ?_)
  obtain ⟨z15, hz15, hE⟩ := Option.bind_eq_some_iff.mp hE
  refine r_callI (va_runS (As := [.int z14.1]) (rest := []) ⟨hx, hb, hml, hown, hts⟩ (sJ6_bitCount_0f7a4 l b0 D cA hz15) (va_cwS 1 hts gX9_does_J6_bitCount_0f7a4 rfl rfl rfl (by decide +kernel) (rm_ok (by decide) (by decide))) (pre_S hK hH) rfl rfl hl.1 rfl (lv_room (Nat.le_of_ble_eq_true rfl)) dX9_does_66 ⟨Nat.zero_le _, Nat.zero_le _⟩) hS (fun H locs hH hS => ?_)
  refine lv_iconst (v := 2) hx hb dX9_does_69 (by decide) ?_
  refine lv_icmp_lt (tgt := 110) hx hb dX9_does_70 (by decide) (fun c16 => ?_) (fun c16 => ?_)
  · rw [if_pos c16] at hE
    refine lv_iload hx hb dX9_does_110 (lv_at hl 0 rfl) ?_
    refine lv_if_eq (tgt := 131) hx hb dX9_does_112 (by decide) (fun c17 => ?_) (fun c17 => ?_)
    · rw [if_pos c17] at hE
      exact sX9_does_b131 (F := F) hC hE _ _ _ hH hS (lv_sub hl [1, 4] rfl)
    · rw [if_neg c17] at hE
      refine lv_aload_n hx hb dX9_does_115 rfl (lv_at hl 1 rfl) ?_
      obtain ⟨v21, hv21, hE⟩ := Option.bind_eq_some_iff.mp hE
      refine r_gR 3 (C := RX9) (T := TX9) (N := 10) (ci := 8) hx hb hts (by decide +kernel) hown hK hH hv21 rfl (by decide) (hts (.fieldLink RX9 29 "KindStreets" "now" "LKindStreets$Now;") (by decide +kernel)) (fun _ h9 => h9) dX9_does_116 ?_
      obtain ⟨v22, hv22, hE⟩ := Option.bind_eq_some_iff.mp hE
      refine r_gR 0 (C := RX3) (T := TX3) (N := 3) (ci := 3) hx hb hts (by decide +kernel) hown hK hH hv22 rfl (by decide) (hts (.fieldLink RX9 98 "KindStreets$Now" "moment" "LKindStreets$Moment;") (by decide +kernel)) (fun _ h9 => h9) dX9_does_119 ?_
      obtain ⟨v23, hv23, hE⟩ := Option.bind_eq_some_iff.mp hE
      refine r_gR 1 (C := RX2) (T := TX2) (N := 5) (ci := 2) hx hb hts (by decide +kernel) hown hK hH hv23 rfl (by decide) (hts (.fieldLink RX9 107 "KindStreets$Moment" "hidden" "[I") (by decide +kernel)) (fun _ h9 => h9) dX9_does_122 ?_
      refine lv_iload hx hb dX9_does_125 (lv_at hl 4 rfl) ?_
      refine lv_iload_n hx hb dX9_does_127 rfl (lv_at hl 3 rfl) ?_
      obtain ⟨z24, hz24, hE⟩ := Option.bind_eq_some_iff.mp hE
      refine r_callV (va_runS (As := [.ref (b0 + v23), .int x4, .int x2]) (rest := []) ⟨hx, hb, hml, hown, hts⟩ (sX9_raise l b0 D cA hz24) (va_cwS 3 hts gX9_does_X9_raise rfl rfl rfl (by decide +kernel) (rm_ok (by decide) (by decide))) (pre_S hK hH) rfl rfl hl.1 rfl (lv_room (Nat.le_of_ble_eq_true rfl)) dX9_does_128 ⟨Nat.zero_le _, Nat.zero_le _⟩) hS (fun H locs hH hS => ?_)
      exact sX9_does_b131 (F := F) hC hE _ _ _ hH hS (lv_sub hl [1, 4] rfl)
  · rw [if_neg c16] at hE
    refine lv_iload hx hb dX9_does_73 (lv_at hl 0 rfl) ?_
    refine lv_if_eq (tgt := 91) hx hb dX9_does_75 (by decide) (fun c25 => ?_) (fun c25 => ?_)
    · rw [if_pos c25] at hE
      refine lv_aload_n hx hb dX9_does_91 rfl (lv_at hl 1 rfl) ?_
      obtain ⟨v26, hv26, hE⟩ := Option.bind_eq_some_iff.mp hE
      refine r_gR 3 (C := RX9) (T := TX9) (N := 10) (ci := 8) hx hb hts (by decide +kernel) hown hK hH hv26 rfl (by decide) (hts (.fieldLink RX9 29 "KindStreets" "now" "LKindStreets$Now;") (by decide +kernel)) (fun _ h9 => h9) dX9_does_92 ?_
      obtain ⟨v27, hv27, hE⟩ := Option.bind_eq_some_iff.mp hE
      refine r_gR 0 (C := RX3) (T := TX3) (N := 3) (ci := 3) hx hb hts (by decide +kernel) hown hK hH hv27 rfl (by decide) (hts (.fieldLink RX9 98 "KindStreets$Now" "moment" "LKindStreets$Moment;") (by decide +kernel)) (fun _ h9 => h9) dX9_does_95 ?_
      obtain ⟨v28, hv28, hE⟩ := Option.bind_eq_some_iff.mp hE
      refine r_gR 2 (C := RX2) (T := TX2) (N := 5) (ci := 2) hx hb hts (by decide +kernel) hown hK hH hv28 rfl (by decide) (hts (.fieldLink RX9 110 "KindStreets$Moment" "pretended" "[I") (by decide +kernel)) (fun _ h9 => h9) dX9_does_98 ?_
      exact sX9_does_b101 (F := F) hC hE _ _ _ hH hS (lv_sub hl [1, 3, 4] rfl)
    · rw [if_neg c25] at hE
      refine lv_aload_n hx hb dX9_does_78 rfl (lv_at hl 1 rfl) ?_
      obtain ⟨v30, hv30, hE⟩ := Option.bind_eq_some_iff.mp hE
      refine r_gR 3 (C := RX9) (T := TX9) (N := 10) (ci := 8) hx hb hts (by decide +kernel) hown hK hH hv30 rfl (by decide) (hts (.fieldLink RX9 29 "KindStreets" "now" "LKindStreets$Now;") (by decide +kernel)) (fun _ h9 => h9) dX9_does_79 ?_
      obtain ⟨v31, hv31, hE⟩ := Option.bind_eq_some_iff.mp hE
      refine r_gR 0 (C := RX3) (T := TX3) (N := 3) (ci := 3) hx hb hts (by decide +kernel) hown hK hH hv31 rfl (by decide) (hts (.fieldLink RX9 98 "KindStreets$Now" "moment" "LKindStreets$Moment;") (by decide +kernel)) (fun _ h9 => h9) dX9_does_82 ?_
      obtain ⟨v32, hv32, hE⟩ := Option.bind_eq_some_iff.mp hE
      refine r_gR 0 (C := RX2) (T := TX2) (N := 5) (ci := 2) hx hb hts (by decide +kernel) hown hK hH hv32 rfl (by decide) (hts (.fieldLink RX9 102 "KindStreets$Moment" "seen" "[I") (by decide +kernel)) (fun _ h9 => h9) dX9_does_85 ?_
      refine lv_goto (tgt := 101) hx hb dX9_does_88 (by decide) ?_
      exact sX9_does_b101 (F := F) hC hE _ _ _ hH hS (lv_sub hl [1, 3, 4] rfl)
def fX9_does (F : Nat) (L : HL) (a0 : Nat) (x1 : Int32) (x2 : Int32) (x3 : Int32) : Option (Int32 × HL) := (o_ob L a0 8).bind fun _ => (fX9_isCitizen F L a0 x1).bind fun z1 => if z1.1 = 0 then (fX9_does_b27 F z1.2) else ((fX9_isWithin F z1.2 x2 1 9).bind fun z3 => if z3.1 = 0 then (fX9_does_b27 F z3.2) else ((fX9_isWithin F z3.2 x3 0 1).bind fun z5 => if z5.1 = 0 then (fX9_does_b27 F z5.2) else ((o_gR z5.2 a0 8 3).bind fun v7 => (fX3_remember F z5.2 v7).bind fun z8 => (o_gR z8 a0 8 3).bind fun v9 => (o_gR z8 v9 3 0).bind fun v10 => (o_gR z8 v10 2 3).bind fun v11 => (o_aI z8 v11 0 x1).bind fun v12 => if x3 = 0 then (fX9_does_b59 F a0 x1 x2 v12 1 z8) else (fX9_does_b59 F a0 x1 x2 v12 0 z8))))
theorem oX9_does {F : Nat} {L : HL} {a0 : Nat} {x1 : Int32} {x2 : Int32} {x3 : Int32} {z : (Int32 × HL)} (hE : fX9_does F L a0 x1 x2 x3 = some z) : o_ob L a0 8 = some () := by
  obtain ⟨_, h, _⟩ := Option.bind_eq_some_iff.mp hE
  exact h
set_option maxHeartbeats 4000000 in
set_option maxRecDepth 100000 in
theorem sX9_does (l : Launch) (b0 : Nat) (D : va_G) (cA : Nat → ClassId) {F : Nat} {L : HL} {a0 : Nat} {x1 : Int32} {x2 : Int32} {x3 : Int32} {z : (Int32 × HL)} (hE : fX9_does F L a0 x1 x2 x3 = some z) : Met l yX9_does wsX9_does (RM 3 0 0) (Pk b0 D cA [.ref (b0 + a0), .int x1, .int x2, .int x3] L) (Qk b0 D cA (some (.int z.1)) z.2) 0 0 (Ab b0) := by
  refine Met.ofW (cc := cX9_does) (maxL := 6) (ret := (some .int)) (by decide) rfl ?_
  intro p ev s m args below meth c s₁ B hml hv
  obtain ⟨rfl, hH, hK⟩ := hv
  have hx := B.exec
  have hb := B.bytes
  have hr := B.returns
  have hts := atoms_spec (ws := wsX9_does) B.pre
  have hown : s.vm.findClass RX9 = some m.cls := findClass_of_methodNamed B.named
  have hlocks := B.notSynchronized
  have hC : Cx D cA p s m _ meth c cX9_does 6 RX9 wsX9_does (some .int) := ⟨hx, hb, hml, hown, hts, hK, hr, hlocks⟩
  have hS : va_S (Ab b0) s.heap s.heap [] := va_S.rf
  have hl := lv_entry ([.ref (b0 + a0), .int x1, .int x2, .int x3]) (n := 6) (Nat.le_of_ble_eq_true rfl)
  rw [lg_entry_eq]
  generalize (lg_sl ([.ref (b0 + a0), .int x1, .int x2, .int x3]) ++ List.replicate (6 - (lg_sl ([.ref (b0 + a0), .int x1, .int x2, .int x3])).length) Slot.unset).toArray = ls at hl ⊢
  have hl : lv_has ls 6 [(0, .ref (b0 + a0)), (1, .int x1), (2, .int x2), (3, .int x3)] := hl
  unfold fX9_does at hE
  obtain ⟨_, _, hE⟩ := Option.bind_eq_some_iff.mp hE
  refine lv_aload_n hx hb dX9_does_0 rfl (lv_at hl 0 rfl) ?_
  refine lv_iload_n hx hb dX9_does_1 rfl (lv_at hl 1 rfl) ?_
  obtain ⟨z1, hz1, hE⟩ := Option.bind_eq_some_iff.mp hE
  refine r_callI (va_runV (As := [.int x1]) (rest := []) ⟨hx, hb, hml, hown, hts⟩ (sX9_isCitizen l b0 D cA hz1) (cwV 1 hts gX9_does_X9_isCitizen rfl rfl rfl (by decide +kernel) (rm_ok (by decide) (by decide))) (pre_V (ci := 8) hK hH (oX9_isCitizen hz1) rfl) rfl rfl hl.1 rfl (lv_room (Nat.le_of_ble_eq_true rfl)) dX9_does_2 ⟨Nat.zero_le _, Nat.zero_le _⟩) hS (fun H locs hH hS => ?_)
  refine lv_if_eq (tgt := 27) hx hb dX9_does_5 (by decide) (fun c2 => ?_) (fun c2 => ?_)
  · rw [if_pos c2] at hE
    exact sX9_does_b27 (F := F) hC hE _ _ _ hH hS (lv_sub hl [] rfl)
  · rw [if_neg c2] at hE
    refine lv_iload_n hx hb dX9_does_8 rfl (lv_at hl 2 rfl) ?_
    refine lv_iconst (v := 1) hx hb dX9_does_9 (by decide) ?_
    refine lv_bipush (v := 9) hx hb dX9_does_10 (by decide) ?_
    obtain ⟨z3, hz3, hE⟩ := Option.bind_eq_some_iff.mp hE
    refine r_callI (va_runS (As := [.int x2, .int 1, .int 9]) (rest := []) ⟨hx, hb, hml, hown, hts⟩ (sX9_isWithin l b0 D cA hz3) (va_cwS 3 hts gX9_does_X9_isWithin rfl rfl rfl (by decide +kernel) (rm_ok (by decide) (by decide))) (pre_S hK hH) rfl rfl hl.1 rfl (lv_room (Nat.le_of_ble_eq_true rfl)) dX9_does_12 ⟨Nat.zero_le _, Nat.zero_le _⟩) hS (fun H locs hH hS => ?_)
    refine lv_if_eq (tgt := 27) hx hb dX9_does_15 (by decide) (fun c4 => ?_) (fun c4 => ?_)
    · rw [if_pos c4] at hE
      exact sX9_does_b27 (F := F) hC hE _ _ _ hH hS (lv_sub hl [] rfl)
    · rw [if_neg c4] at hE
      refine lv_iload_n hx hb dX9_does_18 rfl (lv_at hl 3 rfl) ?_
      refine lv_iconst (v := 0) hx hb dX9_does_19 (by decide) ?_
      refine lv_iconst (v := 1) hx hb dX9_does_20 (by decide) ?_
      obtain ⟨z5, hz5, hE⟩ := Option.bind_eq_some_iff.mp hE
      refine r_callI (va_runS (As := [.int x3, .int 0, .int 1]) (rest := []) ⟨hx, hb, hml, hown, hts⟩ (sX9_isWithin l b0 D cA hz5) (va_cwS 3 hts gX9_does_X9_isWithin rfl rfl rfl (by decide +kernel) (rm_ok (by decide) (by decide))) (pre_S hK hH) rfl rfl hl.1 rfl (lv_room (Nat.le_of_ble_eq_true rfl)) dX9_does_21 ⟨Nat.zero_le _, Nat.zero_le _⟩) hS (fun H locs hH hS => ?_)
      refine lv_if_ne (tgt := 29) hx hb dX9_does_24 (by decide) (fun c6 => ?_) (fun c6 => ?_)
      · rw [if_neg c6] at hE
        refine lv_aload_n hx hb dX9_does_29 rfl (lv_at hl 0 rfl) ?_
        obtain ⟨v7, hv7, hE⟩ := Option.bind_eq_some_iff.mp hE
        refine r_gR 3 (C := RX9) (T := TX9) (N := 10) (ci := 8) hx hb hts (by decide +kernel) hown hK hH hv7 rfl (by decide) (hts (.fieldLink RX9 29 "KindStreets" "now" "LKindStreets$Now;") (by decide +kernel)) (fun _ h9 => h9) dX9_does_30 ?_
        obtain ⟨z8, hz8, hE⟩ := Option.bind_eq_some_iff.mp hE
        refine r_callV (va_runV (As := []) (rest := []) ⟨hx, hb, hml, hown, hts⟩ (sX3_remember l b0 D cA hz8) (cwV 0 hts gX9_does_X3_remember rfl rfl rfl (by decide +kernel) (rm_ok (by decide) (by decide))) (pre_V (ci := 3) hK hH (oX3_remember hz8) rfl) rfl rfl hl.1 rfl (lv_room (Nat.le_of_ble_eq_true rfl)) dX9_does_33 ⟨Nat.zero_le _, Nat.zero_le _⟩) hS (fun H locs hH hS => ?_)
        refine lv_aload_n hx hb dX9_does_36 rfl (lv_at hl 0 rfl) ?_
        obtain ⟨v9, hv9, hE⟩ := Option.bind_eq_some_iff.mp hE
        refine r_gR 3 (C := RX9) (T := TX9) (N := 10) (ci := 8) hx hb hts (by decide +kernel) hown hK hH hv9 rfl (by decide) (hts (.fieldLink RX9 29 "KindStreets" "now" "LKindStreets$Now;") (by decide +kernel)) (fun _ h9 => h9) dX9_does_37 ?_
        obtain ⟨v10, hv10, hE⟩ := Option.bind_eq_some_iff.mp hE
        refine r_gR 0 (C := RX3) (T := TX3) (N := 3) (ci := 3) hx hb hts (by decide +kernel) hown hK hH hv10 rfl (by decide) (hts (.fieldLink RX9 98 "KindStreets$Now" "moment" "LKindStreets$Moment;") (by decide +kernel)) (fun _ h9 => h9) dX9_does_40 ?_
        obtain ⟨v11, hv11, hE⟩ := Option.bind_eq_some_iff.mp hE
        refine r_gR 3 (C := RX2) (T := TX2) (N := 5) (ci := 2) hx hb hts (by decide +kernel) hown hK hH hv11 rfl (by decide) (hts (.fieldLink RX9 123 "KindStreets$Moment" "home" "[I") (by decide +kernel)) (fun _ h9 => h9) dX9_does_43 ?_
        refine lv_iload_n hx hb dX9_does_46 rfl (lv_at hl 1 rfl) ?_
        obtain ⟨v12, hv12, hE⟩ := Option.bind_eq_some_iff.mp hE
        refine r_iald hx hb hK hH hv12 dX9_does_47 ?_
        refine lv_istore (lv' := [(4, .int v12), (0, .ref (b0 + a0)), (1, .int x1), (2, .int x2), (3, .int x3)]) hx hb dX9_does_48 hl (by decide) rfl (fun ls hl => ?_)
        refine lv_iload_n hx hb dX9_does_50 rfl (lv_at hl 4 rfl) ?_
        refine lv_if_ne (tgt := 58) hx hb dX9_does_51 (by decide) (fun c13 => ?_) (fun c13 => ?_)
        · rw [if_neg c13] at hE
          refine lv_iconst (v := 0) hx hb dX9_does_58 (by decide) ?_
          exact sX9_does_b59 (F := F) hC hE _ _ _ hH hS (lv_sub hl [1, 2, 3, 0] rfl)
        · rw [if_pos c13] at hE
          refine lv_iconst (v := 1) hx hb dX9_does_54 (by decide) ?_
          refine lv_goto (tgt := 59) hx hb dX9_does_55 (by decide) ?_
          exact sX9_does_b59 (F := F) hC hE _ _ _ hH hS (lv_sub hl [1, 2, 3, 0] rfl)
      · rw [if_pos c6] at hE
        exact sX9_does_b27 (F := F) hC hE _ _ _ hH hS (lv_sub hl [] rfl)
-- X9_wills
def fX9_wills (F : Nat) (L : HL) (a0 : Nat) (x1 : Int32) : Option (Int32 × HL) := (o_ob L a0 8).bind fun _ => (fX9_isStreet F L a0 x1).bind fun z1 => if z1.1 = 0 then (some ((-1), z1.2)) else ((o_gR z1.2 a0 8 3).bind fun v3 => (o_gR z1.2 v3 3 0).bind fun v4 => (o_gR z1.2 v4 2 1).bind fun v5 => (o_aI z1.2 v5 0 x1).bind fun v6 => if v6 = 0 then (some ((-2), z1.2)) else ((o_gR z1.2 a0 8 3).bind fun v8 => (fX3_remember F z1.2 v8).bind fun z9 => (o_gR z9 a0 8 3).bind fun v10 => (o_gR z9 v10 3 0).bind fun v11 => (o_gR z9 v11 2 0).bind fun v12 => (fX9_raise F z9 v12 x1 v6).bind fun z13 => (o_gR z13 a0 8 3).bind fun v14 => (o_gR z13 v14 3 0).bind fun v15 => (o_gR z13 v15 2 1).bind fun v16 => (o_sI z13 v16 0 x1 0).bind fun L17 => some (v6, L17)))
theorem oX9_wills {F : Nat} {L : HL} {a0 : Nat} {x1 : Int32} {z : (Int32 × HL)} (hE : fX9_wills F L a0 x1 = some z) : o_ob L a0 8 = some () := by
  obtain ⟨_, h, _⟩ := Option.bind_eq_some_iff.mp hE
  exact h
set_option maxHeartbeats 4000000 in
set_option maxRecDepth 100000 in
theorem sX9_wills (l : Launch) (b0 : Nat) (D : va_G) (cA : Nat → ClassId) {F : Nat} {L : HL} {a0 : Nat} {x1 : Int32} {z : (Int32 × HL)} (hE : fX9_wills F L a0 x1 = some z) : Met l yX9_wills wsX9_wills (RM 3 0 0) (Pk b0 D cA [.ref (b0 + a0), .int x1] L) (Qk b0 D cA (some (.int z.1)) z.2) 0 0 (Ab b0) := by
  refine Met.ofW (cc := cX9_wills) (maxL := 3) (ret := (some .int)) (by decide) rfl ?_
  intro p ev s m args below meth c s₁ B hml hv
  obtain ⟨rfl, hH, hK⟩ := hv
  have hx := B.exec
  have hb := B.bytes
  have hr := B.returns
  have hts := atoms_spec (ws := wsX9_wills) B.pre
  have hown : s.vm.findClass RX9 = some m.cls := findClass_of_methodNamed B.named
  have hlocks := B.notSynchronized
  have hC : Cx D cA p s m _ meth c cX9_wills 3 RX9 wsX9_wills (some .int) := ⟨hx, hb, hml, hown, hts, hK, hr, hlocks⟩
  have hS : va_S (Ab b0) s.heap s.heap [] := va_S.rf
  have hl := lv_entry ([.ref (b0 + a0), .int x1]) (n := 3) (Nat.le_of_ble_eq_true rfl)
  rw [lg_entry_eq]
  generalize (lg_sl ([.ref (b0 + a0), .int x1]) ++ List.replicate (3 - (lg_sl ([.ref (b0 + a0), .int x1])).length) Slot.unset).toArray = ls at hl ⊢
  have hl : lv_has ls 3 [(0, .ref (b0 + a0)), (1, .int x1)] := hl
  unfold fX9_wills at hE
  obtain ⟨_, _, hE⟩ := Option.bind_eq_some_iff.mp hE
  refine lv_aload_n hx hb dX9_wills_0 rfl (lv_at hl 0 rfl) ?_
  refine lv_iload_n hx hb dX9_wills_1 rfl (lv_at hl 1 rfl) ?_
  obtain ⟨z1, hz1, hE⟩ := Option.bind_eq_some_iff.mp hE
  refine r_callI (va_runV (As := [.int x1]) (rest := []) ⟨hx, hb, hml, hown, hts⟩ (sX9_isStreet l b0 D cA hz1) (cwV 1 hts gX9_wills_X9_isStreet rfl rfl rfl (by decide +kernel) (rm_ok (by decide) (by decide))) (pre_V (ci := 8) hK hH (oX9_isStreet hz1) rfl) rfl rfl hl.1 rfl (lv_room (Nat.le_of_ble_eq_true rfl)) dX9_wills_2 ⟨Nat.zero_le _, Nat.zero_le _⟩) hS (fun H locs hH hS => ?_)
  refine lv_if_ne (tgt := 10) hx hb dX9_wills_5 (by decide) (fun c2 => ?_) (fun c2 => ?_)
  · rw [if_neg c2] at hE
    refine lv_aload_n hx hb dX9_wills_10 rfl (lv_at hl 0 rfl) ?_
    obtain ⟨v3, hv3, hE⟩ := Option.bind_eq_some_iff.mp hE
    refine r_gR 3 (C := RX9) (T := TX9) (N := 10) (ci := 8) hx hb hts (by decide +kernel) hown hK hH hv3 rfl (by decide) (hts (.fieldLink RX9 29 "KindStreets" "now" "LKindStreets$Now;") (by decide +kernel)) (fun _ h9 => h9) dX9_wills_11 ?_
    obtain ⟨v4, hv4, hE⟩ := Option.bind_eq_some_iff.mp hE
    refine r_gR 0 (C := RX3) (T := TX3) (N := 3) (ci := 3) hx hb hts (by decide +kernel) hown hK hH hv4 rfl (by decide) (hts (.fieldLink RX9 98 "KindStreets$Now" "moment" "LKindStreets$Moment;") (by decide +kernel)) (fun _ h9 => h9) dX9_wills_14 ?_
    obtain ⟨v5, hv5, hE⟩ := Option.bind_eq_some_iff.mp hE
    refine r_gR 1 (C := RX2) (T := TX2) (N := 5) (ci := 2) hx hb hts (by decide +kernel) hown hK hH hv5 rfl (by decide) (hts (.fieldLink RX9 107 "KindStreets$Moment" "hidden" "[I") (by decide +kernel)) (fun _ h9 => h9) dX9_wills_17 ?_
    refine lv_iload_n hx hb dX9_wills_20 rfl (lv_at hl 1 rfl) ?_
    obtain ⟨v6, hv6, hE⟩ := Option.bind_eq_some_iff.mp hE
    refine r_iald hx hb hK hH hv6 dX9_wills_21 ?_
    refine lv_istore_n (lv' := [(2, .int v6), (0, .ref (b0 + a0)), (1, .int x1)]) hx hb dX9_wills_22 rfl hl (by decide) rfl (fun ls hl => ?_)
    refine lv_iload_n hx hb dX9_wills_23 rfl (lv_at hl 0 rfl) ?_
    refine lv_if_ne (tgt := 30) hx hb dX9_wills_24 (by decide) (fun c7 => ?_) (fun c7 => ?_)
    · rw [if_neg c7] at hE
      refine lv_aload_n hx hb dX9_wills_30 rfl (lv_at hl 1 rfl) ?_
      obtain ⟨v8, hv8, hE⟩ := Option.bind_eq_some_iff.mp hE
      refine r_gR 3 (C := RX9) (T := TX9) (N := 10) (ci := 8) hx hb hts (by decide +kernel) hown hK hH hv8 rfl (by decide) (hts (.fieldLink RX9 29 "KindStreets" "now" "LKindStreets$Now;") (by decide +kernel)) (fun _ h9 => h9) dX9_wills_31 ?_
      obtain ⟨z9, hz9, hE⟩ := Option.bind_eq_some_iff.mp hE
      refine r_callV (va_runV (As := []) (rest := []) ⟨hx, hb, hml, hown, hts⟩ (sX3_remember l b0 D cA hz9) (cwV 0 hts gX9_wills_X3_remember rfl rfl rfl (by decide +kernel) (rm_ok (by decide) (by decide))) (pre_V (ci := 3) hK hH (oX3_remember hz9) rfl) rfl rfl hl.1 rfl (lv_room (Nat.le_of_ble_eq_true rfl)) dX9_wills_34 ⟨Nat.zero_le _, Nat.zero_le _⟩) hS (fun H locs hH hS => ?_)
      refine lv_aload_n hx hb dX9_wills_37 rfl (lv_at hl 1 rfl) ?_
      obtain ⟨v10, hv10, hE⟩ := Option.bind_eq_some_iff.mp hE
      refine r_gR 3 (C := RX9) (T := TX9) (N := 10) (ci := 8) hx hb hts (by decide +kernel) hown hK hH hv10 rfl (by decide) (hts (.fieldLink RX9 29 "KindStreets" "now" "LKindStreets$Now;") (by decide +kernel)) (fun _ h9 => h9) dX9_wills_38 ?_
      obtain ⟨v11, hv11, hE⟩ := Option.bind_eq_some_iff.mp hE
      refine r_gR 0 (C := RX3) (T := TX3) (N := 3) (ci := 3) hx hb hts (by decide +kernel) hown hK hH hv11 rfl (by decide) (hts (.fieldLink RX9 98 "KindStreets$Now" "moment" "LKindStreets$Moment;") (by decide +kernel)) (fun _ h9 => h9) dX9_wills_41 ?_
      obtain ⟨v12, hv12, hE⟩ := Option.bind_eq_some_iff.mp hE
      refine r_gR 0 (C := RX2) (T := TX2) (N := 5) (ci := 2) hx hb hts (by decide +kernel) hown hK hH hv12 rfl (by decide) (hts (.fieldLink RX9 102 "KindStreets$Moment" "seen" "[I") (by decide +kernel)) (fun _ h9 => h9) dX9_wills_44 ?_
      refine lv_iload_n hx hb dX9_wills_47 rfl (lv_at hl 2 rfl) ?_
      refine lv_iload_n hx hb dX9_wills_48 rfl (lv_at hl 0 rfl) ?_
      obtain ⟨z13, hz13, hE⟩ := Option.bind_eq_some_iff.mp hE
      refine r_callV (va_runS (As := [.ref (b0 + v12), .int x1, .int v6]) (rest := []) ⟨hx, hb, hml, hown, hts⟩ (sX9_raise l b0 D cA hz13) (va_cwS 3 hts gX9_wills_X9_raise rfl rfl rfl (by decide +kernel) (rm_ok (by decide) (by decide))) (pre_S hK hH) rfl rfl hl.1 rfl (lv_room (Nat.le_of_ble_eq_true rfl)) dX9_wills_49 ⟨Nat.zero_le _, Nat.zero_le _⟩) hS (fun H locs hH hS => ?_)
      refine lv_aload_n hx hb dX9_wills_52 rfl (lv_at hl 1 rfl) ?_
      obtain ⟨v14, hv14, hE⟩ := Option.bind_eq_some_iff.mp hE
      refine r_gR 3 (C := RX9) (T := TX9) (N := 10) (ci := 8) hx hb hts (by decide +kernel) hown hK hH hv14 rfl (by decide) (hts (.fieldLink RX9 29 "KindStreets" "now" "LKindStreets$Now;") (by decide +kernel)) (fun _ h9 => h9) dX9_wills_53 ?_
      obtain ⟨v15, hv15, hE⟩ := Option.bind_eq_some_iff.mp hE
      refine r_gR 0 (C := RX3) (T := TX3) (N := 3) (ci := 3) hx hb hts (by decide +kernel) hown hK hH hv15 rfl (by decide) (hts (.fieldLink RX9 98 "KindStreets$Now" "moment" "LKindStreets$Moment;") (by decide +kernel)) (fun _ h9 => h9) dX9_wills_56 ?_
      obtain ⟨v16, hv16, hE⟩ := Option.bind_eq_some_iff.mp hE
      refine r_gR 1 (C := RX2) (T := TX2) (N := 5) (ci := 2) hx hb hts (by decide +kernel) hown hK hH hv16 rfl (by decide) (hts (.fieldLink RX9 107 "KindStreets$Moment" "hidden" "[I") (by decide +kernel)) (fun _ h9 => h9) dX9_wills_59 ?_
      refine lv_iload_n hx hb dX9_wills_62 rfl (lv_at hl 2 rfl) ?_
      refine lv_iconst (v := 0) hx hb dX9_wills_63 (by decide) ?_
      obtain ⟨L17, hL17, hE⟩ := Option.bind_eq_some_iff.mp hE
      refine r_iast hx hb hK hH hS hL17 dX9_wills_64 (fun H locs hH hS => ?_)
      refine lv_iload_n hx hb dX9_wills_65 rfl (lv_at hl 0 rfl) ?_
      have hZ := Option.some.inj hE
      subst hZ
      exact W.iret (v := v6) hx hb hr (fun t ht hW => ⟨rfl, by rw [ht]; exact hH, hS.F ht⟩) hS.2.2 dX9_wills_66
    · rw [if_pos c7] at hE
      refine lv_bipush (v := (-2)) hx hb dX9_wills_27 (by decide) ?_
      have hZ := Option.some.inj hE
      subst hZ
      exact W.iret (v := (-2)) hx hb hr (fun t ht hW => ⟨rfl, by rw [ht]; exact hH, hS.F ht⟩) hS.2.2 dX9_wills_29
  · rw [if_pos c2] at hE
    refine lv_iconst (v := (-1)) hx hb dX9_wills_8 (by decide) ?_
    have hZ := Option.some.inj hE
    subst hZ
    exact W.iret (v := (-1)) hx hb hr (fun t ht hW => ⟨rfl, by rw [ht]; exact hH, hS.F ht⟩) hS.2.2 dX9_wills_9
-- X9_moves
def fX9_moves_b16 (F : Nat)  (L : HL) : Option (Int32 × HL) := some ((-1), L)
set_option maxHeartbeats 4000000 in
set_option maxRecDepth 100000 in
theorem sX9_moves_b16 {b0 : Nat} {D : va_G} {cA : Nat → ClassId} {p : Program} {l : Launch} {ev : Env} {s : State} {m : MethodId} {args : Array Value} {below : List Frame} {meth : Method} {c : Code} {F : Nat} {z : (Int32 × HL)}  {L : HL} (hC : Cx D cA p s m args meth c cX9_moves 4 RX9 wsX9_moves (some .int)) (hE : fX9_moves_b16 F  L = some z) : WB b0 D cA p l ev (RM 3 0 0) s m args below meth c 4 0 0 (MQ below (Qk b0 D cA (some (.int z.1)) z.2) args s 0 0 (Ab b0)) 16 [] [] L := by
  obtain ⟨hx, hb, hml, hown, hts, hK, hr, hlocks⟩ := id hC
  intro H locs ls hH hS hl
  unfold fX9_moves_b16 at hE
  refine lv_iconst (v := (-1)) hx hb dX9_moves_16 (by decide) ?_
  have hZ := Option.some.inj hE
  subst hZ
  exact W.iret (v := (-1)) hx hb hr (fun t ht hW => ⟨rfl, by rw [ht]; exact hH, hS.F ht⟩) hS.2.2 dX9_moves_17
def fX9_moves (F : Nat) (L : HL) (a0 : Nat) (x1 : Int32) (x2 : Int32) : Option (Int32 × HL) := (o_ob L a0 8).bind fun _ => (fX9_isCitizen F L a0 x1).bind fun z1 => if z1.1 = 0 then (fX9_moves_b16 F z1.2) else ((fX9_isStreet F z1.2 a0 x2).bind fun z3 => if z3.1 = 0 then (fX9_moves_b16 F z3.2) else ((o_gR z3.2 a0 8 3).bind fun v5 => (o_gR z3.2 v5 3 0).bind fun v6 => (o_gR z3.2 v6 2 3).bind fun v7 => (o_aI z3.2 v7 0 x1).bind fun v8 => if v8 = x2 then (some ((-2), z3.2)) else ((o_gR z3.2 a0 8 3).bind fun v10 => (fX3_remember F z3.2 v10).bind fun z11 => (o_gR z11 a0 8 3).bind fun v12 => (o_gR z11 v12 3 0).bind fun v13 => (o_gR z11 v13 2 3).bind fun v14 => (o_sI z11 v14 0 x1 x2).bind fun L15 => some (v8, L15))))
theorem oX9_moves {F : Nat} {L : HL} {a0 : Nat} {x1 : Int32} {x2 : Int32} {z : (Int32 × HL)} (hE : fX9_moves F L a0 x1 x2 = some z) : o_ob L a0 8 = some () := by
  obtain ⟨_, h, _⟩ := Option.bind_eq_some_iff.mp hE
  exact h
set_option maxHeartbeats 4000000 in
set_option maxRecDepth 100000 in
theorem sX9_moves (l : Launch) (b0 : Nat) (D : va_G) (cA : Nat → ClassId) {F : Nat} {L : HL} {a0 : Nat} {x1 : Int32} {x2 : Int32} {z : (Int32 × HL)} (hE : fX9_moves F L a0 x1 x2 = some z) : Met l yX9_moves wsX9_moves (RM 3 0 0) (Pk b0 D cA [.ref (b0 + a0), .int x1, .int x2] L) (Qk b0 D cA (some (.int z.1)) z.2) 0 0 (Ab b0) := by
  refine Met.ofW (cc := cX9_moves) (maxL := 4) (ret := (some .int)) (by decide) rfl ?_
  intro p ev s m args below meth c s₁ B hml hv
  obtain ⟨rfl, hH, hK⟩ := hv
  have hx := B.exec
  have hb := B.bytes
  have hr := B.returns
  have hts := atoms_spec (ws := wsX9_moves) B.pre
  have hown : s.vm.findClass RX9 = some m.cls := findClass_of_methodNamed B.named
  have hlocks := B.notSynchronized
  have hC : Cx D cA p s m _ meth c cX9_moves 4 RX9 wsX9_moves (some .int) := ⟨hx, hb, hml, hown, hts, hK, hr, hlocks⟩
  have hS : va_S (Ab b0) s.heap s.heap [] := va_S.rf
  have hl := lv_entry ([.ref (b0 + a0), .int x1, .int x2]) (n := 4) (Nat.le_of_ble_eq_true rfl)
  rw [lg_entry_eq]
  generalize (lg_sl ([.ref (b0 + a0), .int x1, .int x2]) ++ List.replicate (4 - (lg_sl ([.ref (b0 + a0), .int x1, .int x2])).length) Slot.unset).toArray = ls at hl ⊢
  have hl : lv_has ls 4 [(0, .ref (b0 + a0)), (1, .int x1), (2, .int x2)] := hl
  unfold fX9_moves at hE
  obtain ⟨_, _, hE⟩ := Option.bind_eq_some_iff.mp hE
  refine lv_aload_n hx hb dX9_moves_0 rfl (lv_at hl 0 rfl) ?_
  refine lv_iload_n hx hb dX9_moves_1 rfl (lv_at hl 1 rfl) ?_
  obtain ⟨z1, hz1, hE⟩ := Option.bind_eq_some_iff.mp hE
  refine r_callI (va_runV (As := [.int x1]) (rest := []) ⟨hx, hb, hml, hown, hts⟩ (sX9_isCitizen l b0 D cA hz1) (cwV 1 hts gX9_moves_X9_isCitizen rfl rfl rfl (by decide +kernel) (rm_ok (by decide) (by decide))) (pre_V (ci := 8) hK hH (oX9_isCitizen hz1) rfl) rfl rfl hl.1 rfl (lv_room (Nat.le_of_ble_eq_true rfl)) dX9_moves_2 ⟨Nat.zero_le _, Nat.zero_le _⟩) hS (fun H locs hH hS => ?_)
  refine lv_if_eq (tgt := 16) hx hb dX9_moves_5 (by decide) (fun c2 => ?_) (fun c2 => ?_)
  · rw [if_pos c2] at hE
    exact sX9_moves_b16 (F := F) hC hE _ _ _ hH hS (lv_sub hl [] rfl)
  · rw [if_neg c2] at hE
    refine lv_aload_n hx hb dX9_moves_8 rfl (lv_at hl 0 rfl) ?_
    refine lv_iload_n hx hb dX9_moves_9 rfl (lv_at hl 2 rfl) ?_
    obtain ⟨z3, hz3, hE⟩ := Option.bind_eq_some_iff.mp hE
    refine r_callI (va_runV (As := [.int x2]) (rest := []) ⟨hx, hb, hml, hown, hts⟩ (sX9_isStreet l b0 D cA hz3) (cwV 1 hts gX9_moves_X9_isStreet rfl rfl rfl (by decide +kernel) (rm_ok (by decide) (by decide))) (pre_V (ci := 8) hK hH (oX9_isStreet hz3) rfl) rfl rfl hl.1 rfl (lv_room (Nat.le_of_ble_eq_true rfl)) dX9_moves_10 ⟨Nat.zero_le _, Nat.zero_le _⟩) hS (fun H locs hH hS => ?_)
    refine lv_if_ne (tgt := 18) hx hb dX9_moves_13 (by decide) (fun c4 => ?_) (fun c4 => ?_)
    · rw [if_neg c4] at hE
      refine lv_aload_n hx hb dX9_moves_18 rfl (lv_at hl 0 rfl) ?_
      obtain ⟨v5, hv5, hE⟩ := Option.bind_eq_some_iff.mp hE
      refine r_gR 3 (C := RX9) (T := TX9) (N := 10) (ci := 8) hx hb hts (by decide +kernel) hown hK hH hv5 rfl (by decide) (hts (.fieldLink RX9 29 "KindStreets" "now" "LKindStreets$Now;") (by decide +kernel)) (fun _ h9 => h9) dX9_moves_19 ?_
      obtain ⟨v6, hv6, hE⟩ := Option.bind_eq_some_iff.mp hE
      refine r_gR 0 (C := RX3) (T := TX3) (N := 3) (ci := 3) hx hb hts (by decide +kernel) hown hK hH hv6 rfl (by decide) (hts (.fieldLink RX9 98 "KindStreets$Now" "moment" "LKindStreets$Moment;") (by decide +kernel)) (fun _ h9 => h9) dX9_moves_22 ?_
      obtain ⟨v7, hv7, hE⟩ := Option.bind_eq_some_iff.mp hE
      refine r_gR 3 (C := RX2) (T := TX2) (N := 5) (ci := 2) hx hb hts (by decide +kernel) hown hK hH hv7 rfl (by decide) (hts (.fieldLink RX9 123 "KindStreets$Moment" "home" "[I") (by decide +kernel)) (fun _ h9 => h9) dX9_moves_25 ?_
      refine lv_iload_n hx hb dX9_moves_28 rfl (lv_at hl 1 rfl) ?_
      obtain ⟨v8, hv8, hE⟩ := Option.bind_eq_some_iff.mp hE
      refine r_iald hx hb hK hH hv8 dX9_moves_29 ?_
      refine lv_istore_n (lv' := [(3, .int v8), (0, .ref (b0 + a0)), (1, .int x1), (2, .int x2)]) hx hb dX9_moves_30 rfl hl (by decide) rfl (fun ls hl => ?_)
      refine lv_iload_n hx hb dX9_moves_31 rfl (lv_at hl 0 rfl) ?_
      refine lv_iload_n hx hb dX9_moves_32 rfl (lv_at hl 3 rfl) ?_
      refine lv_icmp_ne (tgt := 39) hx hb dX9_moves_33 (by decide) (fun c9 => ?_) (fun c9 => ?_)
      · rw [if_neg c9] at hE
        refine lv_aload_n hx hb dX9_moves_39 rfl (lv_at hl 1 rfl) ?_
        obtain ⟨v10, hv10, hE⟩ := Option.bind_eq_some_iff.mp hE
        refine r_gR 3 (C := RX9) (T := TX9) (N := 10) (ci := 8) hx hb hts (by decide +kernel) hown hK hH hv10 rfl (by decide) (hts (.fieldLink RX9 29 "KindStreets" "now" "LKindStreets$Now;") (by decide +kernel)) (fun _ h9 => h9) dX9_moves_40 ?_
        obtain ⟨z11, hz11, hE⟩ := Option.bind_eq_some_iff.mp hE
        refine r_callV (va_runV (As := []) (rest := []) ⟨hx, hb, hml, hown, hts⟩ (sX3_remember l b0 D cA hz11) (cwV 0 hts gX9_moves_X3_remember rfl rfl rfl (by decide +kernel) (rm_ok (by decide) (by decide))) (pre_V (ci := 3) hK hH (oX3_remember hz11) rfl) rfl rfl hl.1 rfl (lv_room (Nat.le_of_ble_eq_true rfl)) dX9_moves_43 ⟨Nat.zero_le _, Nat.zero_le _⟩) hS (fun H locs hH hS => ?_)
        refine lv_aload_n hx hb dX9_moves_46 rfl (lv_at hl 1 rfl) ?_
        obtain ⟨v12, hv12, hE⟩ := Option.bind_eq_some_iff.mp hE
        refine r_gR 3 (C := RX9) (T := TX9) (N := 10) (ci := 8) hx hb hts (by decide +kernel) hown hK hH hv12 rfl (by decide) (hts (.fieldLink RX9 29 "KindStreets" "now" "LKindStreets$Now;") (by decide +kernel)) (fun _ h9 => h9) dX9_moves_47 ?_
        obtain ⟨v13, hv13, hE⟩ := Option.bind_eq_some_iff.mp hE
        refine r_gR 0 (C := RX3) (T := TX3) (N := 3) (ci := 3) hx hb hts (by decide +kernel) hown hK hH hv13 rfl (by decide) (hts (.fieldLink RX9 98 "KindStreets$Now" "moment" "LKindStreets$Moment;") (by decide +kernel)) (fun _ h9 => h9) dX9_moves_50 ?_
        obtain ⟨v14, hv14, hE⟩ := Option.bind_eq_some_iff.mp hE
        refine r_gR 3 (C := RX2) (T := TX2) (N := 5) (ci := 2) hx hb hts (by decide +kernel) hown hK hH hv14 rfl (by decide) (hts (.fieldLink RX9 123 "KindStreets$Moment" "home" "[I") (by decide +kernel)) (fun _ h9 => h9) dX9_moves_53 ?_
        refine lv_iload_n hx hb dX9_moves_56 rfl (lv_at hl 2 rfl) ?_
        refine lv_iload_n hx hb dX9_moves_57 rfl (lv_at hl 3 rfl) ?_
        obtain ⟨L15, hL15, hE⟩ := Option.bind_eq_some_iff.mp hE
        refine r_iast hx hb hK hH hS hL15 dX9_moves_58 (fun H locs hH hS => ?_)
        refine lv_iload_n hx hb dX9_moves_59 rfl (lv_at hl 0 rfl) ?_
        have hZ := Option.some.inj hE
        subst hZ
        exact W.iret (v := v8) hx hb hr (fun t ht hW => ⟨rfl, by rw [ht]; exact hH, hS.F ht⟩) hS.2.2 dX9_moves_60
      · rw [if_pos c9] at hE
        refine lv_bipush (v := (-2)) hx hb dX9_moves_36 (by decide) ?_
        have hZ := Option.some.inj hE
        subst hZ
        exact W.iret (v := (-2)) hx hb hr (fun t ht hW => ⟨rfl, by rw [ht]; exact hH, hS.F ht⟩) hS.2.2 dX9_moves_38
    · rw [if_pos c4] at hE
      exact sX9_moves_b16 (F := F) hC hE _ _ _ hH hS (lv_sub hl [] rfl)
-- X9_night
def fX9_night (F : Nat) (L : HL) (a0 : Nat) (x1 : Int32) : Option (Int32 × HL) := (o_ob L a0 8).bind fun _ => (fX9_isWithin F L x1 0 1).bind fun z1 => if z1.1 = 0 then (some ((-1), z1.2)) else ((o_gR z1.2 a0 8 3).bind fun v3 => (o_gR z1.2 v3 3 0).bind fun v4 => (o_gI z1.2 v4 2 4).bind fun v5 => if v5 = x1 then (some ((-2), z1.2)) else ((o_gR z1.2 a0 8 3).bind fun v7 => (fX3_remember F z1.2 v7).bind fun z8 => (o_gR z8 a0 8 3).bind fun v9 => (o_gR z8 v9 3 0).bind fun v10 => (o_p z8 v10 2 4 (.int x1)).bind fun L11 => (fX9_widthsTogether F L11 a0).bind fun z12 => some (z12.1, z12.2)))
theorem oX9_night {F : Nat} {L : HL} {a0 : Nat} {x1 : Int32} {z : (Int32 × HL)} (hE : fX9_night F L a0 x1 = some z) : o_ob L a0 8 = some () := by
  obtain ⟨_, h, _⟩ := Option.bind_eq_some_iff.mp hE
  exact h
set_option maxHeartbeats 4000000 in
set_option maxRecDepth 100000 in
theorem sX9_night (l : Launch) (b0 : Nat) (D : va_G) (cA : Nat → ClassId) {F : Nat} {L : HL} {a0 : Nat} {x1 : Int32} {z : (Int32 × HL)} (hE : fX9_night F L a0 x1 = some z) : Met l yX9_night wsX9_night (RM 4 0 0) (Pk b0 D cA [.ref (b0 + a0), .int x1] L) (Qk b0 D cA (some (.int z.1)) z.2) 0 0 (Ab b0) := by
  refine Met.ofW (cc := cX9_night) (maxL := 2) (ret := (some .int)) (by decide) rfl ?_
  intro p ev s m args below meth c s₁ B hml hv
  obtain ⟨rfl, hH, hK⟩ := hv
  have hx := B.exec
  have hb := B.bytes
  have hr := B.returns
  have hts := atoms_spec (ws := wsX9_night) B.pre
  have hown : s.vm.findClass RX9 = some m.cls := findClass_of_methodNamed B.named
  have hlocks := B.notSynchronized
  have hC : Cx D cA p s m _ meth c cX9_night 2 RX9 wsX9_night (some .int) := ⟨hx, hb, hml, hown, hts, hK, hr, hlocks⟩
  have hS : va_S (Ab b0) s.heap s.heap [] := va_S.rf
  have hl := lv_entry ([.ref (b0 + a0), .int x1]) (n := 2) (Nat.le_of_ble_eq_true rfl)
  rw [lg_entry_eq]
  generalize (lg_sl ([.ref (b0 + a0), .int x1]) ++ List.replicate (2 - (lg_sl ([.ref (b0 + a0), .int x1])).length) Slot.unset).toArray = ls at hl ⊢
  have hl : lv_has ls 2 [(0, .ref (b0 + a0)), (1, .int x1)] := hl
  unfold fX9_night at hE
  obtain ⟨_, _, hE⟩ := Option.bind_eq_some_iff.mp hE
  refine lv_iload_n hx hb dX9_night_0 rfl (lv_at hl 1 rfl) ?_
  refine lv_iconst (v := 0) hx hb dX9_night_1 (by decide) ?_
  refine lv_iconst (v := 1) hx hb dX9_night_2 (by decide) ?_
  obtain ⟨z1, hz1, hE⟩ := Option.bind_eq_some_iff.mp hE
  refine r_callI (va_runS (As := [.int x1, .int 0, .int 1]) (rest := []) ⟨hx, hb, hml, hown, hts⟩ (sX9_isWithin l b0 D cA hz1) (va_cwS 3 hts gX9_night_X9_isWithin rfl rfl rfl (by decide +kernel) (rm_ok (by decide) (by decide))) (pre_S hK hH) rfl rfl hl.1 rfl (lv_room (Nat.le_of_ble_eq_true rfl)) dX9_night_3 ⟨Nat.zero_le _, Nat.zero_le _⟩) hS (fun H locs hH hS => ?_)
  refine lv_if_ne (tgt := 11) hx hb dX9_night_6 (by decide) (fun c2 => ?_) (fun c2 => ?_)
  · rw [if_neg c2] at hE
    refine lv_aload_n hx hb dX9_night_11 rfl (lv_at hl 0 rfl) ?_
    obtain ⟨v3, hv3, hE⟩ := Option.bind_eq_some_iff.mp hE
    refine r_gR 3 (C := RX9) (T := TX9) (N := 10) (ci := 8) hx hb hts (by decide +kernel) hown hK hH hv3 rfl (by decide) (hts (.fieldLink RX9 29 "KindStreets" "now" "LKindStreets$Now;") (by decide +kernel)) (fun _ h9 => h9) dX9_night_12 ?_
    obtain ⟨v4, hv4, hE⟩ := Option.bind_eq_some_iff.mp hE
    refine r_gR 0 (C := RX3) (T := TX3) (N := 3) (ci := 3) hx hb hts (by decide +kernel) hown hK hH hv4 rfl (by decide) (hts (.fieldLink RX9 98 "KindStreets$Now" "moment" "LKindStreets$Moment;") (by decide +kernel)) (fun _ h9 => h9) dX9_night_15 ?_
    obtain ⟨v5, hv5, hE⟩ := Option.bind_eq_some_iff.mp hE
    refine r_gI 4 (C := RX2) (T := TX2) (N := 5) (ci := 2) hx hb hts (by decide +kernel) hown hK hH hv5 rfl (by decide) (hts (.fieldLink RX9 144 "KindStreets$Moment" "night" "I") (by decide +kernel)) (fun _ h9 => h9) dX9_night_18 ?_
    refine lv_iload_n hx hb dX9_night_21 rfl (lv_at hl 1 rfl) ?_
    refine lv_icmp_ne (tgt := 28) hx hb dX9_night_22 (by decide) (fun c6 => ?_) (fun c6 => ?_)
    · rw [if_neg c6] at hE
      refine lv_aload_n hx hb dX9_night_28 rfl (lv_at hl 0 rfl) ?_
      obtain ⟨v7, hv7, hE⟩ := Option.bind_eq_some_iff.mp hE
      refine r_gR 3 (C := RX9) (T := TX9) (N := 10) (ci := 8) hx hb hts (by decide +kernel) hown hK hH hv7 rfl (by decide) (hts (.fieldLink RX9 29 "KindStreets" "now" "LKindStreets$Now;") (by decide +kernel)) (fun _ h9 => h9) dX9_night_29 ?_
      obtain ⟨z8, hz8, hE⟩ := Option.bind_eq_some_iff.mp hE
      refine r_callV (va_runV (As := []) (rest := []) ⟨hx, hb, hml, hown, hts⟩ (sX3_remember l b0 D cA hz8) (cwV 0 hts gX9_night_X3_remember rfl rfl rfl (by decide +kernel) (rm_ok (by decide) (by decide))) (pre_V (ci := 3) hK hH (oX3_remember hz8) rfl) rfl rfl hl.1 rfl (lv_room (Nat.le_of_ble_eq_true rfl)) dX9_night_32 ⟨Nat.zero_le _, Nat.zero_le _⟩) hS (fun H locs hH hS => ?_)
      refine lv_aload_n hx hb dX9_night_35 rfl (lv_at hl 0 rfl) ?_
      obtain ⟨v9, hv9, hE⟩ := Option.bind_eq_some_iff.mp hE
      refine r_gR 3 (C := RX9) (T := TX9) (N := 10) (ci := 8) hx hb hts (by decide +kernel) hown hK hH hv9 rfl (by decide) (hts (.fieldLink RX9 29 "KindStreets" "now" "LKindStreets$Now;") (by decide +kernel)) (fun _ h9 => h9) dX9_night_36 ?_
      obtain ⟨v10, hv10, hE⟩ := Option.bind_eq_some_iff.mp hE
      refine r_gR 0 (C := RX3) (T := TX3) (N := 3) (ci := 3) hx hb hts (by decide +kernel) hown hK hH hv10 rfl (by decide) (hts (.fieldLink RX9 98 "KindStreets$Now" "moment" "LKindStreets$Moment;") (by decide +kernel)) (fun _ h9 => h9) dX9_night_39 ?_
      refine lv_iload_n hx hb dX9_night_42 rfl (lv_at hl 1 rfl) ?_
      obtain ⟨L11, hL11, hE⟩ := Option.bind_eq_some_iff.mp hE
      refine r_p 4 (v := .int x1) (ty := .int) (C := RX2) (T := TX2) (N := 5) (ci := 2) hx hb hts (by decide +kernel) tyX2 tyX2_ok nmX2 hown hK hH hS hL11 rfl (by decide) (hts (.fieldLink RX9 144 "KindStreets$Moment" "night" "I") (by decide +kernel)) (fun _ h9 => h9) rfl (by decide +kernel) rfl rfl dX9_night_43 (fun H locs hH hS => ?_)
      refine lv_aload_n hx hb dX9_night_46 rfl (lv_at hl 0 rfl) ?_
      obtain ⟨z12, hz12, hE⟩ := Option.bind_eq_some_iff.mp hE
      refine r_callI (va_runV (As := []) (rest := []) ⟨hx, hb, hml, hown, hts⟩ (sX9_widthsTogether l b0 D cA hz12) (cwV 0 hts gX9_night_X9_widthsTogether rfl rfl rfl (by decide +kernel) (rm_ok (by decide) (by decide))) (pre_V (ci := 8) hK hH (oX9_widthsTogether hz12) rfl) rfl rfl hl.1 rfl (lv_room (Nat.le_of_ble_eq_true rfl)) dX9_night_47 ⟨Nat.zero_le _, Nat.zero_le _⟩) hS (fun H locs hH hS => ?_)
      have hZ := Option.some.inj hE
      subst hZ
      exact W.iret (v := z12.1) hx hb hr (fun t ht hW => ⟨rfl, by rw [ht]; exact hH, hS.F ht⟩) hS.2.2 dX9_night_50
    · rw [if_pos c6] at hE
      refine lv_bipush (v := (-2)) hx hb dX9_night_25 (by decide) ?_
      have hZ := Option.some.inj hE
      subst hZ
      exact W.iret (v := (-2)) hx hb hr (fun t ht hW => ⟨rfl, by rw [ht]; exact hH, hS.F ht⟩) hS.2.2 dX9_night_27
  · rw [if_pos c2] at hE
    refine lv_iconst (v := (-1)) hx hb dX9_night_9 (by decide) ?_
    have hZ := Option.some.inj hE
    subst hZ
    exact W.iret (v := (-1)) hx hb hr (fun t ht hW => ⟨rfl, by rw [ht]; exact hH, hS.F ht⟩) hS.2.2 dX9_night_10
-- X9_undo
def fX9_undo (F : Nat) (L : HL) (a0 : Nat) : Option (Int32 × HL) := (o_ob L a0 8).bind fun _ => (o_gR L a0 8 3).bind fun v1 => (o_gI L v1 3 2).bind fun v2 => if v2 = 0 then (some ((-2), L)) else ((o_gR L a0 8 3).bind fun v4 => (fX3_recall F L v4).bind fun z5 => (o_gR z5 a0 8 3).bind fun v6 => (o_gI z5 v6 3 2).bind fun v7 => some (v7, z5))
theorem oX9_undo {F : Nat} {L : HL} {a0 : Nat} {z : (Int32 × HL)} (hE : fX9_undo F L a0 = some z) : o_ob L a0 8 = some () := by
  obtain ⟨_, h, _⟩ := Option.bind_eq_some_iff.mp hE
  exact h
set_option maxHeartbeats 4000000 in
set_option maxRecDepth 100000 in
theorem sX9_undo (l : Launch) (b0 : Nat) (D : va_G) (cA : Nat → ClassId) {F : Nat} {L : HL} {a0 : Nat} {z : (Int32 × HL)} (hE : fX9_undo F L a0 = some z) : Met l yX9_undo wsX9_undo (RM 3 0 0) (Pk b0 D cA [.ref (b0 + a0)] L) (Qk b0 D cA (some (.int z.1)) z.2) 0 0 (Ab b0) := by
  refine Met.ofW (cc := cX9_undo) (maxL := 1) (ret := (some .int)) (by decide) rfl ?_
  intro p ev s m args below meth c s₁ B hml hv
  obtain ⟨rfl, hH, hK⟩ := hv
  have hx := B.exec
  have hb := B.bytes
  have hr := B.returns
  have hts := atoms_spec (ws := wsX9_undo) B.pre
  have hown : s.vm.findClass RX9 = some m.cls := findClass_of_methodNamed B.named
  have hlocks := B.notSynchronized
  have hC : Cx D cA p s m _ meth c cX9_undo 1 RX9 wsX9_undo (some .int) := ⟨hx, hb, hml, hown, hts, hK, hr, hlocks⟩
  have hS : va_S (Ab b0) s.heap s.heap [] := va_S.rf
  have hl := lv_entry ([.ref (b0 + a0)]) (n := 1) (Nat.le_of_ble_eq_true rfl)
  rw [lg_entry_eq]
  generalize (lg_sl ([.ref (b0 + a0)]) ++ List.replicate (1 - (lg_sl ([.ref (b0 + a0)])).length) Slot.unset).toArray = ls at hl ⊢
  have hl : lv_has ls 1 [(0, .ref (b0 + a0))] := hl
  unfold fX9_undo at hE
  obtain ⟨_, _, hE⟩ := Option.bind_eq_some_iff.mp hE
  refine lv_aload_n hx hb dX9_undo_0 rfl (lv_at hl 0 rfl) ?_
  obtain ⟨v1, hv1, hE⟩ := Option.bind_eq_some_iff.mp hE
  refine r_gR 3 (C := RX9) (T := TX9) (N := 10) (ci := 8) hx hb hts (by decide +kernel) hown hK hH hv1 rfl (by decide) (hts (.fieldLink RX9 29 "KindStreets" "now" "LKindStreets$Now;") (by decide +kernel)) (fun _ h9 => h9) dX9_undo_1 ?_
  obtain ⟨v2, hv2, hE⟩ := Option.bind_eq_some_iff.mp hE
  refine r_gI 2 (C := RX3) (T := TX3) (N := 3) (ci := 3) hx hb hts (by decide +kernel) hown hK hH hv2 rfl (by decide) (hts (.fieldLink RX9 151 "KindStreets$Now" "known" "I") (by decide +kernel)) (fun _ h9 => h9) dX9_undo_4 ?_
  refine lv_if_ne (tgt := 13) hx hb dX9_undo_7 (by decide) (fun c3 => ?_) (fun c3 => ?_)
  · rw [if_neg c3] at hE
    refine lv_aload_n hx hb dX9_undo_13 rfl (lv_at hl 0 rfl) ?_
    obtain ⟨v4, hv4, hE⟩ := Option.bind_eq_some_iff.mp hE
    refine r_gR 3 (C := RX9) (T := TX9) (N := 10) (ci := 8) hx hb hts (by decide +kernel) hown hK hH hv4 rfl (by decide) (hts (.fieldLink RX9 29 "KindStreets" "now" "LKindStreets$Now;") (by decide +kernel)) (fun _ h9 => h9) dX9_undo_14 ?_
    obtain ⟨z5, hz5, hE⟩ := Option.bind_eq_some_iff.mp hE
    refine r_callV (va_runV (As := []) (rest := []) ⟨hx, hb, hml, hown, hts⟩ (sX3_recall l b0 D cA hz5) (cwV 0 hts gX9_undo_X3_recall rfl rfl rfl (by decide +kernel) (rm_ok (by decide) (by decide))) (pre_V (ci := 3) hK hH (oX3_recall hz5) rfl) rfl rfl hl.1 rfl (lv_room (Nat.le_of_ble_eq_true rfl)) dX9_undo_17 ⟨Nat.zero_le _, Nat.zero_le _⟩) hS (fun H locs hH hS => ?_)
    refine lv_aload_n hx hb dX9_undo_20 rfl (lv_at hl 0 rfl) ?_
    obtain ⟨v6, hv6, hE⟩ := Option.bind_eq_some_iff.mp hE
    refine r_gR 3 (C := RX9) (T := TX9) (N := 10) (ci := 8) hx hb hts (by decide +kernel) hown hK hH hv6 rfl (by decide) (hts (.fieldLink RX9 29 "KindStreets" "now" "LKindStreets$Now;") (by decide +kernel)) (fun _ h9 => h9) dX9_undo_21 ?_
    obtain ⟨v7, hv7, hE⟩ := Option.bind_eq_some_iff.mp hE
    refine r_gI 2 (C := RX3) (T := TX3) (N := 3) (ci := 3) hx hb hts (by decide +kernel) hown hK hH hv7 rfl (by decide) (hts (.fieldLink RX9 151 "KindStreets$Now" "known" "I") (by decide +kernel)) (fun _ h9 => h9) dX9_undo_24 ?_
    have hZ := Option.some.inj hE
    subst hZ
    exact W.iret (v := v7) hx hb hr (fun t ht hW => ⟨rfl, by rw [ht]; exact hH, hS.F ht⟩) hS.2.2 dX9_undo_27
  · rw [if_pos c3] at hE
    refine lv_bipush (v := (-2)) hx hb dX9_undo_10 (by decide) ?_
    have hZ := Option.some.inj hE
    subst hZ
    exact W.iret (v := (-2)) hx hb hr (fun t ht hW => ⟨rfl, by rw [ht]; exact hH, hS.F ht⟩) hS.2.2 dX9_undo_12
-- X9_now
def fX9_now (F : Nat) (L : HL) (a0 : Nat) (x1 : Int32) : Option (Int32 × HL) := (o_ob L a0 8).bind fun _ => if x1 = 0 then ((o_gR L a0 8 3).bind fun v2 => (o_gR L v2 3 0).bind fun v3 => (o_gI L v3 2 4).bind fun v4 => some (v4, L)) else if x1 = 1 then ((fX9_widthsTogether F L a0).bind fun z6 => some (z6.1, z6.2)) else if x1 = 2 then ((fX9_streetsWithHidden F L a0).bind fun z8 => some (z8.1, z8.2)) else some ((-1), L)
theorem oX9_now {F : Nat} {L : HL} {a0 : Nat} {x1 : Int32} {z : (Int32 × HL)} (hE : fX9_now F L a0 x1 = some z) : o_ob L a0 8 = some () := by
  obtain ⟨_, h, _⟩ := Option.bind_eq_some_iff.mp hE
  exact h
set_option maxHeartbeats 4000000 in
set_option maxRecDepth 100000 in
theorem sX9_now (l : Launch) (b0 : Nat) (D : va_G) (cA : Nat → ClassId) {F : Nat} {L : HL} {a0 : Nat} {x1 : Int32} {z : (Int32 × HL)} (hE : fX9_now F L a0 x1 = some z) : Met l yX9_now wsX9_now (RM 4 0 0) (Pk b0 D cA [.ref (b0 + a0), .int x1] L) (Qk b0 D cA (some (.int z.1)) z.2) 0 0 (Ab b0) := by
  refine Met.ofW (cc := cX9_now) (maxL := 2) (ret := (some .int)) (by decide) rfl ?_
  intro p ev s m args below meth c s₁ B hml hv
  obtain ⟨rfl, hH, hK⟩ := hv
  have hx := B.exec
  have hb := B.bytes
  have hr := B.returns
  have hts := atoms_spec (ws := wsX9_now) B.pre
  have hown : s.vm.findClass RX9 = some m.cls := findClass_of_methodNamed B.named
  have hlocks := B.notSynchronized
  have hC : Cx D cA p s m _ meth c cX9_now 2 RX9 wsX9_now (some .int) := ⟨hx, hb, hml, hown, hts, hK, hr, hlocks⟩
  have hS : va_S (Ab b0) s.heap s.heap [] := va_S.rf
  have hl := lv_entry ([.ref (b0 + a0), .int x1]) (n := 2) (Nat.le_of_ble_eq_true rfl)
  rw [lg_entry_eq]
  generalize (lg_sl ([.ref (b0 + a0), .int x1]) ++ List.replicate (2 - (lg_sl ([.ref (b0 + a0), .int x1])).length) Slot.unset).toArray = ls at hl ⊢
  have hl : lv_has ls 2 [(0, .ref (b0 + a0)), (1, .int x1)] := hl
  unfold fX9_now at hE
  obtain ⟨_, _, hE⟩ := Option.bind_eq_some_iff.mp hE
  refine lv_iload_n hx hb dX9_now_0 rfl (lv_at hl 1 rfl) ?_
  by_cases c1 : x1 = 0
  · rw [if_pos c1] at hE
    refine lv_tableIn (tgt := 28) (off := 27) hx hb dX9_now_1 (by rw [c1]; decide) (by rw [c1]; decide) (by rw [c1]; rfl) (by decide) ?_
    refine lv_aload_n hx hb dX9_now_28 rfl (lv_at hl 0 rfl) ?_
    obtain ⟨v2, hv2, hE⟩ := Option.bind_eq_some_iff.mp hE
    refine r_gR 3 (C := RX9) (T := TX9) (N := 10) (ci := 8) hx hb hts (by decide +kernel) hown hK hH hv2 rfl (by decide) (hts (.fieldLink RX9 29 "KindStreets" "now" "LKindStreets$Now;") (by decide +kernel)) (fun _ h9 => h9) dX9_now_29 ?_
    obtain ⟨v3, hv3, hE⟩ := Option.bind_eq_some_iff.mp hE
    refine r_gR 0 (C := RX3) (T := TX3) (N := 3) (ci := 3) hx hb hts (by decide +kernel) hown hK hH hv3 rfl (by decide) (hts (.fieldLink RX9 98 "KindStreets$Now" "moment" "LKindStreets$Moment;") (by decide +kernel)) (fun _ h9 => h9) dX9_now_32 ?_
    obtain ⟨v4, hv4, hE⟩ := Option.bind_eq_some_iff.mp hE
    refine r_gI 4 (C := RX2) (T := TX2) (N := 5) (ci := 2) hx hb hts (by decide +kernel) hown hK hH hv4 rfl (by decide) (hts (.fieldLink RX9 144 "KindStreets$Moment" "night" "I") (by decide +kernel)) (fun _ h9 => h9) dX9_now_35 ?_
    have hZ := Option.some.inj hE
    subst hZ
    exact W.iret (v := v4) hx hb hr (fun t ht hW => ⟨rfl, by rw [ht]; exact hH, hS.F ht⟩) hS.2.2 dX9_now_38
  rw [if_neg c1] at hE
  by_cases c5 : x1 = 1
  · rw [if_pos c5] at hE
    refine lv_tableIn (tgt := 39) (off := 38) hx hb dX9_now_1 (by rw [c5]; decide) (by rw [c5]; decide) (by rw [c5]; rfl) (by decide) ?_
    refine lv_aload_n hx hb dX9_now_39 rfl (lv_at hl 0 rfl) ?_
    obtain ⟨z6, hz6, hE⟩ := Option.bind_eq_some_iff.mp hE
    refine r_callI (va_runV (As := []) (rest := []) ⟨hx, hb, hml, hown, hts⟩ (sX9_widthsTogether l b0 D cA hz6) (cwV 0 hts gX9_now_X9_widthsTogether rfl rfl rfl (by decide +kernel) (rm_ok (by decide) (by decide))) (pre_V (ci := 8) hK hH (oX9_widthsTogether hz6) rfl) rfl rfl hl.1 rfl (lv_room (Nat.le_of_ble_eq_true rfl)) dX9_now_40 ⟨Nat.zero_le _, Nat.zero_le _⟩) hS (fun H locs hH hS => ?_)
    have hZ := Option.some.inj hE
    subst hZ
    exact W.iret (v := z6.1) hx hb hr (fun t ht hW => ⟨rfl, by rw [ht]; exact hH, hS.F ht⟩) hS.2.2 dX9_now_43
  rw [if_neg c5] at hE
  by_cases c7 : x1 = 2
  · rw [if_pos c7] at hE
    refine lv_tableIn (tgt := 44) (off := 43) hx hb dX9_now_1 (by rw [c7]; decide) (by rw [c7]; decide) (by rw [c7]; rfl) (by decide) ?_
    refine lv_aload_n hx hb dX9_now_44 rfl (lv_at hl 0 rfl) ?_
    obtain ⟨z8, hz8, hE⟩ := Option.bind_eq_some_iff.mp hE
    refine r_callI (va_runV (As := []) (rest := []) ⟨hx, hb, hml, hown, hts⟩ (sX9_streetsWithHidden l b0 D cA hz8) (cwV 0 hts gX9_now_X9_streetsWithHidden rfl rfl rfl (by decide +kernel) (rm_ok (by decide) (by decide))) (pre_V (ci := 8) hK hH (oX9_streetsWithHidden hz8) rfl) rfl rfl hl.1 rfl (lv_room (Nat.le_of_ble_eq_true rfl)) dX9_now_45 ⟨Nat.zero_le _, Nat.zero_le _⟩) hS (fun H locs hH hS => ?_)
    have hZ := Option.some.inj hE
    subst hZ
    exact W.iret (v := z8.1) hx hb hr (fun t ht hW => ⟨rfl, by rw [ht]; exact hH, hS.F ht⟩) hS.2.2 dX9_now_48
  rw [if_neg c7] at hE
  refine lv_tableOut (tgt := 49) hx hb dX9_now_1 (by have q0 := sw_ne (k := 0) (by decide) c1; have q1 := sw_ne (k := 1) (by decide) c5; have q2 := sw_ne (k := 2) (by decide) c7; omega) (by decide) ?_
  refine lv_iconst (v := (-1)) hx hb dX9_now_49 (by decide) ?_
  have hZ := Option.some.inj hE
  subst hZ
  exact W.iret (v := (-1)) hx hb hr (fun t ht hW => ⟨rfl, by rw [ht]; exact hH, hS.F ht⟩) hS.2.2 dX9_now_50
-- X9_widest
def fX9_widest (F : Nat) (L : HL) (a0 : Nat) (x1 : Int32) (x2 : Int32) : Option (Int32 × HL) := (o_ob L a0 8).bind fun _ => (fX9_areUnlikeYards F L a0 x1 x2).bind fun z1 => if z1.1 = 0 then (some ((-1), z1.2)) else ((fX9_waysNow F z1.2 a0).bind fun z3 => (fX8_widestWay F z3.2 z3.1 x1 x2).bind fun z4 => some (z4.1, z4.2))
theorem oX9_widest {F : Nat} {L : HL} {a0 : Nat} {x1 : Int32} {x2 : Int32} {z : (Int32 × HL)} (hE : fX9_widest F L a0 x1 x2 = some z) : o_ob L a0 8 = some () := by
  obtain ⟨_, h, _⟩ := Option.bind_eq_some_iff.mp hE
  exact h
set_option maxHeartbeats 4000000 in
set_option maxRecDepth 100000 in
theorem sX9_widest (l : Launch) (b0 : Nat) (D : va_G) (cA : Nat → ClassId) {F : Nat} {L : HL} {a0 : Nat} {x1 : Int32} {x2 : Int32} {z : (Int32 × HL)} (hE : fX9_widest F L a0 x1 x2 = some z) : Met l yX9_widest wsX9_widest (RM 5 0 0) (Pk b0 D cA [.ref (b0 + a0), .int x1, .int x2] L) (Qk b0 D cA (some (.int z.1)) z.2) 0 0 (Ab b0) := by
  refine Met.ofW (cc := cX9_widest) (maxL := 3) (ret := (some .int)) (by decide) rfl ?_
  intro p ev s m args below meth c s₁ B hml hv
  obtain ⟨rfl, hH, hK⟩ := hv
  have hx := B.exec
  have hb := B.bytes
  have hr := B.returns
  have hts := atoms_spec (ws := wsX9_widest) B.pre
  have hown : s.vm.findClass RX9 = some m.cls := findClass_of_methodNamed B.named
  have hlocks := B.notSynchronized
  have hC : Cx D cA p s m _ meth c cX9_widest 3 RX9 wsX9_widest (some .int) := ⟨hx, hb, hml, hown, hts, hK, hr, hlocks⟩
  have hS : va_S (Ab b0) s.heap s.heap [] := va_S.rf
  have hl := lv_entry ([.ref (b0 + a0), .int x1, .int x2]) (n := 3) (Nat.le_of_ble_eq_true rfl)
  rw [lg_entry_eq]
  generalize (lg_sl ([.ref (b0 + a0), .int x1, .int x2]) ++ List.replicate (3 - (lg_sl ([.ref (b0 + a0), .int x1, .int x2])).length) Slot.unset).toArray = ls at hl ⊢
  have hl : lv_has ls 3 [(0, .ref (b0 + a0)), (1, .int x1), (2, .int x2)] := hl
  unfold fX9_widest at hE
  obtain ⟨_, _, hE⟩ := Option.bind_eq_some_iff.mp hE
  refine lv_aload_n hx hb dX9_widest_0 rfl (lv_at hl 0 rfl) ?_
  refine lv_iload_n hx hb dX9_widest_1 rfl (lv_at hl 1 rfl) ?_
  refine lv_iload_n hx hb dX9_widest_2 rfl (lv_at hl 2 rfl) ?_
  obtain ⟨z1, hz1, hE⟩ := Option.bind_eq_some_iff.mp hE
  refine r_callI (va_runV (As := [.int x1, .int x2]) (rest := []) ⟨hx, hb, hml, hown, hts⟩ (sX9_areUnlikeYards l b0 D cA hz1) (cwV 2 hts gX9_widest_X9_areUnlikeYards rfl rfl rfl (by decide +kernel) (rm_ok (by decide) (by decide))) (pre_V (ci := 8) hK hH (oX9_areUnlikeYards hz1) rfl) rfl rfl hl.1 rfl (lv_room (Nat.le_of_ble_eq_true rfl)) dX9_widest_3 ⟨Nat.zero_le _, Nat.zero_le _⟩) hS (fun H locs hH hS => ?_)
  refine lv_if_eq (tgt := 21) hx hb dX9_widest_6 (by decide) (fun c2 => ?_) (fun c2 => ?_)
  · rw [if_pos c2] at hE
    refine lv_iconst (v := (-1)) hx hb dX9_widest_21 (by decide) ?_
    have hZ := Option.some.inj hE
    subst hZ
    exact W.iret (v := (-1)) hx hb hr (fun t ht hW => ⟨rfl, by rw [ht]; exact hH, hS.F ht⟩) hS.2.2 dX9_widest_22
  · rw [if_neg c2] at hE
    refine lv_aload_n hx hb dX9_widest_9 rfl (lv_at hl 0 rfl) ?_
    obtain ⟨z3, hz3, hE⟩ := Option.bind_eq_some_iff.mp hE
    refine r_callR (va_runV (As := []) (rest := []) ⟨hx, hb, hml, hown, hts⟩ (sX9_waysNow l b0 D cA hz3) (cwV 0 hts gX9_widest_X9_waysNow rfl rfl rfl (by decide +kernel) (rm_ok (by decide) (by decide))) (pre_V (ci := 8) hK hH (oX9_waysNow hz3) rfl) rfl rfl hl.1 rfl (lv_room (Nat.le_of_ble_eq_true rfl)) dX9_widest_10 ⟨Nat.zero_le _, Nat.zero_le _⟩) hS (fun H locs hH hS => ?_)
    refine lv_iload_n hx hb dX9_widest_13 rfl (lv_at hl 1 rfl) ?_
    refine lv_iload_n hx hb dX9_widest_14 rfl (lv_at hl 2 rfl) ?_
    obtain ⟨z4, hz4, hE⟩ := Option.bind_eq_some_iff.mp hE
    refine r_callI (va_runV (As := [.int x1, .int x2]) (rest := []) ⟨hx, hb, hml, hown, hts⟩ (sX8_widestWay l b0 D cA hz4) (cwV 2 hts gX9_widest_X8_widestWay rfl rfl rfl (by decide +kernel) (rm_ok (by decide) (by decide))) (pre_V (ci := 7) hK hH (oX8_widestWay hz4) rfl) rfl rfl hl.1 rfl (lv_room (Nat.le_of_ble_eq_true rfl)) dX9_widest_15 ⟨Nat.zero_le _, Nat.zero_le _⟩) hS (fun H locs hH hS => ?_)
    refine lv_goto (tgt := 22) hx hb dX9_widest_18 (by decide) ?_
    have hZ := Option.some.inj hE
    subst hZ
    exact W.iret (v := z4.1) hx hb hr (fun t ht hW => ⟨rfl, by rw [ht]; exact hH, hS.F ht⟩) hS.2.2 dX9_widest_22
-- X9_way
def fX9_way_b19 (F : Nat)  (L : HL) : Option (Int32 × HL) := some ((-1), L)
set_option maxHeartbeats 4000000 in
set_option maxRecDepth 100000 in
theorem sX9_way_b19 {b0 : Nat} {D : va_G} {cA : Nat → ClassId} {p : Program} {l : Launch} {ev : Env} {s : State} {m : MethodId} {args : Array Value} {below : List Frame} {meth : Method} {c : Code} {F : Nat} {z : (Int32 × HL)}  {L : HL} (hC : Cx D cA p s m args meth c cX9_way 4 RX9 wsX9_way (some .int)) (hE : fX9_way_b19 F  L = some z) : WB b0 D cA p l ev (RM 5 0 0) s m args below meth c 4 0 0 (MQ below (Qk b0 D cA (some (.int z.1)) z.2) args s 0 0 (Ab b0)) 19 [] [] L := by
  obtain ⟨hx, hb, hml, hown, hts, hK, hr, hlocks⟩ := id hC
  intro H locs ls hH hS hl
  unfold fX9_way_b19 at hE
  refine lv_iconst (v := (-1)) hx hb dX9_way_19 (by decide) ?_
  have hZ := Option.some.inj hE
  subst hZ
  exact W.iret (v := (-1)) hx hb hr (fun t ht hW => ⟨rfl, by rw [ht]; exact hH, hS.F ht⟩) hS.2.2 dX9_way_20
def fX9_way (F : Nat) (L : HL) (a0 : Nat) (x1 : Int32) (x2 : Int32) (x3 : Int32) : Option (Int32 × HL) := (o_ob L a0 8).bind fun _ => (fX9_areUnlikeYards F L a0 x1 x2).bind fun z1 => if z1.1 = 0 then (fX9_way_b19 F z1.2) else ((fX9_isWithin F z1.2 x3 1 10).bind fun z3 => if z3.1 = 0 then (fX9_way_b19 F z3.2) else ((fX9_waysNow F z3.2 a0).bind fun z5 => (fX8_fewestStreets F z5.2 z5.1 x1 x2 x3).bind fun z6 => some (z6.1, z6.2)))
theorem oX9_way {F : Nat} {L : HL} {a0 : Nat} {x1 : Int32} {x2 : Int32} {x3 : Int32} {z : (Int32 × HL)} (hE : fX9_way F L a0 x1 x2 x3 = some z) : o_ob L a0 8 = some () := by
  obtain ⟨_, h, _⟩ := Option.bind_eq_some_iff.mp hE
  exact h
set_option maxHeartbeats 4000000 in
set_option maxRecDepth 100000 in
theorem sX9_way (l : Launch) (b0 : Nat) (D : va_G) (cA : Nat → ClassId) {F : Nat} {L : HL} {a0 : Nat} {x1 : Int32} {x2 : Int32} {x3 : Int32} {z : (Int32 × HL)} (hE : fX9_way F L a0 x1 x2 x3 = some z) : Met l yX9_way wsX9_way (RM 5 0 0) (Pk b0 D cA [.ref (b0 + a0), .int x1, .int x2, .int x3] L) (Qk b0 D cA (some (.int z.1)) z.2) 0 0 (Ab b0) := by
  refine Met.ofW (cc := cX9_way) (maxL := 4) (ret := (some .int)) (by decide) rfl ?_
  intro p ev s m args below meth c s₁ B hml hv
  obtain ⟨rfl, hH, hK⟩ := hv
  have hx := B.exec
  have hb := B.bytes
  have hr := B.returns
  have hts := atoms_spec (ws := wsX9_way) B.pre
  have hown : s.vm.findClass RX9 = some m.cls := findClass_of_methodNamed B.named
  have hlocks := B.notSynchronized
  have hC : Cx D cA p s m _ meth c cX9_way 4 RX9 wsX9_way (some .int) := ⟨hx, hb, hml, hown, hts, hK, hr, hlocks⟩
  have hS : va_S (Ab b0) s.heap s.heap [] := va_S.rf
  have hl := lv_entry ([.ref (b0 + a0), .int x1, .int x2, .int x3]) (n := 4) (Nat.le_of_ble_eq_true rfl)
  rw [lg_entry_eq]
  generalize (lg_sl ([.ref (b0 + a0), .int x1, .int x2, .int x3]) ++ List.replicate (4 - (lg_sl ([.ref (b0 + a0), .int x1, .int x2, .int x3])).length) Slot.unset).toArray = ls at hl ⊢
  have hl : lv_has ls 4 [(0, .ref (b0 + a0)), (1, .int x1), (2, .int x2), (3, .int x3)] := hl
  unfold fX9_way at hE
  obtain ⟨_, _, hE⟩ := Option.bind_eq_some_iff.mp hE
  refine lv_aload_n hx hb dX9_way_0 rfl (lv_at hl 0 rfl) ?_
  refine lv_iload_n hx hb dX9_way_1 rfl (lv_at hl 1 rfl) ?_
  refine lv_iload_n hx hb dX9_way_2 rfl (lv_at hl 2 rfl) ?_
  obtain ⟨z1, hz1, hE⟩ := Option.bind_eq_some_iff.mp hE
  refine r_callI (va_runV (As := [.int x1, .int x2]) (rest := []) ⟨hx, hb, hml, hown, hts⟩ (sX9_areUnlikeYards l b0 D cA hz1) (cwV 2 hts gX9_way_X9_areUnlikeYards rfl rfl rfl (by decide +kernel) (rm_ok (by decide) (by decide))) (pre_V (ci := 8) hK hH (oX9_areUnlikeYards hz1) rfl) rfl rfl hl.1 rfl (lv_room (Nat.le_of_ble_eq_true rfl)) dX9_way_3 ⟨Nat.zero_le _, Nat.zero_le _⟩) hS (fun H locs hH hS => ?_)
  refine lv_if_eq (tgt := 19) hx hb dX9_way_6 (by decide) (fun c2 => ?_) (fun c2 => ?_)
  · rw [if_pos c2] at hE
    exact sX9_way_b19 (F := F) hC hE _ _ _ hH hS (lv_sub hl [] rfl)
  · rw [if_neg c2] at hE
    refine lv_iload_n hx hb dX9_way_9 rfl (lv_at hl 3 rfl) ?_
    refine lv_iconst (v := 1) hx hb dX9_way_10 (by decide) ?_
    refine lv_bipush (v := 10) hx hb dX9_way_11 (by decide) ?_
    obtain ⟨z3, hz3, hE⟩ := Option.bind_eq_some_iff.mp hE
    refine r_callI (va_runS (As := [.int x3, .int 1, .int 10]) (rest := []) ⟨hx, hb, hml, hown, hts⟩ (sX9_isWithin l b0 D cA hz3) (va_cwS 3 hts gX9_way_X9_isWithin rfl rfl rfl (by decide +kernel) (rm_ok (by decide) (by decide))) (pre_S hK hH) rfl rfl hl.1 rfl (lv_room (Nat.le_of_ble_eq_true rfl)) dX9_way_13 ⟨Nat.zero_le _, Nat.zero_le _⟩) hS (fun H locs hH hS => ?_)
    refine lv_if_ne (tgt := 21) hx hb dX9_way_16 (by decide) (fun c4 => ?_) (fun c4 => ?_)
    · rw [if_neg c4] at hE
      refine lv_aload_n hx hb dX9_way_21 rfl (lv_at hl 0 rfl) ?_
      obtain ⟨z5, hz5, hE⟩ := Option.bind_eq_some_iff.mp hE
      refine r_callR (va_runV (As := []) (rest := []) ⟨hx, hb, hml, hown, hts⟩ (sX9_waysNow l b0 D cA hz5) (cwV 0 hts gX9_way_X9_waysNow rfl rfl rfl (by decide +kernel) (rm_ok (by decide) (by decide))) (pre_V (ci := 8) hK hH (oX9_waysNow hz5) rfl) rfl rfl hl.1 rfl (lv_room (Nat.le_of_ble_eq_true rfl)) dX9_way_22 ⟨Nat.zero_le _, Nat.zero_le _⟩) hS (fun H locs hH hS => ?_)
      refine lv_iload_n hx hb dX9_way_25 rfl (lv_at hl 1 rfl) ?_
      refine lv_iload_n hx hb dX9_way_26 rfl (lv_at hl 2 rfl) ?_
      refine lv_iload_n hx hb dX9_way_27 rfl (lv_at hl 3 rfl) ?_
      obtain ⟨z6, hz6, hE⟩ := Option.bind_eq_some_iff.mp hE
      refine r_callI (va_runV (As := [.int x1, .int x2, .int x3]) (rest := []) ⟨hx, hb, hml, hown, hts⟩ (sX8_fewestStreets l b0 D cA hz6) (cwV 3 hts gX9_way_X8_fewestStreets rfl rfl rfl (by decide +kernel) (rm_ok (by decide) (by decide))) (pre_V (ci := 7) hK hH (oX8_fewestStreets hz6) rfl) rfl rfl hl.1 rfl (lv_room (Nat.le_of_ble_eq_true rfl)) dX9_way_28 ⟨Nat.zero_le _, Nat.zero_le _⟩) hS (fun H locs hH hS => ?_)
      have hZ := Option.some.inj hE
      subst hZ
      exact W.iret (v := z6.1) hx hb hr (fun t ht hW => ⟨rfl, by rw [ht]; exact hH, hS.F ht⟩) hS.2.2 dX9_way_31
    · rw [if_pos c4] at hE
      exact sX9_way_b19 (F := F) hC hE _ _ _ hH hS (lv_sub hl [] rfl)
-- X9_flow
def fX9_flow_b18 (F : Nat)  (L : HL) : Option (Int32 × HL) := some ((-1), L)
set_option maxHeartbeats 4000000 in
set_option maxRecDepth 100000 in
theorem sX9_flow_b18 {b0 : Nat} {D : va_G} {cA : Nat → ClassId} {p : Program} {l : Launch} {ev : Env} {s : State} {m : MethodId} {args : Array Value} {below : List Frame} {meth : Method} {c : Code} {F : Nat} {z : (Int32 × HL)}  {L : HL} (hC : Cx D cA p s m args meth c cX9_flow 5 RX9 wsX9_flow (some .int)) (hE : fX9_flow_b18 F  L = some z) : WB b0 D cA p l ev (RM 5 0 0) s m args below meth c 5 0 0 (MQ below (Qk b0 D cA (some (.int z.1)) z.2) args s 0 0 (Ab b0)) 18 [] [] L := by
  obtain ⟨hx, hb, hml, hown, hts, hK, hr, hlocks⟩ := id hC
  intro H locs ls hH hS hl
  unfold fX9_flow_b18 at hE
  refine lv_iconst (v := (-1)) hx hb dX9_flow_18 (by decide) ?_
  have hZ := Option.some.inj hE
  subst hZ
  exact W.iret (v := (-1)) hx hb hr (fun t ht hW => ⟨rfl, by rw [ht]; exact hH, hS.F ht⟩) hS.2.2 dX9_flow_19
def fX9_flow (F : Nat) (L : HL) (a0 : Nat) (x1 : Int32) (x2 : Int32) (x3 : Int32) : Option (Int32 × HL) := (o_ob L a0 8).bind fun _ => (fX9_areUnlikeYards F L a0 x1 x2).bind fun z1 => if z1.1 = 0 then (fX9_flow_b18 F z1.2) else ((fX9_isWithin F z1.2 x3 0 1).bind fun z3 => if z3.1 = 0 then (fX9_flow_b18 F z3.2) else ((fX9_waysNow F z3.2 a0).bind fun z5 => (fX8_leastCut F z5.2 z5.1 x1 x2).bind fun z6 => if x3 = 0 then ((fX8_widthIn F z6.2 z6.1).bind fun z9 => some (z9.1, z9.2)) else ((fX8_streetsIn F z6.2 z6.1).bind fun z8 => some (z8.1, z8.2))))
theorem oX9_flow {F : Nat} {L : HL} {a0 : Nat} {x1 : Int32} {x2 : Int32} {x3 : Int32} {z : (Int32 × HL)} (hE : fX9_flow F L a0 x1 x2 x3 = some z) : o_ob L a0 8 = some () := by
  obtain ⟨_, h, _⟩ := Option.bind_eq_some_iff.mp hE
  exact h
set_option maxHeartbeats 4000000 in
set_option maxRecDepth 100000 in
theorem sX9_flow (l : Launch) (b0 : Nat) (D : va_G) (cA : Nat → ClassId) {F : Nat} {L : HL} {a0 : Nat} {x1 : Int32} {x2 : Int32} {x3 : Int32} {z : (Int32 × HL)} (hE : fX9_flow F L a0 x1 x2 x3 = some z) : Met l yX9_flow wsX9_flow (RM 5 0 0) (Pk b0 D cA [.ref (b0 + a0), .int x1, .int x2, .int x3] L) (Qk b0 D cA (some (.int z.1)) z.2) 0 0 (Ab b0) := by
  refine Met.ofW (cc := cX9_flow) (maxL := 5) (ret := (some .int)) (by decide) rfl ?_
  intro p ev s m args below meth c s₁ B hml hv
  obtain ⟨rfl, hH, hK⟩ := hv
  have hx := B.exec
  have hb := B.bytes
  have hr := B.returns
  have hts := atoms_spec (ws := wsX9_flow) B.pre
  have hown : s.vm.findClass RX9 = some m.cls := findClass_of_methodNamed B.named
  have hlocks := B.notSynchronized
  have hC : Cx D cA p s m _ meth c cX9_flow 5 RX9 wsX9_flow (some .int) := ⟨hx, hb, hml, hown, hts, hK, hr, hlocks⟩
  have hS : va_S (Ab b0) s.heap s.heap [] := va_S.rf
  have hl := lv_entry ([.ref (b0 + a0), .int x1, .int x2, .int x3]) (n := 5) (Nat.le_of_ble_eq_true rfl)
  rw [lg_entry_eq]
  generalize (lg_sl ([.ref (b0 + a0), .int x1, .int x2, .int x3]) ++ List.replicate (5 - (lg_sl ([.ref (b0 + a0), .int x1, .int x2, .int x3])).length) Slot.unset).toArray = ls at hl ⊢
  have hl : lv_has ls 5 [(0, .ref (b0 + a0)), (1, .int x1), (2, .int x2), (3, .int x3)] := hl
  unfold fX9_flow at hE
  obtain ⟨_, _, hE⟩ := Option.bind_eq_some_iff.mp hE
  refine lv_aload_n hx hb dX9_flow_0 rfl (lv_at hl 0 rfl) ?_
  refine lv_iload_n hx hb dX9_flow_1 rfl (lv_at hl 1 rfl) ?_
  refine lv_iload_n hx hb dX9_flow_2 rfl (lv_at hl 2 rfl) ?_
  obtain ⟨z1, hz1, hE⟩ := Option.bind_eq_some_iff.mp hE
  refine r_callI (va_runV (As := [.int x1, .int x2]) (rest := []) ⟨hx, hb, hml, hown, hts⟩ (sX9_areUnlikeYards l b0 D cA hz1) (cwV 2 hts gX9_flow_X9_areUnlikeYards rfl rfl rfl (by decide +kernel) (rm_ok (by decide) (by decide))) (pre_V (ci := 8) hK hH (oX9_areUnlikeYards hz1) rfl) rfl rfl hl.1 rfl (lv_room (Nat.le_of_ble_eq_true rfl)) dX9_flow_3 ⟨Nat.zero_le _, Nat.zero_le _⟩) hS (fun H locs hH hS => ?_)
  refine lv_if_eq (tgt := 18) hx hb dX9_flow_6 (by decide) (fun c2 => ?_) (fun c2 => ?_)
  · rw [if_pos c2] at hE
    exact sX9_flow_b18 (F := F) hC hE _ _ _ hH hS (lv_sub hl [] rfl)
  · rw [if_neg c2] at hE
    refine lv_iload_n hx hb dX9_flow_9 rfl (lv_at hl 3 rfl) ?_
    refine lv_iconst (v := 0) hx hb dX9_flow_10 (by decide) ?_
    refine lv_iconst (v := 1) hx hb dX9_flow_11 (by decide) ?_
    obtain ⟨z3, hz3, hE⟩ := Option.bind_eq_some_iff.mp hE
    refine r_callI (va_runS (As := [.int x3, .int 0, .int 1]) (rest := []) ⟨hx, hb, hml, hown, hts⟩ (sX9_isWithin l b0 D cA hz3) (va_cwS 3 hts gX9_flow_X9_isWithin rfl rfl rfl (by decide +kernel) (rm_ok (by decide) (by decide))) (pre_S hK hH) rfl rfl hl.1 rfl (lv_room (Nat.le_of_ble_eq_true rfl)) dX9_flow_12 ⟨Nat.zero_le _, Nat.zero_le _⟩) hS (fun H locs hH hS => ?_)
    refine lv_if_ne (tgt := 20) hx hb dX9_flow_15 (by decide) (fun c4 => ?_) (fun c4 => ?_)
    · rw [if_neg c4] at hE
      refine lv_aload_n hx hb dX9_flow_20 rfl (lv_at hl 0 rfl) ?_
      obtain ⟨z5, hz5, hE⟩ := Option.bind_eq_some_iff.mp hE
      refine r_callR (va_runV (As := []) (rest := []) ⟨hx, hb, hml, hown, hts⟩ (sX9_waysNow l b0 D cA hz5) (cwV 0 hts gX9_flow_X9_waysNow rfl rfl rfl (by decide +kernel) (rm_ok (by decide) (by decide))) (pre_V (ci := 8) hK hH (oX9_waysNow hz5) rfl) rfl rfl hl.1 rfl (lv_room (Nat.le_of_ble_eq_true rfl)) dX9_flow_21 ⟨Nat.zero_le _, Nat.zero_le _⟩) hS (fun H locs hH hS => ?_)
      refine lv_iload_n hx hb dX9_flow_24 rfl (lv_at hl 1 rfl) ?_
      refine lv_iload_n hx hb dX9_flow_25 rfl (lv_at hl 2 rfl) ?_
      obtain ⟨z6, hz6, hE⟩ := Option.bind_eq_some_iff.mp hE
      refine r_callI (va_runV (As := [.int x1, .int x2]) (rest := []) ⟨hx, hb, hml, hown, hts⟩ (sX8_leastCut l b0 D cA hz6) (cwV 2 hts gX9_flow_X8_leastCut rfl rfl rfl (by decide +kernel) (rm_ok (by decide) (by decide))) (pre_V (ci := 7) hK hH (oX8_leastCut hz6) rfl) rfl rfl hl.1 rfl (lv_room (Nat.le_of_ble_eq_true rfl)) dX9_flow_26 ⟨Nat.zero_le _, Nat.zero_le _⟩) hS (fun H locs hH hS => ?_)
      refine lv_istore (lv' := [(4, .int z6.1), (0, .ref (b0 + a0)), (1, .int x1), (2, .int x2), (3, .int x3)]) hx hb dX9_flow_29 hl (by decide) rfl (fun ls hl => ?_)
      refine lv_iload_n hx hb dX9_flow_31 rfl (lv_at hl 4 rfl) ?_
      refine lv_if_ne (tgt := 43) hx hb dX9_flow_32 (by decide) (fun c7 => ?_) (fun c7 => ?_)
      · rw [if_neg c7] at hE
        refine lv_iload hx hb dX9_flow_43 (lv_at hl 0 rfl) ?_
        obtain ⟨z8, hz8, hE⟩ := Option.bind_eq_some_iff.mp hE
        refine r_callI (va_runS (As := [.int z6.1]) (rest := []) ⟨hx, hb, hml, hown, hts⟩ (sX8_streetsIn l b0 D cA hz8) (va_cwS 1 hts gX9_flow_X8_streetsIn rfl rfl rfl (by decide +kernel) (rm_ok (by decide) (by decide))) (pre_S hK hH) rfl rfl hl.1 rfl (lv_room (Nat.le_of_ble_eq_true rfl)) dX9_flow_45 ⟨Nat.zero_le _, Nat.zero_le _⟩) hS (fun H locs hH hS => ?_)
        have hZ := Option.some.inj hE
        subst hZ
        exact W.iret (v := z8.1) hx hb hr (fun t ht hW => ⟨rfl, by rw [ht]; exact hH, hS.F ht⟩) hS.2.2 dX9_flow_48
      · rw [if_pos c7] at hE
        refine lv_iload hx hb dX9_flow_35 (lv_at hl 0 rfl) ?_
        obtain ⟨z9, hz9, hE⟩ := Option.bind_eq_some_iff.mp hE
        refine r_callI (va_runS (As := [.int z6.1]) (rest := []) ⟨hx, hb, hml, hown, hts⟩ (sX8_widthIn l b0 D cA hz9) (va_cwS 1 hts gX9_flow_X8_widthIn rfl rfl rfl (by decide +kernel) (rm_ok (by decide) (by decide))) (pre_S hK hH) rfl rfl hl.1 rfl (lv_room (Nat.le_of_ble_eq_true rfl)) dX9_flow_37 ⟨Nat.zero_le _, Nat.zero_le _⟩) hS (fun H locs hH hS => ?_)
        refine lv_goto (tgt := 48) hx hb dX9_flow_40 (by decide) ?_
        have hZ := Option.some.inj hE
        subst hZ
        exact W.iret (v := z9.1) hx hb hr (fun t ht hW => ⟨rfl, by rw [ht]; exact hH, hS.F ht⟩) hS.2.2 dX9_flow_48
    · rw [if_pos c4] at hE
      exact sX9_flow_b18 (F := F) hC hE _ _ _ hH hS (lv_sub hl [] rfl)
-- X9_need
def fX9_need_b19 (F : Nat)  (L : HL) : Option (Int32 × HL) := some ((-1), L)
set_option maxHeartbeats 4000000 in
set_option maxRecDepth 100000 in
theorem sX9_need_b19 {b0 : Nat} {D : va_G} {cA : Nat → ClassId} {p : Program} {l : Launch} {ev : Env} {s : State} {m : MethodId} {args : Array Value} {below : List Frame} {meth : Method} {c : Code} {F : Nat} {z : (Int32 × HL)}  {L : HL} (hC : Cx D cA p s m args meth c cX9_need 5 RX9 wsX9_need (some .int)) (hE : fX9_need_b19 F  L = some z) : WB b0 D cA p l ev (RM 5 0 0) s m args below meth c 5 0 0 (MQ below (Qk b0 D cA (some (.int z.1)) z.2) args s 0 0 (Ab b0)) 19 [] [] L := by
  obtain ⟨hx, hb, hml, hown, hts, hK, hr, hlocks⟩ := id hC
  intro H locs ls hH hS hl
  unfold fX9_need_b19 at hE
  refine lv_iconst (v := (-1)) hx hb dX9_need_19 (by decide) ?_
  have hZ := Option.some.inj hE
  subst hZ
  exact W.iret (v := (-1)) hx hb hr (fun t ht hW => ⟨rfl, by rw [ht]; exact hH, hS.F ht⟩) hS.2.2 dX9_need_20
def fX9_need (F : Nat) (L : HL) (a0 : Nat) (x1 : Int32) (x2 : Int32) (x3 : Int32) : Option (Int32 × HL) := (o_ob L a0 8).bind fun _ => (fX9_areUnlikeYards F L a0 x1 x2).bind fun z1 => if z1.1 = 0 then (fX9_need_b19 F z1.2) else ((fX9_isWithin F z1.2 x3 1 10).bind fun z3 => if z3.1 = 0 then (fX9_need_b19 F z3.2) else ((fX9_waysNow F z3.2 a0).bind fun z5 => (fX8_leastPrice F z5.2 z5.1 x1 x2 x3).bind fun z6 => if 1073741824 ≤ z6.1 then (some ((-9), z6.2)) else ((fX8_streetsIn F z6.2 z6.1).bind fun z8 => some (z8.1, z8.2))))
theorem oX9_need {F : Nat} {L : HL} {a0 : Nat} {x1 : Int32} {x2 : Int32} {x3 : Int32} {z : (Int32 × HL)} (hE : fX9_need F L a0 x1 x2 x3 = some z) : o_ob L a0 8 = some () := by
  obtain ⟨_, h, _⟩ := Option.bind_eq_some_iff.mp hE
  exact h
set_option maxHeartbeats 4000000 in
set_option maxRecDepth 100000 in
theorem sX9_need (l : Launch) (b0 : Nat) (D : va_G) (cA : Nat → ClassId) {F : Nat} {L : HL} {a0 : Nat} {x1 : Int32} {x2 : Int32} {x3 : Int32} {z : (Int32 × HL)} (hE : fX9_need F L a0 x1 x2 x3 = some z) : Met l yX9_need wsX9_need (RM 5 0 0) (Pk b0 D cA [.ref (b0 + a0), .int x1, .int x2, .int x3] L) (Qk b0 D cA (some (.int z.1)) z.2) 0 0 (Ab b0) := by
  refine Met.ofW (cc := cX9_need) (maxL := 5) (ret := (some .int)) (by decide) rfl ?_
  intro p ev s m args below meth c s₁ B hml hv
  obtain ⟨rfl, hH, hK⟩ := hv
  have hx := B.exec
  have hb := B.bytes
  have hr := B.returns
  have hts := atoms_spec (ws := wsX9_need) B.pre
  have hown : s.vm.findClass RX9 = some m.cls := findClass_of_methodNamed B.named
  have hlocks := B.notSynchronized
  have hC : Cx D cA p s m _ meth c cX9_need 5 RX9 wsX9_need (some .int) := ⟨hx, hb, hml, hown, hts, hK, hr, hlocks⟩
  have hS : va_S (Ab b0) s.heap s.heap [] := va_S.rf
  have hl := lv_entry ([.ref (b0 + a0), .int x1, .int x2, .int x3]) (n := 5) (Nat.le_of_ble_eq_true rfl)
  rw [lg_entry_eq]
  generalize (lg_sl ([.ref (b0 + a0), .int x1, .int x2, .int x3]) ++ List.replicate (5 - (lg_sl ([.ref (b0 + a0), .int x1, .int x2, .int x3])).length) Slot.unset).toArray = ls at hl ⊢
  have hl : lv_has ls 5 [(0, .ref (b0 + a0)), (1, .int x1), (2, .int x2), (3, .int x3)] := hl
  unfold fX9_need at hE
  obtain ⟨_, _, hE⟩ := Option.bind_eq_some_iff.mp hE
  refine lv_aload_n hx hb dX9_need_0 rfl (lv_at hl 0 rfl) ?_
  refine lv_iload_n hx hb dX9_need_1 rfl (lv_at hl 1 rfl) ?_
  refine lv_iload_n hx hb dX9_need_2 rfl (lv_at hl 2 rfl) ?_
  obtain ⟨z1, hz1, hE⟩ := Option.bind_eq_some_iff.mp hE
  refine r_callI (va_runV (As := [.int x1, .int x2]) (rest := []) ⟨hx, hb, hml, hown, hts⟩ (sX9_areUnlikeYards l b0 D cA hz1) (cwV 2 hts gX9_need_X9_areUnlikeYards rfl rfl rfl (by decide +kernel) (rm_ok (by decide) (by decide))) (pre_V (ci := 8) hK hH (oX9_areUnlikeYards hz1) rfl) rfl rfl hl.1 rfl (lv_room (Nat.le_of_ble_eq_true rfl)) dX9_need_3 ⟨Nat.zero_le _, Nat.zero_le _⟩) hS (fun H locs hH hS => ?_)
  refine lv_if_eq (tgt := 19) hx hb dX9_need_6 (by decide) (fun c2 => ?_) (fun c2 => ?_)
  · rw [if_pos c2] at hE
    exact sX9_need_b19 (F := F) hC hE _ _ _ hH hS (lv_sub hl [] rfl)
  · rw [if_neg c2] at hE
    refine lv_iload_n hx hb dX9_need_9 rfl (lv_at hl 3 rfl) ?_
    refine lv_iconst (v := 1) hx hb dX9_need_10 (by decide) ?_
    refine lv_bipush (v := 10) hx hb dX9_need_11 (by decide) ?_
    obtain ⟨z3, hz3, hE⟩ := Option.bind_eq_some_iff.mp hE
    refine r_callI (va_runS (As := [.int x3, .int 1, .int 10]) (rest := []) ⟨hx, hb, hml, hown, hts⟩ (sX9_isWithin l b0 D cA hz3) (va_cwS 3 hts gX9_need_X9_isWithin rfl rfl rfl (by decide +kernel) (rm_ok (by decide) (by decide))) (pre_S hK hH) rfl rfl hl.1 rfl (lv_room (Nat.le_of_ble_eq_true rfl)) dX9_need_13 ⟨Nat.zero_le _, Nat.zero_le _⟩) hS (fun H locs hH hS => ?_)
    refine lv_if_ne (tgt := 21) hx hb dX9_need_16 (by decide) (fun c4 => ?_) (fun c4 => ?_)
    · rw [if_neg c4] at hE
      refine lv_aload_n hx hb dX9_need_21 rfl (lv_at hl 0 rfl) ?_
      obtain ⟨z5, hz5, hE⟩ := Option.bind_eq_some_iff.mp hE
      refine r_callR (va_runV (As := []) (rest := []) ⟨hx, hb, hml, hown, hts⟩ (sX9_waysNow l b0 D cA hz5) (cwV 0 hts gX9_need_X9_waysNow rfl rfl rfl (by decide +kernel) (rm_ok (by decide) (by decide))) (pre_V (ci := 8) hK hH (oX9_waysNow hz5) rfl) rfl rfl hl.1 rfl (lv_room (Nat.le_of_ble_eq_true rfl)) dX9_need_22 ⟨Nat.zero_le _, Nat.zero_le _⟩) hS (fun H locs hH hS => ?_)
      refine lv_iload_n hx hb dX9_need_25 rfl (lv_at hl 1 rfl) ?_
      refine lv_iload_n hx hb dX9_need_26 rfl (lv_at hl 2 rfl) ?_
      refine lv_iload_n hx hb dX9_need_27 rfl (lv_at hl 3 rfl) ?_
      obtain ⟨z6, hz6, hE⟩ := Option.bind_eq_some_iff.mp hE
      refine r_callI (va_runV (As := [.int x1, .int x2, .int x3]) (rest := []) ⟨hx, hb, hml, hown, hts⟩ (sX8_leastPrice l b0 D cA hz6) (cwV 3 hts gX9_need_X8_leastPrice rfl rfl rfl (by decide +kernel) (rm_ok (by decide) (by decide))) (pre_V (ci := 7) hK hH (oX8_leastPrice hz6) rfl) rfl rfl hl.1 rfl (lv_room (Nat.le_of_ble_eq_true rfl)) dX9_need_28 ⟨Nat.zero_le _, Nat.zero_le _⟩) hS (fun H locs hH hS => ?_)
      refine lv_istore (lv' := [(4, .int z6.1), (0, .ref (b0 + a0)), (1, .int x1), (2, .int x2), (3, .int x3)]) hx hb dX9_need_31 hl (by decide) rfl (fun ls hl => ?_)
      refine lv_iload hx hb dX9_need_33 (lv_at hl 0 rfl) ?_
      refine lv_ldc hx hb hown (hts (.constant RX9 188 (1073741824)) (by decide +kernel)) dX9_need_35 ?_
      refine lv_icmp_ge (tgt := 48) hx hb dX9_need_37 (by decide) (fun c7 => ?_) (fun c7 => ?_)
      · rw [if_pos c7] at hE
        refine lv_bipush (v := (-9)) hx hb dX9_need_48 (by decide) ?_
        have hZ := Option.some.inj hE
        subst hZ
        exact W.iret (v := (-9)) hx hb hr (fun t ht hW => ⟨rfl, by rw [ht]; exact hH, hS.F ht⟩) hS.2.2 dX9_need_50
      · rw [if_neg c7] at hE
        refine lv_iload hx hb dX9_need_40 (lv_at hl 0 rfl) ?_
        obtain ⟨z8, hz8, hE⟩ := Option.bind_eq_some_iff.mp hE
        refine r_callI (va_runS (As := [.int z6.1]) (rest := []) ⟨hx, hb, hml, hown, hts⟩ (sX8_streetsIn l b0 D cA hz8) (va_cwS 1 hts gX9_need_X8_streetsIn rfl rfl rfl (by decide +kernel) (rm_ok (by decide) (by decide))) (pre_S hK hH) rfl rfl hl.1 rfl (lv_room (Nat.le_of_ble_eq_true rfl)) dX9_need_42 ⟨Nat.zero_le _, Nat.zero_le _⟩) hS (fun H locs hH hS => ?_)
        refine lv_goto (tgt := 50) hx hb dX9_need_45 (by decide) ?_
        have hZ := Option.some.inj hE
        subst hZ
        exact W.iret (v := z8.1) hx hb hr (fun t ht hW => ⟨rfl, by rw [ht]; exact hH, hS.F ht⟩) hS.2.2 dX9_need_50
    · rw [if_pos c4] at hE
      exact sX9_need_b19 (F := F) hC hE _ _ _ hH hS (lv_sub hl [] rfl)
-- X9_odds
def fX9_odds_b29 (F : Nat)  (L : HL) : Option (Int32 × HL) := some ((-1), L)
set_option maxHeartbeats 4000000 in
set_option maxRecDepth 100000 in
theorem sX9_odds_b29 {b0 : Nat} {D : va_G} {cA : Nat → ClassId} {p : Program} {l : Launch} {ev : Env} {s : State} {m : MethodId} {args : Array Value} {below : List Frame} {meth : Method} {c : Code} {F : Nat} {z : (Int32 × HL)}  {L : HL} (hC : Cx D cA p s m args meth c cX9_odds 8 RX9 wsX9_odds (some .int)) (hE : fX9_odds_b29 F  L = some z) : WB b0 D cA p l ev (RM 19 0 0) s m args below meth c 8 0 0 (MQ below (Qk b0 D cA (some (.int z.1)) z.2) args s 0 0 (Ab b0)) 29 [] [] L := by
  obtain ⟨hx, hb, hml, hown, hts, hK, hr, hlocks⟩ := id hC
  intro H locs ls hH hS hl
  unfold fX9_odds_b29 at hE
  refine lv_iconst (v := (-1)) hx hb dX9_odds_29 (by decide) ?_
  have hZ := Option.some.inj hE
  subst hZ
  exact W.iret (v := (-1)) hx hb hr (fun t ht hW => ⟨rfl, by rw [ht]; exact hH, hS.F ht⟩) hS.2.2 dX9_odds_30
def fX9_odds_b120 (F : Nat) (k70 : Nat → Int32 → Int32 → Int32 → Int32 → HL → Option (Int32 × HL)) (a0 : Nat) (x4 : Int32) (x5 : Int32) (x6 : Int32) (x7 : Int32) (L : HL) : Option (Int32 × HL) := k70 a0 x4 x5 x6 (x7 + 1) L
set_option maxHeartbeats 4000000 in
set_option maxRecDepth 100000 in
theorem sX9_odds_b120 {b0 : Nat} {D : va_G} {cA : Nat → ClassId} {p : Program} {l : Launch} {ev : Env} {s : State} {m : MethodId} {args : Array Value} {below : List Frame} {meth : Method} {c : Code} {F : Nat} {z : (Int32 × HL)} {k70 : Nat → Int32 → Int32 → Int32 → Int32 → HL → Option (Int32 × HL)} {a0 : Nat} {x4 : Int32} {x5 : Int32} {x6 : Int32} {x7 : Int32} {L : HL} (hC : Cx D cA p s m args meth c cX9_odds 8 RX9 wsX9_odds (some .int)) (hk70 : ∀ (a0' : Nat) (x4' : Int32) (x5' : Int32) (x6' : Int32) (x7' : Int32) (L' : HL), k70 a0' x4' x5' x6' x7' L' = some z → WB b0 D cA p l ev (RM 19 0 0) s m args below meth c 8 0 0 (MQ below (Qk b0 D cA (some (.int z.1)) z.2) args s 0 0 (Ab b0)) 70 [(0, .ref (b0 + a0')), (4, .int x4'), (5, .int x5'), (6, .int x6'), (7, .int x7')] [] L') (hE : fX9_odds_b120 F k70 a0 x4 x5 x6 x7 L = some z) : WB b0 D cA p l ev (RM 19 0 0) s m args below meth c 8 0 0 (MQ below (Qk b0 D cA (some (.int z.1)) z.2) args s 0 0 (Ab b0)) 120 [(0, .ref (b0 + a0)), (4, .int x4), (5, .int x5), (6, .int x6), (7, .int x7)] [] L := by
  obtain ⟨hx, hb, hml, hown, hts, hK, hr, hlocks⟩ := id hC
  intro H locs ls hH hS hl
  unfold fX9_odds_b120 at hE
  refine lv_iinc (v := (x7 + 1)) (lv' := [(7, .int (x7 + 1)), (0, .ref (b0 + a0)), (4, .int x4), (5, .int x5), (6, .int x6)]) hx hb dX9_odds_120 hl (k := 4) rfl rfl (by decide) rfl (fun ls hl => ?_)
  refine lv_goto (tgt := 70) hx hb dX9_odds_123 (by decide) ?_
  exact hk70 _ _ _ _ _ _ hE _ _ _ hH hS (lv_sub hl [1, 2, 3, 4, 0] rfl)
def fX9_odds_b101 (F : Nat) (k70 : Nat → Int32 → Int32 → Int32 → Int32 → HL → Option (Int32 × HL)) (a0 : Nat) (x4 : Int32) (x5 : Int32) (x6 : Int32) (x7 : Int32) (L : HL) : Option (Int32 × HL) := if (x6 - x6 / 5 * 5) = 0 then (fX9_odds_b120 F k70 a0 x4 (x5 / 5) (x6 / 5) x7 L) else (fX9_odds_b120 F k70 a0 x4 x5 x6 x7 L)
set_option maxHeartbeats 4000000 in
set_option maxRecDepth 100000 in
theorem sX9_odds_b101 {b0 : Nat} {D : va_G} {cA : Nat → ClassId} {p : Program} {l : Launch} {ev : Env} {s : State} {m : MethodId} {args : Array Value} {below : List Frame} {meth : Method} {c : Code} {F : Nat} {z : (Int32 × HL)} {k70 : Nat → Int32 → Int32 → Int32 → Int32 → HL → Option (Int32 × HL)} {a0 : Nat} {x4 : Int32} {x5 : Int32} {x6 : Int32} {x7 : Int32} {L : HL} (hC : Cx D cA p s m args meth c cX9_odds 8 RX9 wsX9_odds (some .int)) (hk70 : ∀ (a0' : Nat) (x4' : Int32) (x5' : Int32) (x6' : Int32) (x7' : Int32) (L' : HL), k70 a0' x4' x5' x6' x7' L' = some z → WB b0 D cA p l ev (RM 19 0 0) s m args below meth c 8 0 0 (MQ below (Qk b0 D cA (some (.int z.1)) z.2) args s 0 0 (Ab b0)) 70 [(0, .ref (b0 + a0')), (4, .int x4'), (5, .int x5'), (6, .int x6'), (7, .int x7')] [] L') (hE : fX9_odds_b101 F k70 a0 x4 x5 x6 x7 L = some z) : WB b0 D cA p l ev (RM 19 0 0) s m args below meth c 8 0 0 (MQ below (Qk b0 D cA (some (.int z.1)) z.2) args s 0 0 (Ab b0)) 101 [(0, .ref (b0 + a0)), (4, .int x4), (5, .int x5), (6, .int x6), (7, .int x7)] [] L := by
  obtain ⟨hx, hb, hml, hown, hts, hK, hr, hlocks⟩ := id hC
  intro H locs ls hH hS hl
  unfold fX9_odds_b101 at hE
  refine lv_iload hx hb dX9_odds_101 (lv_at hl 3 rfl) ?_
  refine lv_iconst (v := 5) hx hb dX9_odds_103 (by decide) ?_
  refine lv_irem hx hb dX9_odds_104 (by decide) ?_
  refine lv_if_ne (tgt := 120) hx hb dX9_odds_105 (by decide) (fun c20 => ?_) (fun c20 => ?_)
  · rw [if_neg c20] at hE
    exact sX9_odds_b120 (F := F) hC hk70 hE _ _ _ hH hS (lv_sub hl [0, 1, 2, 3, 4] rfl)
  · rw [if_pos c20] at hE
    refine lv_iload hx hb dX9_odds_108 (lv_at hl 3 rfl) ?_
    refine lv_iconst (v := 5) hx hb dX9_odds_110 (by decide) ?_
    refine lv_idiv hx hb dX9_odds_111 (by decide) ?_
    refine lv_istore (lv' := [(6, .int (x6 / 5)), (0, .ref (b0 + a0)), (4, .int x4), (5, .int x5), (7, .int x7)]) hx hb dX9_odds_112 hl (by decide) rfl (fun ls hl => ?_)
    refine lv_iload hx hb dX9_odds_114 (lv_at hl 3 rfl) ?_
    refine lv_iconst (v := 5) hx hb dX9_odds_116 (by decide) ?_
    refine lv_idiv hx hb dX9_odds_117 (by decide) ?_
    refine lv_istore (lv' := [(5, .int (x5 / 5)), (6, .int (x6 / 5)), (0, .ref (b0 + a0)), (4, .int x4), (7, .int x7)]) hx hb dX9_odds_118 hl (by decide) rfl (fun ls hl => ?_)
    exact sX9_odds_b120 (F := F) hC hk70 hE _ _ _ hH hS (lv_sub hl [2, 3, 0, 1, 4] rfl)
def fX9_odds_b70c (F : Nat) (k70 : Nat → Int32 → Int32 → Int32 → Int32 → HL → Option (Int32 × HL)) (a0 : Nat) (x4 : Int32) (x5 : Int32) (x6 : Int32) (x7 : Int32) (L : HL) : Option (Int32 × HL) := (o_gR L a0 8 2).bind fun v15 => (o_gI L v15 6 1).bind fun v16 => if v16 ≤ x7 then (if x4 = 0 then (some (x6, L)) else (some (x5, L))) else (if (x6 - x6 / 2 * 2) = 0 then (fX9_odds_b101 F k70 a0 x4 (x5 / 2) (x6 / 2) x7 L) else (fX9_odds_b101 F k70 a0 x4 x5 x6 x7 L))
def fX9_odds_b70 (F : Nat) : Nat → Nat → Int32 → Int32 → Int32 → Int32 → HL → Option (Int32 × HL)
  | 0 => fun _ _ _ _ _ _ => none
  | n + 1 => fun a0 x4 x5 x6 x7 L => fX9_odds_b70c F (fX9_odds_b70 F n) a0 x4 x5 x6 x7 L
set_option maxHeartbeats 4000000 in
set_option maxRecDepth 100000 in
theorem sX9_odds_b70c {b0 : Nat} {D : va_G} {cA : Nat → ClassId} {p : Program} {l : Launch} {ev : Env} {s : State} {m : MethodId} {args : Array Value} {below : List Frame} {meth : Method} {c : Code} {F : Nat} {z : (Int32 × HL)} {k70 : Nat → Int32 → Int32 → Int32 → Int32 → HL → Option (Int32 × HL)} {a0 : Nat} {x4 : Int32} {x5 : Int32} {x6 : Int32} {x7 : Int32} {L : HL} (hC : Cx D cA p s m args meth c cX9_odds 8 RX9 wsX9_odds (some .int)) (hk70 : ∀ (a0' : Nat) (x4' : Int32) (x5' : Int32) (x6' : Int32) (x7' : Int32) (L' : HL), k70 a0' x4' x5' x6' x7' L' = some z → WB b0 D cA p l ev (RM 19 0 0) s m args below meth c 8 0 0 (MQ below (Qk b0 D cA (some (.int z.1)) z.2) args s 0 0 (Ab b0)) 70 [(0, .ref (b0 + a0')), (4, .int x4'), (5, .int x5'), (6, .int x6'), (7, .int x7')] [] L') (hE : fX9_odds_b70c F k70 a0 x4 x5 x6 x7 L = some z) : WB b0 D cA p l ev (RM 19 0 0) s m args below meth c 8 0 0 (MQ below (Qk b0 D cA (some (.int z.1)) z.2) args s 0 0 (Ab b0)) 70 [(0, .ref (b0 + a0)), (4, .int x4), (5, .int x5), (6, .int x6), (7, .int x7)] [] L := by
  obtain ⟨hx, hb, hml, hown, hts, hK, hr, hlocks⟩ := id hC
  intro H locs ls hH hS hl
  unfold fX9_odds_b70c at hE
  refine lv_iload hx hb dX9_odds_70 (lv_at hl 4 rfl) ?_
  refine lv_aload_n hx hb dX9_odds_72 rfl (lv_at hl 0 rfl) ?_
  obtain ⟨v15, hv15, hE⟩ := Option.bind_eq_some_iff.mp hE
  refine r_gR 2 (C := RX9) (T := TX9) (N := 10) (ci := 8) hx hb hts (by decide +kernel) hown hK hH hv15 rfl (by decide) (hts (.fieldLink RX9 23 "KindStreets" "town" "LKindStreets$Town;") (by decide +kernel)) (fun _ h9 => h9) dX9_odds_73 ?_
  obtain ⟨v16, hv16, hE⟩ := Option.bind_eq_some_iff.mp hE
  refine r_gI 1 (C := RX7) (T := TX7) (N := 8) (ci := 6) hx hb hts (by decide +kernel) hown hK hH hv16 rfl (by decide) (hts (.fieldLink RX9 189 "KindStreets$Town" "streets" "I") (by decide +kernel)) (fun _ h9 => h9) dX9_odds_76 ?_
  refine lv_icmp_ge (tgt := 126) hx hb dX9_odds_79 (by decide) (fun c17 => ?_) (fun c17 => ?_)
  · rw [if_pos c17] at hE
    refine lv_iload hx hb dX9_odds_126 (lv_at hl 1 rfl) ?_
    refine lv_if_ne (tgt := 136) hx hb dX9_odds_128 (by decide) (fun c18 => ?_) (fun c18 => ?_)
    · rw [if_neg c18] at hE
      refine lv_iload hx hb dX9_odds_136 (lv_at hl 2 rfl) ?_
      have hZ := Option.some.inj hE
      subst hZ
      exact W.iret (v := x5) hx hb hr (fun t ht hW => ⟨rfl, by rw [ht]; exact hH, hS.F ht⟩) hS.2.2 dX9_odds_138
    · rw [if_pos c18] at hE
      refine lv_iload hx hb dX9_odds_131 (lv_at hl 3 rfl) ?_
      refine lv_goto (tgt := 138) hx hb dX9_odds_133 (by decide) ?_
      have hZ := Option.some.inj hE
      subst hZ
      exact W.iret (v := x6) hx hb hr (fun t ht hW => ⟨rfl, by rw [ht]; exact hH, hS.F ht⟩) hS.2.2 dX9_odds_138
  · rw [if_neg c17] at hE
    refine lv_iload hx hb dX9_odds_82 (lv_at hl 3 rfl) ?_
    refine lv_iconst (v := 2) hx hb dX9_odds_84 (by decide) ?_
    refine lv_irem hx hb dX9_odds_85 (by decide) ?_
    refine lv_if_ne (tgt := 101) hx hb dX9_odds_86 (by decide) (fun c19 => ?_) (fun c19 => ?_)
    · rw [if_neg c19] at hE
      exact sX9_odds_b101 (F := F) hC hk70 hE _ _ _ hH hS (lv_sub hl [0, 1, 2, 3, 4] rfl)
    · rw [if_pos c19] at hE
      refine lv_iload hx hb dX9_odds_89 (lv_at hl 3 rfl) ?_
      refine lv_iconst (v := 2) hx hb dX9_odds_91 (by decide) ?_
      refine lv_idiv hx hb dX9_odds_92 (by decide) ?_
      refine lv_istore (lv' := [(6, .int (x6 / 2)), (0, .ref (b0 + a0)), (4, .int x4), (5, .int x5), (7, .int x7)]) hx hb dX9_odds_93 hl (by decide) rfl (fun ls hl => ?_)
      refine lv_iload hx hb dX9_odds_95 (lv_at hl 3 rfl) ?_
      refine lv_iconst (v := 2) hx hb dX9_odds_97 (by decide) ?_
      refine lv_idiv hx hb dX9_odds_98 (by decide) ?_
      refine lv_istore (lv' := [(5, .int (x5 / 2)), (6, .int (x6 / 2)), (0, .ref (b0 + a0)), (4, .int x4), (7, .int x7)]) hx hb dX9_odds_99 hl (by decide) rfl (fun ls hl => ?_)
      exact sX9_odds_b101 (F := F) hC hk70 hE _ _ _ hH hS (lv_sub hl [2, 3, 0, 1, 4] rfl)
theorem sX9_odds_b70 {b0 : Nat} {D : va_G} {cA : Nat → ClassId} {p : Program} {l : Launch} {ev : Env} {s : State} {m : MethodId} {args : Array Value} {below : List Frame} {meth : Method} {c : Code} {F : Nat} {z : (Int32 × HL)} (hC : Cx D cA p s m args meth c cX9_odds 8 RX9 wsX9_odds (some .int)) : ∀ (n : Nat) (a0 : Nat) (x4 : Int32) (x5 : Int32) (x6 : Int32) (x7 : Int32) (L : HL), fX9_odds_b70 F n a0 x4 x5 x6 x7 L = some z → WB b0 D cA p l ev (RM 19 0 0) s m args below meth c 8 0 0 (MQ below (Qk b0 D cA (some (.int z.1)) z.2) args s 0 0 (Ab b0)) 70 [(0, .ref (b0 + a0)), (4, .int x4), (5, .int x5), (6, .int x6), (7, .int x7)] [] L := by
  intro n
  induction n with
  | zero => intro a0 x4 x5 x6 x7 L hE; cases hE
  | succ n ih => intro a0 x4 x5 x6 x7 L hE; exact sX9_odds_b70c (F := F) hC ih hE
def fX9_odds (F : Nat) (L : HL) (a0 : Nat) (x1 : Int32) (x2 : Int32) (x3 : Int32) (x4 : Int32) : Option (Int32 × HL) := (o_ob L a0 8).bind fun _ => (fX9_areUnlikeYards F L a0 x1 x2).bind fun z1 => if z1.1 = 0 then (fX9_odds_b29 F z1.2) else ((fX9_isWithin F z1.2 x3 0 10).bind fun z3 => if z3.1 = 0 then (fX9_odds_b29 F z3.2) else ((fX9_isWithin F z3.2 x4 0 1).bind fun z5 => if z5.1 = 0 then (fX9_odds_b29 F z5.2) else ((o_gR z5.2 a0 8 2).bind fun v7 => (o_gI z5.2 v7 6 1).bind fun v8 => (fX8_tenTo F z5.2 v8).bind fun z9 => (fX9_waysNow F z9.2 a0).bind fun z10 => (o_gR z10.2 a0 8 2).bind fun v11 => (o_gI z10.2 v11 6 1).bind fun v12 => (fX5_allOf F z10.2 v12).bind fun z13 => (fX8_chances F 12 z13.2 z10.1 ((1 : Int32) <<< (x1 &&& 31)) z13.1 x2 x3).bind fun z14 => fX9_odds_b70 F F a0 x4 z9.1 z14.1 0 z14.2)))
theorem oX9_odds {F : Nat} {L : HL} {a0 : Nat} {x1 : Int32} {x2 : Int32} {x3 : Int32} {x4 : Int32} {z : (Int32 × HL)} (hE : fX9_odds F L a0 x1 x2 x3 x4 = some z) : o_ob L a0 8 = some () := by
  obtain ⟨_, h, _⟩ := Option.bind_eq_some_iff.mp hE
  exact h
set_option maxHeartbeats 4000000 in
set_option maxRecDepth 100000 in
theorem sX9_odds (l : Launch) (b0 : Nat) (D : va_G) (cA : Nat → ClassId) {F : Nat} {L : HL} {a0 : Nat} {x1 : Int32} {x2 : Int32} {x3 : Int32} {x4 : Int32} {z : (Int32 × HL)} (hE : fX9_odds F L a0 x1 x2 x3 x4 = some z) : Met l yX9_odds wsX9_odds (RM 19 0 0) (Pk b0 D cA [.ref (b0 + a0), .int x1, .int x2, .int x3, .int x4] L) (Qk b0 D cA (some (.int z.1)) z.2) 0 0 (Ab b0) := by
  refine Met.ofW (cc := cX9_odds) (maxL := 8) (ret := (some .int)) (by decide) rfl ?_
  intro p ev s m args below meth c s₁ B hml hv
  obtain ⟨rfl, hH, hK⟩ := hv
  have hx := B.exec
  have hb := B.bytes
  have hr := B.returns
  have hts := atoms_spec (ws := wsX9_odds) B.pre
  have hown : s.vm.findClass RX9 = some m.cls := findClass_of_methodNamed B.named
  have hlocks := B.notSynchronized
  have hC : Cx D cA p s m _ meth c cX9_odds 8 RX9 wsX9_odds (some .int) := ⟨hx, hb, hml, hown, hts, hK, hr, hlocks⟩
  have hS : va_S (Ab b0) s.heap s.heap [] := va_S.rf
  have hl := lv_entry ([.ref (b0 + a0), .int x1, .int x2, .int x3, .int x4]) (n := 8) (Nat.le_of_ble_eq_true rfl)
  rw [lg_entry_eq]
  generalize (lg_sl ([.ref (b0 + a0), .int x1, .int x2, .int x3, .int x4]) ++ List.replicate (8 - (lg_sl ([.ref (b0 + a0), .int x1, .int x2, .int x3, .int x4])).length) Slot.unset).toArray = ls at hl ⊢
  have hl : lv_has ls 8 [(0, .ref (b0 + a0)), (1, .int x1), (2, .int x2), (3, .int x3), (4, .int x4)] := hl
  unfold fX9_odds at hE
  obtain ⟨_, _, hE⟩ := Option.bind_eq_some_iff.mp hE
  refine lv_aload_n hx hb dX9_odds_0 rfl (lv_at hl 0 rfl) ?_
  refine lv_iload_n hx hb dX9_odds_1 rfl (lv_at hl 1 rfl) ?_
  refine lv_iload_n hx hb dX9_odds_2 rfl (lv_at hl 2 rfl) ?_
  obtain ⟨z1, hz1, hE⟩ := Option.bind_eq_some_iff.mp hE
  refine r_callI (va_runV (As := [.int x1, .int x2]) (rest := []) ⟨hx, hb, hml, hown, hts⟩ (sX9_areUnlikeYards l b0 D cA hz1) (cwV 2 hts gX9_odds_X9_areUnlikeYards rfl rfl rfl (by decide +kernel) (rm_ok (by decide) (by decide))) (pre_V (ci := 8) hK hH (oX9_areUnlikeYards hz1) rfl) rfl rfl hl.1 rfl (lv_room (Nat.le_of_ble_eq_true rfl)) dX9_odds_3 ⟨Nat.zero_le _, Nat.zero_le _⟩) hS (fun H locs hH hS => ?_)
  refine lv_if_eq (tgt := 29) hx hb dX9_odds_6 (by decide) (fun c2 => ?_) (fun c2 => ?_)
  · rw [if_pos c2] at hE
    exact sX9_odds_b29 (F := F) hC hE _ _ _ hH hS (lv_sub hl [] rfl)
  · rw [if_neg c2] at hE
    refine lv_iload_n hx hb dX9_odds_9 rfl (lv_at hl 3 rfl) ?_
    refine lv_iconst (v := 0) hx hb dX9_odds_10 (by decide) ?_
    refine lv_bipush (v := 10) hx hb dX9_odds_11 (by decide) ?_
    obtain ⟨z3, hz3, hE⟩ := Option.bind_eq_some_iff.mp hE
    refine r_callI (va_runS (As := [.int x3, .int 0, .int 10]) (rest := []) ⟨hx, hb, hml, hown, hts⟩ (sX9_isWithin l b0 D cA hz3) (va_cwS 3 hts gX9_odds_X9_isWithin rfl rfl rfl (by decide +kernel) (rm_ok (by decide) (by decide))) (pre_S hK hH) rfl rfl hl.1 rfl (lv_room (Nat.le_of_ble_eq_true rfl)) dX9_odds_13 ⟨Nat.zero_le _, Nat.zero_le _⟩) hS (fun H locs hH hS => ?_)
    refine lv_if_eq (tgt := 29) hx hb dX9_odds_16 (by decide) (fun c4 => ?_) (fun c4 => ?_)
    · rw [if_pos c4] at hE
      exact sX9_odds_b29 (F := F) hC hE _ _ _ hH hS (lv_sub hl [] rfl)
    · rw [if_neg c4] at hE
      refine lv_iload hx hb dX9_odds_19 (lv_at hl 4 rfl) ?_
      refine lv_iconst (v := 0) hx hb dX9_odds_21 (by decide) ?_
      refine lv_iconst (v := 1) hx hb dX9_odds_22 (by decide) ?_
      obtain ⟨z5, hz5, hE⟩ := Option.bind_eq_some_iff.mp hE
      refine r_callI (va_runS (As := [.int x4, .int 0, .int 1]) (rest := []) ⟨hx, hb, hml, hown, hts⟩ (sX9_isWithin l b0 D cA hz5) (va_cwS 3 hts gX9_odds_X9_isWithin rfl rfl rfl (by decide +kernel) (rm_ok (by decide) (by decide))) (pre_S hK hH) rfl rfl hl.1 rfl (lv_room (Nat.le_of_ble_eq_true rfl)) dX9_odds_23 ⟨Nat.zero_le _, Nat.zero_le _⟩) hS (fun H locs hH hS => ?_)
      refine lv_if_ne (tgt := 31) hx hb dX9_odds_26 (by decide) (fun c6 => ?_) (fun c6 => ?_)
      · rw [if_neg c6] at hE
        refine lv_aload_n hx hb dX9_odds_31 rfl (lv_at hl 0 rfl) ?_
        obtain ⟨v7, hv7, hE⟩ := Option.bind_eq_some_iff.mp hE
        refine r_gR 2 (C := RX9) (T := TX9) (N := 10) (ci := 8) hx hb hts (by decide +kernel) hown hK hH hv7 rfl (by decide) (hts (.fieldLink RX9 23 "KindStreets" "town" "LKindStreets$Town;") (by decide +kernel)) (fun _ h9 => h9) dX9_odds_32 ?_
        obtain ⟨v8, hv8, hE⟩ := Option.bind_eq_some_iff.mp hE
        refine r_gI 1 (C := RX7) (T := TX7) (N := 8) (ci := 6) hx hb hts (by decide +kernel) hown hK hH hv8 rfl (by decide) (hts (.fieldLink RX9 189 "KindStreets$Town" "streets" "I") (by decide +kernel)) (fun _ h9 => h9) dX9_odds_35 ?_
        obtain ⟨z9, hz9, hE⟩ := Option.bind_eq_some_iff.mp hE
        refine r_callI (va_runS (As := [.int v8]) (rest := []) ⟨hx, hb, hml, hown, hts⟩ (sX8_tenTo l b0 D cA hz9) (va_cwS 1 hts gX9_odds_X8_tenTo rfl rfl rfl (by decide +kernel) (rm_ok (by decide) (by decide))) (pre_S hK hH) rfl rfl hl.1 rfl (lv_room (Nat.le_of_ble_eq_true rfl)) dX9_odds_38 ⟨Nat.zero_le _, Nat.zero_le _⟩) hS (fun H locs hH hS => ?_)
        refine lv_istore (lv' := [(5, .int z9.1), (0, .ref (b0 + a0)), (1, .int x1), (2, .int x2), (3, .int x3), (4, .int x4)]) hx hb dX9_odds_41 hl (by decide) rfl (fun ls hl => ?_)
        refine lv_aload_n hx hb dX9_odds_43 rfl (lv_at hl 1 rfl) ?_
        obtain ⟨z10, hz10, hE⟩ := Option.bind_eq_some_iff.mp hE
        refine r_callR (va_runV (As := []) (rest := []) ⟨hx, hb, hml, hown, hts⟩ (sX9_waysNow l b0 D cA hz10) (cwV 0 hts gX9_odds_X9_waysNow rfl rfl rfl (by decide +kernel) (rm_ok (by decide) (by decide))) (pre_V (ci := 8) hK hH (oX9_waysNow hz10) rfl) rfl rfl hl.1 rfl (lv_room (Nat.le_of_ble_eq_true rfl)) dX9_odds_44 ⟨Nat.zero_le _, Nat.zero_le _⟩) hS (fun H locs hH hS => ?_)
        refine lv_iconst (v := 1) hx hb dX9_odds_47 (by decide) ?_
        refine lv_iload_n hx hb dX9_odds_48 rfl (lv_at hl 2 rfl) ?_
        refine lv_ishl hx hb dX9_odds_49 ?_
        refine lv_aload_n hx hb dX9_odds_50 rfl (lv_at hl 1 rfl) ?_
        obtain ⟨v11, hv11, hE⟩ := Option.bind_eq_some_iff.mp hE
        refine r_gR 2 (C := RX9) (T := TX9) (N := 10) (ci := 8) hx hb hts (by decide +kernel) hown hK hH hv11 rfl (by decide) (hts (.fieldLink RX9 23 "KindStreets" "town" "LKindStreets$Town;") (by decide +kernel)) (fun _ h9 => h9) dX9_odds_51 ?_
        obtain ⟨v12, hv12, hE⟩ := Option.bind_eq_some_iff.mp hE
        refine r_gI 1 (C := RX7) (T := TX7) (N := 8) (ci := 6) hx hb hts (by decide +kernel) hown hK hH hv12 rfl (by decide) (hts (.fieldLink RX9 189 "KindStreets$Town" "streets" "I") (by decide +kernel)) (fun _ h9 => h9) dX9_odds_54 ?_
        obtain ⟨z13, hz13, hE⟩ := Option.bind_eq_some_iff.mp hE
        refine r_callI (va_runS (As := [.int v12]) (rest := [.int ((1 : Int32) <<< (x1 &&& 31)), .ref (b0 + z10.1)]) ⟨hx, hb, hml, hown, hts⟩ (sX5_allOf l b0 D cA hz13) (va_cwS 1 hts gX9_odds_X5_allOf rfl rfl rfl (by decide +kernel) (rm_ok (by decide) (by decide))) (pre_S hK hH) rfl rfl hl.1 rfl (lv_room (Nat.le_of_ble_eq_true rfl)) dX9_odds_57 ⟨Nat.zero_le _, Nat.zero_le _⟩) hS (fun H locs hH hS => ?_)
        refine lv_iload_n hx hb dX9_odds_60 rfl (lv_at hl 3 rfl) ?_
        refine lv_iload_n hx hb dX9_odds_61 rfl (lv_at hl 4 rfl) ?_
        obtain ⟨z14, hz14, hE⟩ := Option.bind_eq_some_iff.mp hE
        refine r_callI (va_runV (As := [.int ((1 : Int32) <<< (x1 &&& 31)), .int z13.1, .int x2, .int x3]) (rest := []) ⟨hx, hb, hml, hown, hts⟩ (sX8_chances l b0 D cA hz14) (cwV 4 hts gX9_odds_X8_chances rfl rfl rfl (by decide +kernel) (rm_ok (by decide) (by decide))) (pre_V (ci := 7) hK hH (oX8_chances hz14) rfl) rfl rfl hl.1 rfl (lv_room (Nat.le_of_ble_eq_true rfl)) dX9_odds_62 ⟨Nat.zero_le _, Nat.zero_le _⟩) hS (fun H locs hH hS => ?_)
        refine lv_istore (lv' := [(6, .int z14.1), (5, .int z9.1), (0, .ref (b0 + a0)), (1, .int x1), (2, .int x2), (3, .int x3), (4, .int x4)]) hx hb dX9_odds_65 hl (by decide) rfl (fun ls hl => ?_)
        refine lv_iconst (v := 0) hx hb dX9_odds_67 (by decide) ?_
        refine lv_istore (lv' := [(7, .int 0), (6, .int z14.1), (5, .int z9.1), (0, .ref (b0 + a0)), (1, .int x1), (2, .int x2), (3, .int x3), (4, .int x4)]) hx hb dX9_odds_68 hl (by decide) rfl (fun ls hl => ?_)
        exact sX9_odds_b70 (F := F) hC F _ _ _ _ _ _ hE _ _ _ hH hS (lv_sub hl [3, 7, 2, 1, 0] rfl)
      · rw [if_pos c6] at hE
        exact sX9_odds_b29 (F := F) hC hE _ _ _ hH hS (lv_sub hl [] rfl)
-- X9_carriage
def fX9_carriage_b15 (F : Nat) (a0 : Nat) (x1 : Int32) (L : HL) : Option (Int32 × HL) := (o_gR L a0 8 7).bind fun v2 => (o_gR L v2 0 1).bind fun v3 => (o_gR L a0 8 2).bind fun v4 => (o_gR L a0 8 3).bind fun v5 => (o_gR L v5 3 0).bind fun v6 => (fX4_draw F L v3 v4 v6).bind fun z7 => (o_gR z7 a0 8 7).bind fun v8 => (fX0_give F z7 v8).bind fun z9 => if x1 = (-1) then (some (z9.1, z9.2)) else ((o_gR z9.2 a0 8 7).bind fun v11 => (o_gR z9.2 v11 0 0).bind fun v12 => (o_aI z9.2 v12 0 x1).bind fun v13 => some (v13, z9.2))
set_option maxHeartbeats 4000000 in
set_option maxRecDepth 100000 in
theorem sX9_carriage_b15 {b0 : Nat} {D : va_G} {cA : Nat → ClassId} {p : Program} {l : Launch} {ev : Env} {s : State} {m : MethodId} {args : Array Value} {below : List Frame} {meth : Method} {c : Code} {F : Nat} {z : (Int32 × HL)} {a0 : Nat} {x1 : Int32} {L : HL} (hC : Cx D cA p s m args meth c cX9_carriage 3 RX9 wsX9_carriage (some .int)) (hE : fX9_carriage_b15 F a0 x1 L = some z) : WB b0 D cA p l ev (RM 5 0 0) s m args below meth c 3 0 0 (MQ below (Qk b0 D cA (some (.int z.1)) z.2) args s 0 0 (Ab b0)) 15 [(0, .ref (b0 + a0)), (1, .int x1)] [] L := by
  obtain ⟨hx, hb, hml, hown, hts, hK, hr, hlocks⟩ := id hC
  intro H locs ls hH hS hl
  unfold fX9_carriage_b15 at hE
  refine lv_aload_n hx hb dX9_carriage_15 rfl (lv_at hl 0 rfl) ?_
  obtain ⟨v2, hv2, hE⟩ := Option.bind_eq_some_iff.mp hE
  refine r_gR 7 (C := RX9) (T := TX9) (N := 10) (ci := 8) hx hb hts (by decide +kernel) hown hK hH hv2 rfl (by decide) (hts (.fieldLink RX9 47 "KindStreets" "carriages" "LKindStreets$Carriages;") (by decide +kernel)) (fun _ h9 => h9) dX9_carriage_16 ?_
  obtain ⟨v3, hv3, hE⟩ := Option.bind_eq_some_iff.mp hE
  refine r_gR 1 (C := RX0) (T := TX0) (N := 2) (ci := 0) hx hb hts (by decide +kernel) hown hK hH hv3 rfl (by decide) (hts (.fieldLink RX9 204 "KindStreets$Carriages" "plan" "LKindStreets$Plan;") (by decide +kernel)) (fun _ h9 => h9) dX9_carriage_19 ?_
  refine lv_aload_n hx hb dX9_carriage_22 rfl (lv_at hl 0 rfl) ?_
  obtain ⟨v4, hv4, hE⟩ := Option.bind_eq_some_iff.mp hE
  refine r_gR 2 (C := RX9) (T := TX9) (N := 10) (ci := 8) hx hb hts (by decide +kernel) hown hK hH hv4 rfl (by decide) (hts (.fieldLink RX9 23 "KindStreets" "town" "LKindStreets$Town;") (by decide +kernel)) (fun _ h9 => h9) dX9_carriage_23 ?_
  refine lv_aload_n hx hb dX9_carriage_26 rfl (lv_at hl 0 rfl) ?_
  obtain ⟨v5, hv5, hE⟩ := Option.bind_eq_some_iff.mp hE
  refine r_gR 3 (C := RX9) (T := TX9) (N := 10) (ci := 8) hx hb hts (by decide +kernel) hown hK hH hv5 rfl (by decide) (hts (.fieldLink RX9 29 "KindStreets" "now" "LKindStreets$Now;") (by decide +kernel)) (fun _ h9 => h9) dX9_carriage_27 ?_
  obtain ⟨v6, hv6, hE⟩ := Option.bind_eq_some_iff.mp hE
  refine r_gR 0 (C := RX3) (T := TX3) (N := 3) (ci := 3) hx hb hts (by decide +kernel) hown hK hH hv6 rfl (by decide) (hts (.fieldLink RX9 98 "KindStreets$Now" "moment" "LKindStreets$Moment;") (by decide +kernel)) (fun _ h9 => h9) dX9_carriage_30 ?_
  obtain ⟨z7, hz7, hE⟩ := Option.bind_eq_some_iff.mp hE
  refine r_callV (va_runV (As := [.ref (b0 + v4), .ref (b0 + v6)]) (rest := []) ⟨hx, hb, hml, hown, hts⟩ (sX4_draw l b0 D cA hz7) (cwV 2 hts gX9_carriage_X4_draw rfl rfl rfl (by decide +kernel) (rm_ok (by decide) (by decide))) (pre_V (ci := 4) hK hH (oX4_draw hz7) rfl) rfl rfl hl.1 rfl (lv_room (Nat.le_of_ble_eq_true rfl)) dX9_carriage_33 ⟨Nat.zero_le _, Nat.zero_le _⟩) hS (fun H locs hH hS => ?_)
  refine lv_aload_n hx hb dX9_carriage_36 rfl (lv_at hl 0 rfl) ?_
  obtain ⟨v8, hv8, hE⟩ := Option.bind_eq_some_iff.mp hE
  refine r_gR 7 (C := RX9) (T := TX9) (N := 10) (ci := 8) hx hb hts (by decide +kernel) hown hK hH hv8 rfl (by decide) (hts (.fieldLink RX9 47 "KindStreets" "carriages" "LKindStreets$Carriages;") (by decide +kernel)) (fun _ h9 => h9) dX9_carriage_37 ?_
  obtain ⟨z9, hz9, hE⟩ := Option.bind_eq_some_iff.mp hE
  refine r_callI (va_runV (As := []) (rest := []) ⟨hx, hb, hml, hown, hts⟩ (sX0_give l b0 D cA hz9) (cwV 0 hts gX9_carriage_X0_give rfl rfl rfl (by decide +kernel) (rm_ok (by decide) (by decide))) (pre_V (ci := 0) hK hH (oX0_give hz9) rfl) rfl rfl hl.1 rfl (lv_room (Nat.le_of_ble_eq_true rfl)) dX9_carriage_40 ⟨Nat.zero_le _, Nat.zero_le _⟩) hS (fun H locs hH hS => ?_)
  refine lv_istore_n (lv' := [(2, .int z9.1), (0, .ref (b0 + a0)), (1, .int x1)]) hx hb dX9_carriage_43 rfl hl (by decide) rfl (fun ls hl => ?_)
  refine lv_iload_n hx hb dX9_carriage_44 rfl (lv_at hl 2 rfl) ?_
  refine lv_iconst (v := (-1)) hx hb dX9_carriage_45 (by decide) ?_
  refine lv_icmp_ne (tgt := 53) hx hb dX9_carriage_46 (by decide) (fun c10 => ?_) (fun c10 => ?_)
  · rw [if_neg c10] at hE
    refine lv_aload_n hx hb dX9_carriage_53 rfl (lv_at hl 1 rfl) ?_
    obtain ⟨v11, hv11, hE⟩ := Option.bind_eq_some_iff.mp hE
    refine r_gR 7 (C := RX9) (T := TX9) (N := 10) (ci := 8) hx hb hts (by decide +kernel) hown hK hH hv11 rfl (by decide) (hts (.fieldLink RX9 47 "KindStreets" "carriages" "LKindStreets$Carriages;") (by decide +kernel)) (fun _ h9 => h9) dX9_carriage_54 ?_
    obtain ⟨v12, hv12, hE⟩ := Option.bind_eq_some_iff.mp hE
    refine r_gR 0 (C := RX0) (T := TX0) (N := 2) (ci := 0) hx hb hts (by decide +kernel) hown hK hH hv12 rfl (by decide) (hts (.fieldLink RX9 217 "KindStreets$Carriages" "given" "[I") (by decide +kernel)) (fun _ h9 => h9) dX9_carriage_57 ?_
    refine lv_iload_n hx hb dX9_carriage_60 rfl (lv_at hl 2 rfl) ?_
    obtain ⟨v13, hv13, hE⟩ := Option.bind_eq_some_iff.mp hE
    refine r_iald hx hb hK hH hv13 dX9_carriage_61 ?_
    have hZ := Option.some.inj hE
    subst hZ
    exact W.iret (v := v13) hx hb hr (fun t ht hW => ⟨rfl, by rw [ht]; exact hH, hS.F ht⟩) hS.2.2 dX9_carriage_62
  · rw [if_pos c10] at hE
    refine lv_iload_n hx hb dX9_carriage_49 rfl (lv_at hl 0 rfl) ?_
    refine lv_goto (tgt := 62) hx hb dX9_carriage_50 (by decide) ?_
    have hZ := Option.some.inj hE
    subst hZ
    exact W.iret (v := z9.1) hx hb hr (fun t ht hW => ⟨rfl, by rw [ht]; exact hH, hS.F ht⟩) hS.2.2 dX9_carriage_62
def fX9_carriage (F : Nat) (L : HL) (a0 : Nat) (x1 : Int32) : Option (Int32 × HL) := (o_ob L a0 8).bind fun _ => if x1 = (-1) then (fX9_carriage_b15 F a0 x1 L) else ((fX9_isCitizen F L a0 x1).bind fun z14 => if z14.1 = 0 then (some ((-1), z14.2)) else (fX9_carriage_b15 F a0 x1 z14.2))
theorem oX9_carriage {F : Nat} {L : HL} {a0 : Nat} {x1 : Int32} {z : (Int32 × HL)} (hE : fX9_carriage F L a0 x1 = some z) : o_ob L a0 8 = some () := by
  obtain ⟨_, h, _⟩ := Option.bind_eq_some_iff.mp hE
  exact h
set_option maxHeartbeats 4000000 in
set_option maxRecDepth 100000 in
theorem sX9_carriage (l : Launch) (b0 : Nat) (D : va_G) (cA : Nat → ClassId) {F : Nat} {L : HL} {a0 : Nat} {x1 : Int32} {z : (Int32 × HL)} (hE : fX9_carriage F L a0 x1 = some z) : Met l yX9_carriage wsX9_carriage (RM 5 0 0) (Pk b0 D cA [.ref (b0 + a0), .int x1] L) (Qk b0 D cA (some (.int z.1)) z.2) 0 0 (Ab b0) := by
  refine Met.ofW (cc := cX9_carriage) (maxL := 3) (ret := (some .int)) (by decide) rfl ?_
  intro p ev s m args below meth c s₁ B hml hv
  obtain ⟨rfl, hH, hK⟩ := hv
  have hx := B.exec
  have hb := B.bytes
  have hr := B.returns
  have hts := atoms_spec (ws := wsX9_carriage) B.pre
  have hown : s.vm.findClass RX9 = some m.cls := findClass_of_methodNamed B.named
  have hlocks := B.notSynchronized
  have hC : Cx D cA p s m _ meth c cX9_carriage 3 RX9 wsX9_carriage (some .int) := ⟨hx, hb, hml, hown, hts, hK, hr, hlocks⟩
  have hS : va_S (Ab b0) s.heap s.heap [] := va_S.rf
  have hl := lv_entry ([.ref (b0 + a0), .int x1]) (n := 3) (Nat.le_of_ble_eq_true rfl)
  rw [lg_entry_eq]
  generalize (lg_sl ([.ref (b0 + a0), .int x1]) ++ List.replicate (3 - (lg_sl ([.ref (b0 + a0), .int x1])).length) Slot.unset).toArray = ls at hl ⊢
  have hl : lv_has ls 3 [(0, .ref (b0 + a0)), (1, .int x1)] := hl
  unfold fX9_carriage at hE
  obtain ⟨_, _, hE⟩ := Option.bind_eq_some_iff.mp hE
  refine lv_iload_n hx hb dX9_carriage_0 rfl (lv_at hl 1 rfl) ?_
  refine lv_iconst (v := (-1)) hx hb dX9_carriage_1 (by decide) ?_
  refine lv_icmp_eq (tgt := 15) hx hb dX9_carriage_2 (by decide) (fun c1 => ?_) (fun c1 => ?_)
  · rw [if_pos c1] at hE
    exact sX9_carriage_b15 (F := F) hC hE _ _ _ hH hS (lv_sub hl [0, 1] rfl)
  · rw [if_neg c1] at hE
    refine lv_aload_n hx hb dX9_carriage_5 rfl (lv_at hl 0 rfl) ?_
    refine lv_iload_n hx hb dX9_carriage_6 rfl (lv_at hl 1 rfl) ?_
    obtain ⟨z14, hz14, hE⟩ := Option.bind_eq_some_iff.mp hE
    refine r_callI (va_runV (As := [.int x1]) (rest := []) ⟨hx, hb, hml, hown, hts⟩ (sX9_isCitizen l b0 D cA hz14) (cwV 1 hts gX9_carriage_X9_isCitizen rfl rfl rfl (by decide +kernel) (rm_ok (by decide) (by decide))) (pre_V (ci := 8) hK hH (oX9_isCitizen hz14) rfl) rfl rfl hl.1 rfl (lv_room (Nat.le_of_ble_eq_true rfl)) dX9_carriage_7 ⟨Nat.zero_le _, Nat.zero_le _⟩) hS (fun H locs hH hS => ?_)
    refine lv_if_ne (tgt := 15) hx hb dX9_carriage_10 (by decide) (fun c15 => ?_) (fun c15 => ?_)
    · rw [if_neg c15] at hE
      exact sX9_carriage_b15 (F := F) hC hE _ _ _ hH hS (lv_sub hl [0, 1] rfl)
    · rw [if_pos c15] at hE
      refine lv_iconst (v := (-1)) hx hb dX9_carriage_13 (by decide) ?_
      have hZ := Option.some.inj hE
      subst hZ
      exact W.iret (v := (-1)) hx hb hr (fun t ht hW => ⟨rfl, by rw [ht]; exact hH, hS.F ht⟩) hS.2.2 dX9_carriage_14
-- X9_measures
def fX9_measures_b19 (F : Nat)  (L : HL) : Option (Int32 × HL) := some ((-1), L)
set_option maxHeartbeats 4000000 in
set_option maxRecDepth 100000 in
theorem sX9_measures_b19 {b0 : Nat} {D : va_G} {cA : Nat → ClassId} {p : Program} {l : Launch} {ev : Env} {s : State} {m : MethodId} {args : Array Value} {below : List Frame} {meth : Method} {c : Code} {F : Nat} {z : (Int32 × HL)}  {L : HL} (hC : Cx D cA p s m args meth c cX9_measures 3 RX9 wsX9_measures (some .int)) (hE : fX9_measures_b19 F  L = some z) : WB b0 D cA p l ev (RM 1 0 0) s m args below meth c 3 0 0 (MQ below (Qk b0 D cA (some (.int z.1)) z.2) args s 0 0 (Ab b0)) 19 [] [] L := by
  obtain ⟨hx, hb, hml, hown, hts, hK, hr, hlocks⟩ := id hC
  intro H locs ls hH hS hl
  unfold fX9_measures_b19 at hE
  refine lv_iconst (v := (-1)) hx hb dX9_measures_19 (by decide) ?_
  have hZ := Option.some.inj hE
  subst hZ
  exact W.iret (v := (-1)) hx hb hr (fun t ht hW => ⟨rfl, by rw [ht]; exact hH, hS.F ht⟩) hS.2.2 dX9_measures_20
def fX9_measures (F : Nat) (L : HL) (a0 : Nat) (x1 : Int32) (x2 : Int32) : Option (Int32 × HL) := (o_ob L a0 8).bind fun _ => (fX9_isWithin F L x1 1 10).bind fun z1 => if z1.1 = 0 then (fX9_measures_b19 F z1.2) else ((fX9_isWithin F z1.2 x2 0 1).bind fun z3 => if z3.1 = 0 then (fX9_measures_b19 F z3.2) else ((o_gR z3.2 a0 8 8).bind fun v5 => (o_gI z3.2 v5 1 2).bind fun v6 => if v6 < 4 then ((o_gR z3.2 a0 8 8).bind fun v8 => (fX1_add F z3.2 v8 x1 x2).bind fun z9 => (o_gR z9 a0 8 8).bind fun v10 => (o_gI z9 v10 1 2).bind fun v11 => some (v11, z9)) else (some ((-3), z3.2))))
theorem oX9_measures {F : Nat} {L : HL} {a0 : Nat} {x1 : Int32} {x2 : Int32} {z : (Int32 × HL)} (hE : fX9_measures F L a0 x1 x2 = some z) : o_ob L a0 8 = some () := by
  obtain ⟨_, h, _⟩ := Option.bind_eq_some_iff.mp hE
  exact h
set_option maxHeartbeats 4000000 in
set_option maxRecDepth 100000 in
theorem sX9_measures (l : Launch) (b0 : Nat) (D : va_G) (cA : Nat → ClassId) {F : Nat} {L : HL} {a0 : Nat} {x1 : Int32} {x2 : Int32} {z : (Int32 × HL)} (hE : fX9_measures F L a0 x1 x2 = some z) : Met l yX9_measures wsX9_measures (RM 1 0 0) (Pk b0 D cA [.ref (b0 + a0), .int x1, .int x2] L) (Qk b0 D cA (some (.int z.1)) z.2) 0 0 (Ab b0) := by
  refine Met.ofW (cc := cX9_measures) (maxL := 3) (ret := (some .int)) (by decide) rfl ?_
  intro p ev s m args below meth c s₁ B hml hv
  obtain ⟨rfl, hH, hK⟩ := hv
  have hx := B.exec
  have hb := B.bytes
  have hr := B.returns
  have hts := atoms_spec (ws := wsX9_measures) B.pre
  have hown : s.vm.findClass RX9 = some m.cls := findClass_of_methodNamed B.named
  have hlocks := B.notSynchronized
  have hC : Cx D cA p s m _ meth c cX9_measures 3 RX9 wsX9_measures (some .int) := ⟨hx, hb, hml, hown, hts, hK, hr, hlocks⟩
  have hS : va_S (Ab b0) s.heap s.heap [] := va_S.rf
  have hl := lv_entry ([.ref (b0 + a0), .int x1, .int x2]) (n := 3) (Nat.le_of_ble_eq_true rfl)
  rw [lg_entry_eq]
  generalize (lg_sl ([.ref (b0 + a0), .int x1, .int x2]) ++ List.replicate (3 - (lg_sl ([.ref (b0 + a0), .int x1, .int x2])).length) Slot.unset).toArray = ls at hl ⊢
  have hl : lv_has ls 3 [(0, .ref (b0 + a0)), (1, .int x1), (2, .int x2)] := hl
  unfold fX9_measures at hE
  obtain ⟨_, _, hE⟩ := Option.bind_eq_some_iff.mp hE
  refine lv_iload_n hx hb dX9_measures_0 rfl (lv_at hl 1 rfl) ?_
  refine lv_iconst (v := 1) hx hb dX9_measures_1 (by decide) ?_
  refine lv_bipush (v := 10) hx hb dX9_measures_2 (by decide) ?_
  obtain ⟨z1, hz1, hE⟩ := Option.bind_eq_some_iff.mp hE
  refine r_callI (va_runS (As := [.int x1, .int 1, .int 10]) (rest := []) ⟨hx, hb, hml, hown, hts⟩ (sX9_isWithin l b0 D cA hz1) (va_cwS 3 hts gX9_measures_X9_isWithin rfl rfl rfl (by decide +kernel) (rm_ok (by decide) (by decide))) (pre_S hK hH) rfl rfl hl.1 rfl (lv_room (Nat.le_of_ble_eq_true rfl)) dX9_measures_4 ⟨Nat.zero_le _, Nat.zero_le _⟩) hS (fun H locs hH hS => ?_)
  refine lv_if_eq (tgt := 19) hx hb dX9_measures_7 (by decide) (fun c2 => ?_) (fun c2 => ?_)
  · rw [if_pos c2] at hE
    exact sX9_measures_b19 (F := F) hC hE _ _ _ hH hS (lv_sub hl [] rfl)
  · rw [if_neg c2] at hE
    refine lv_iload_n hx hb dX9_measures_10 rfl (lv_at hl 2 rfl) ?_
    refine lv_iconst (v := 0) hx hb dX9_measures_11 (by decide) ?_
    refine lv_iconst (v := 1) hx hb dX9_measures_12 (by decide) ?_
    obtain ⟨z3, hz3, hE⟩ := Option.bind_eq_some_iff.mp hE
    refine r_callI (va_runS (As := [.int x2, .int 0, .int 1]) (rest := []) ⟨hx, hb, hml, hown, hts⟩ (sX9_isWithin l b0 D cA hz3) (va_cwS 3 hts gX9_measures_X9_isWithin rfl rfl rfl (by decide +kernel) (rm_ok (by decide) (by decide))) (pre_S hK hH) rfl rfl hl.1 rfl (lv_room (Nat.le_of_ble_eq_true rfl)) dX9_measures_13 ⟨Nat.zero_le _, Nat.zero_le _⟩) hS (fun H locs hH hS => ?_)
    refine lv_if_ne (tgt := 21) hx hb dX9_measures_16 (by decide) (fun c4 => ?_) (fun c4 => ?_)
    · rw [if_neg c4] at hE
      refine lv_aload_n hx hb dX9_measures_21 rfl (lv_at hl 0 rfl) ?_
      obtain ⟨v5, hv5, hE⟩ := Option.bind_eq_some_iff.mp hE
      refine r_gR 8 (C := RX9) (T := TX9) (N := 10) (ci := 8) hx hb hts (by decide +kernel) hown hK hH hv5 rfl (by decide) (hts (.fieldLink RX9 54 "KindStreets" "measures" "LKindStreets$Measures;") (by decide +kernel)) (fun _ h9 => h9) dX9_measures_22 ?_
      obtain ⟨v6, hv6, hE⟩ := Option.bind_eq_some_iff.mp hE
      refine r_gI 2 (C := RX1) (T := TX1) (N := 4) (ci := 1) hx hb hts (by decide +kernel) hown hK hH hv6 rfl (by decide) (hts (.fieldLink RX9 84 "KindStreets$Measures" "measured" "I") (by decide +kernel)) (fun _ h9 => h9) dX9_measures_25 ?_
      refine lv_iconst (v := 4) hx hb dX9_measures_28 (by decide) ?_
      refine lv_icmp_lt (tgt := 35) hx hb dX9_measures_29 (by decide) (fun c7 => ?_) (fun c7 => ?_)
      · rw [if_pos c7] at hE
        refine lv_aload_n hx hb dX9_measures_35 rfl (lv_at hl 0 rfl) ?_
        obtain ⟨v8, hv8, hE⟩ := Option.bind_eq_some_iff.mp hE
        refine r_gR 8 (C := RX9) (T := TX9) (N := 10) (ci := 8) hx hb hts (by decide +kernel) hown hK hH hv8 rfl (by decide) (hts (.fieldLink RX9 54 "KindStreets" "measures" "LKindStreets$Measures;") (by decide +kernel)) (fun _ h9 => h9) dX9_measures_36 ?_
        refine lv_iload_n hx hb dX9_measures_39 rfl (lv_at hl 1 rfl) ?_
        refine lv_iload_n hx hb dX9_measures_40 rfl (lv_at hl 2 rfl) ?_
        obtain ⟨z9, hz9, hE⟩ := Option.bind_eq_some_iff.mp hE
        refine r_callV (va_runV (As := [.int x1, .int x2]) (rest := []) ⟨hx, hb, hml, hown, hts⟩ (sX1_add l b0 D cA hz9) (cwV 2 hts gX9_measures_X1_add rfl rfl rfl (by decide +kernel) (rm_ok (by decide) (by decide))) (pre_V (ci := 1) hK hH (oX1_add hz9) rfl) rfl rfl hl.1 rfl (lv_room (Nat.le_of_ble_eq_true rfl)) dX9_measures_41 ⟨Nat.zero_le _, Nat.zero_le _⟩) hS (fun H locs hH hS => ?_)
        refine lv_aload_n hx hb dX9_measures_44 rfl (lv_at hl 0 rfl) ?_
        obtain ⟨v10, hv10, hE⟩ := Option.bind_eq_some_iff.mp hE
        refine r_gR 8 (C := RX9) (T := TX9) (N := 10) (ci := 8) hx hb hts (by decide +kernel) hown hK hH hv10 rfl (by decide) (hts (.fieldLink RX9 54 "KindStreets" "measures" "LKindStreets$Measures;") (by decide +kernel)) (fun _ h9 => h9) dX9_measures_45 ?_
        obtain ⟨v11, hv11, hE⟩ := Option.bind_eq_some_iff.mp hE
        refine r_gI 2 (C := RX1) (T := TX1) (N := 4) (ci := 1) hx hb hts (by decide +kernel) hown hK hH hv11 rfl (by decide) (hts (.fieldLink RX9 84 "KindStreets$Measures" "measured" "I") (by decide +kernel)) (fun _ h9 => h9) dX9_measures_48 ?_
        have hZ := Option.some.inj hE
        subst hZ
        exact W.iret (v := v11) hx hb hr (fun t ht hW => ⟨rfl, by rw [ht]; exact hH, hS.F ht⟩) hS.2.2 dX9_measures_51
      · rw [if_neg c7] at hE
        refine lv_bipush (v := (-3)) hx hb dX9_measures_32 (by decide) ?_
        have hZ := Option.some.inj hE
        subst hZ
        exact W.iret (v := (-3)) hx hb hr (fun t ht hW => ⟨rfl, by rw [ht]; exact hH, hS.F ht⟩) hS.2.2 dX9_measures_34
    · rw [if_pos c4] at hE
      exact sX9_measures_b19 (F := F) hC hE _ _ _ hH hS (lv_sub hl [] rfl)
-- X9_forget
def fX9_forget (F : Nat) (L : HL) (a0 : Nat) : Option (Int32 × HL) := (o_ob L a0 8).bind fun _ => (o_gR L a0 8 8).bind fun v1 => (o_gI L v1 1 2).bind fun v2 => (o_gR L a0 8 8).bind fun v3 => (o_p L v3 1 2 (.int 0)).bind fun L4 => some (v2, L4)
theorem oX9_forget {F : Nat} {L : HL} {a0 : Nat} {z : (Int32 × HL)} (hE : fX9_forget F L a0 = some z) : o_ob L a0 8 = some () := by
  obtain ⟨_, h, _⟩ := Option.bind_eq_some_iff.mp hE
  exact h
set_option maxHeartbeats 4000000 in
set_option maxRecDepth 100000 in
theorem sX9_forget (l : Launch) (b0 : Nat) (D : va_G) (cA : Nat → ClassId) {F : Nat} {L : HL} {a0 : Nat} {z : (Int32 × HL)} (hE : fX9_forget F L a0 = some z) : Met l yX9_forget wsX9_forget (RM 0 0 0) (Pk b0 D cA [.ref (b0 + a0)] L) (Qk b0 D cA (some (.int z.1)) z.2) 0 0 (Ab b0) := by
  refine Met.ofW (cc := cX9_forget) (maxL := 2) (ret := (some .int)) (by decide) rfl ?_
  intro p ev s m args below meth c s₁ B hml hv
  obtain ⟨rfl, hH, hK⟩ := hv
  have hx := B.exec
  have hb := B.bytes
  have hr := B.returns
  have hts := atoms_spec (ws := wsX9_forget) B.pre
  have hown : s.vm.findClass RX9 = some m.cls := findClass_of_methodNamed B.named
  have hlocks := B.notSynchronized
  have hC : Cx D cA p s m _ meth c cX9_forget 2 RX9 wsX9_forget (some .int) := ⟨hx, hb, hml, hown, hts, hK, hr, hlocks⟩
  have hS : va_S (Ab b0) s.heap s.heap [] := va_S.rf
  have hl := lv_entry ([.ref (b0 + a0)]) (n := 2) (Nat.le_of_ble_eq_true rfl)
  rw [lg_entry_eq]
  generalize (lg_sl ([.ref (b0 + a0)]) ++ List.replicate (2 - (lg_sl ([.ref (b0 + a0)])).length) Slot.unset).toArray = ls at hl ⊢
  have hl : lv_has ls 2 [(0, .ref (b0 + a0))] := hl
  unfold fX9_forget at hE
  obtain ⟨_, _, hE⟩ := Option.bind_eq_some_iff.mp hE
  refine lv_aload_n hx hb dX9_forget_0 rfl (lv_at hl 0 rfl) ?_
  obtain ⟨v1, hv1, hE⟩ := Option.bind_eq_some_iff.mp hE
  refine r_gR 8 (C := RX9) (T := TX9) (N := 10) (ci := 8) hx hb hts (by decide +kernel) hown hK hH hv1 rfl (by decide) (hts (.fieldLink RX9 54 "KindStreets" "measures" "LKindStreets$Measures;") (by decide +kernel)) (fun _ h9 => h9) dX9_forget_1 ?_
  obtain ⟨v2, hv2, hE⟩ := Option.bind_eq_some_iff.mp hE
  refine r_gI 2 (C := RX1) (T := TX1) (N := 4) (ci := 1) hx hb hts (by decide +kernel) hown hK hH hv2 rfl (by decide) (hts (.fieldLink RX9 84 "KindStreets$Measures" "measured" "I") (by decide +kernel)) (fun _ h9 => h9) dX9_forget_4 ?_
  refine lv_istore_n (lv' := [(1, .int v2), (0, .ref (b0 + a0))]) hx hb dX9_forget_7 rfl hl (by decide) rfl (fun ls hl => ?_)
  refine lv_aload_n hx hb dX9_forget_8 rfl (lv_at hl 1 rfl) ?_
  obtain ⟨v3, hv3, hE⟩ := Option.bind_eq_some_iff.mp hE
  refine r_gR 8 (C := RX9) (T := TX9) (N := 10) (ci := 8) hx hb hts (by decide +kernel) hown hK hH hv3 rfl (by decide) (hts (.fieldLink RX9 54 "KindStreets" "measures" "LKindStreets$Measures;") (by decide +kernel)) (fun _ h9 => h9) dX9_forget_9 ?_
  refine lv_iconst (v := 0) hx hb dX9_forget_12 (by decide) ?_
  obtain ⟨L4, hL4, hE⟩ := Option.bind_eq_some_iff.mp hE
  refine r_p 2 (v := .int 0) (ty := .int) (C := RX1) (T := TX1) (N := 4) (ci := 1) hx hb hts (by decide +kernel) tyX1 tyX1_ok nmX1 hown hK hH hS hL4 rfl (by decide) (hts (.fieldLink RX9 84 "KindStreets$Measures" "measured" "I") (by decide +kernel)) (fun _ h9 => h9) rfl (by decide +kernel) rfl rfl dX9_forget_13 (fun H locs hH hS => ?_)
  refine lv_iload_n hx hb dX9_forget_16 rfl (lv_at hl 0 rfl) ?_
  have hZ := Option.some.inj hE
  subst hZ
  exact W.iret (v := v2) hx hb hr (fun t ht hW => ⟨rfl, by rw [ht]; exact hH, hS.F ht⟩) hS.2.2 dX9_forget_17
-- X9_deeds
def fX9_deeds (F : Nat) (L : HL) (a0 : Nat) (x1 : Int32) : Option (Int32 × HL) := (o_ob L a0 8).bind fun _ => if x1 = 0 then ((o_gR L a0 8 8).bind fun v2 => (fX1_manyDeeds F L v2).bind fun z3 => some (z3.1, z3.2)) else if x1 = 1 then ((o_gR L a0 8 8).bind fun v5 => (fX1_firstDeeds F L v5).bind fun z6 => some (z6.1, z6.2)) else some ((-1), L)
theorem oX9_deeds {F : Nat} {L : HL} {a0 : Nat} {x1 : Int32} {z : (Int32 × HL)} (hE : fX9_deeds F L a0 x1 = some z) : o_ob L a0 8 = some () := by
  obtain ⟨_, h, _⟩ := Option.bind_eq_some_iff.mp hE
  exact h
set_option maxHeartbeats 4000000 in
set_option maxRecDepth 100000 in
theorem sX9_deeds (l : Launch) (b0 : Nat) (D : va_G) (cA : Nat → ClassId) {F : Nat} {L : HL} {a0 : Nat} {x1 : Int32} {z : (Int32 × HL)} (hE : fX9_deeds F L a0 x1 = some z) : Met l yX9_deeds wsX9_deeds (RM 5 0 0) (Pk b0 D cA [.ref (b0 + a0), .int x1] L) (Qk b0 D cA (some (.int z.1)) z.2) 0 0 (Ab b0) := by
  refine Met.ofW (cc := cX9_deeds) (maxL := 2) (ret := (some .int)) (by decide) rfl ?_
  intro p ev s m args below meth c s₁ B hml hv
  obtain ⟨rfl, hH, hK⟩ := hv
  have hx := B.exec
  have hb := B.bytes
  have hr := B.returns
  have hts := atoms_spec (ws := wsX9_deeds) B.pre
  have hown : s.vm.findClass RX9 = some m.cls := findClass_of_methodNamed B.named
  have hlocks := B.notSynchronized
  have hC : Cx D cA p s m _ meth c cX9_deeds 2 RX9 wsX9_deeds (some .int) := ⟨hx, hb, hml, hown, hts, hK, hr, hlocks⟩
  have hS : va_S (Ab b0) s.heap s.heap [] := va_S.rf
  have hl := lv_entry ([.ref (b0 + a0), .int x1]) (n := 2) (Nat.le_of_ble_eq_true rfl)
  rw [lg_entry_eq]
  generalize (lg_sl ([.ref (b0 + a0), .int x1]) ++ List.replicate (2 - (lg_sl ([.ref (b0 + a0), .int x1])).length) Slot.unset).toArray = ls at hl ⊢
  have hl : lv_has ls 2 [(0, .ref (b0 + a0)), (1, .int x1)] := hl
  unfold fX9_deeds at hE
  obtain ⟨_, _, hE⟩ := Option.bind_eq_some_iff.mp hE
  refine lv_iload_n hx hb dX9_deeds_0 rfl (lv_at hl 1 rfl) ?_
  by_cases c1 : x1 = 0
  · rw [if_pos c1] at hE
    refine lv_lookup (tgt := 28) (off := 27) hx hb dX9_deeds_1 (by decide) (by rw [c1]; rfl) (by decide) ?_
    refine lv_aload_n hx hb dX9_deeds_28 rfl (lv_at hl 0 rfl) ?_
    obtain ⟨v2, hv2, hE⟩ := Option.bind_eq_some_iff.mp hE
    refine r_gR 8 (C := RX9) (T := TX9) (N := 10) (ci := 8) hx hb hts (by decide +kernel) hown hK hH hv2 rfl (by decide) (hts (.fieldLink RX9 54 "KindStreets" "measures" "LKindStreets$Measures;") (by decide +kernel)) (fun _ h9 => h9) dX9_deeds_29 ?_
    obtain ⟨z3, hz3, hE⟩ := Option.bind_eq_some_iff.mp hE
    refine r_callI (va_runV (As := []) (rest := []) ⟨hx, hb, hml, hown, hts⟩ (sX1_manyDeeds l b0 D cA hz3) (cwV 0 hts gX9_deeds_X1_manyDeeds rfl rfl rfl (by decide +kernel) (rm_ok (by decide) (by decide))) (pre_V (ci := 1) hK hH (oX1_manyDeeds hz3) rfl) rfl rfl hl.1 rfl (lv_room (Nat.le_of_ble_eq_true rfl)) dX9_deeds_32 ⟨Nat.zero_le _, Nat.zero_le _⟩) hS (fun H locs hH hS => ?_)
    have hZ := Option.some.inj hE
    subst hZ
    exact W.iret (v := z3.1) hx hb hr (fun t ht hW => ⟨rfl, by rw [ht]; exact hH, hS.F ht⟩) hS.2.2 dX9_deeds_35
  rw [if_neg c1] at hE
  by_cases c4 : x1 = 1
  · rw [if_pos c4] at hE
    refine lv_lookup (tgt := 36) (off := 35) hx hb dX9_deeds_1 (by decide) (by rw [c4]; rfl) (by decide) ?_
    refine lv_aload_n hx hb dX9_deeds_36 rfl (lv_at hl 0 rfl) ?_
    obtain ⟨v5, hv5, hE⟩ := Option.bind_eq_some_iff.mp hE
    refine r_gR 8 (C := RX9) (T := TX9) (N := 10) (ci := 8) hx hb hts (by decide +kernel) hown hK hH hv5 rfl (by decide) (hts (.fieldLink RX9 54 "KindStreets" "measures" "LKindStreets$Measures;") (by decide +kernel)) (fun _ h9 => h9) dX9_deeds_37 ?_
    obtain ⟨z6, hz6, hE⟩ := Option.bind_eq_some_iff.mp hE
    refine r_callI (va_runV (As := []) (rest := []) ⟨hx, hb, hml, hown, hts⟩ (sX1_firstDeeds l b0 D cA hz6) (cwV 0 hts gX9_deeds_X1_firstDeeds rfl rfl rfl (by decide +kernel) (rm_ok (by decide) (by decide))) (pre_V (ci := 1) hK hH (oX1_firstDeeds hz6) rfl) rfl rfl hl.1 rfl (lv_room (Nat.le_of_ble_eq_true rfl)) dX9_deeds_40 ⟨Nat.zero_le _, Nat.zero_le _⟩) hS (fun H locs hH hS => ?_)
    have hZ := Option.some.inj hE
    subst hZ
    exact W.iret (v := z6.1) hx hb hr (fun t ht hW => ⟨rfl, by rw [ht]; exact hH, hS.F ht⟩) hS.2.2 dX9_deeds_43
  rw [if_neg c4] at hE
  refine lv_lookup (tgt := 44) (off := 43) hx hb dX9_deeds_1 (by decide) (by have q0 := sw_ne (k := 0) (by decide) c1; have q1 := sw_ne (k := 1) (by decide) c4; simp [Op.lookupswitch.offset, q0, Ne.symm q0, q1, Ne.symm q1]; done) (by decide) ?_
  refine lv_iconst (v := (-1)) hx hb dX9_deeds_44 (by decide) ?_
  have hZ := Option.some.inj hE
  subst hZ
  exact W.iret (v := (-1)) hx hb hr (fun t ht hW => ⟨rfl, by rw [ht]; exact hH, hS.F ht⟩) hS.2.2 dX9_deeds_45
-- X9_when
def fX9_when (F : Nat) (L : HL) (a0 : Nat) : Option (Int32 × HL) := (o_ob L a0 8).bind fun _ => (o_gR L a0 8 8).bind fun v1 => (fX1_mostAlike F L v1 0).bind fun z2 => if z2.1 = 0 then (some ((-9), z2.2)) else ((o_gR z2.2 a0 8 8).bind fun v4 => (fX1_mostAlike F z2.2 v4 1).bind fun z5 => if z5.1 < z2.1 then (some (1, z5.2)) else (some (0, z5.2)))
theorem oX9_when {F : Nat} {L : HL} {a0 : Nat} {z : (Int32 × HL)} (hE : fX9_when F L a0 = some z) : o_ob L a0 8 = some () := by
  obtain ⟨_, h, _⟩ := Option.bind_eq_some_iff.mp hE
  exact h
set_option maxHeartbeats 4000000 in
set_option maxRecDepth 100000 in
theorem sX9_when (l : Launch) (b0 : Nat) (D : va_G) (cA : Nat → ClassId) {F : Nat} {L : HL} {a0 : Nat} {z : (Int32 × HL)} (hE : fX9_when F L a0 = some z) : Met l yX9_when wsX9_when (RM 5 0 0) (Pk b0 D cA [.ref (b0 + a0)] L) (Qk b0 D cA (some (.int z.1)) z.2) 0 0 (Ab b0) := by
  refine Met.ofW (cc := cX9_when) (maxL := 2) (ret := (some .int)) (by decide) rfl ?_
  intro p ev s m args below meth c s₁ B hml hv
  obtain ⟨rfl, hH, hK⟩ := hv
  have hx := B.exec
  have hb := B.bytes
  have hr := B.returns
  have hts := atoms_spec (ws := wsX9_when) B.pre
  have hown : s.vm.findClass RX9 = some m.cls := findClass_of_methodNamed B.named
  have hlocks := B.notSynchronized
  have hC : Cx D cA p s m _ meth c cX9_when 2 RX9 wsX9_when (some .int) := ⟨hx, hb, hml, hown, hts, hK, hr, hlocks⟩
  have hS : va_S (Ab b0) s.heap s.heap [] := va_S.rf
  have hl := lv_entry ([.ref (b0 + a0)]) (n := 2) (Nat.le_of_ble_eq_true rfl)
  rw [lg_entry_eq]
  generalize (lg_sl ([.ref (b0 + a0)]) ++ List.replicate (2 - (lg_sl ([.ref (b0 + a0)])).length) Slot.unset).toArray = ls at hl ⊢
  have hl : lv_has ls 2 [(0, .ref (b0 + a0))] := hl
  unfold fX9_when at hE
  obtain ⟨_, _, hE⟩ := Option.bind_eq_some_iff.mp hE
  refine lv_aload_n hx hb dX9_when_0 rfl (lv_at hl 0 rfl) ?_
  obtain ⟨v1, hv1, hE⟩ := Option.bind_eq_some_iff.mp hE
  refine r_gR 8 (C := RX9) (T := TX9) (N := 10) (ci := 8) hx hb hts (by decide +kernel) hown hK hH hv1 rfl (by decide) (hts (.fieldLink RX9 54 "KindStreets" "measures" "LKindStreets$Measures;") (by decide +kernel)) (fun _ h9 => h9) dX9_when_1 ?_
  refine lv_iconst (v := 0) hx hb dX9_when_4 (by decide) ?_
  obtain ⟨z2, hz2, hE⟩ := Option.bind_eq_some_iff.mp hE
  refine r_callI (va_runV (As := [.int 0]) (rest := []) ⟨hx, hb, hml, hown, hts⟩ (sX1_mostAlike l b0 D cA hz2) (cwV 1 hts gX9_when_X1_mostAlike rfl rfl rfl (by decide +kernel) (rm_ok (by decide) (by decide))) (pre_V (ci := 1) hK hH (oX1_mostAlike hz2) rfl) rfl rfl hl.1 rfl (lv_room (Nat.le_of_ble_eq_true rfl)) dX9_when_5 ⟨Nat.zero_le _, Nat.zero_le _⟩) hS (fun H locs hH hS => ?_)
  refine lv_istore_n (lv' := [(1, .int z2.1), (0, .ref (b0 + a0))]) hx hb dX9_when_8 rfl hl (by decide) rfl (fun ls hl => ?_)
  refine lv_iload_n hx hb dX9_when_9 rfl (lv_at hl 0 rfl) ?_
  refine lv_if_ne (tgt := 16) hx hb dX9_when_10 (by decide) (fun c3 => ?_) (fun c3 => ?_)
  · rw [if_neg c3] at hE
    refine lv_iload_n hx hb dX9_when_16 rfl (lv_at hl 0 rfl) ?_
    refine lv_aload_n hx hb dX9_when_17 rfl (lv_at hl 1 rfl) ?_
    obtain ⟨v4, hv4, hE⟩ := Option.bind_eq_some_iff.mp hE
    refine r_gR 8 (C := RX9) (T := TX9) (N := 10) (ci := 8) hx hb hts (by decide +kernel) hown hK hH hv4 rfl (by decide) (hts (.fieldLink RX9 54 "KindStreets" "measures" "LKindStreets$Measures;") (by decide +kernel)) (fun _ h9 => h9) dX9_when_18 ?_
    refine lv_iconst (v := 1) hx hb dX9_when_21 (by decide) ?_
    obtain ⟨z5, hz5, hE⟩ := Option.bind_eq_some_iff.mp hE
    refine r_callI (va_runV (As := [.int 1]) (rest := [.int z2.1]) ⟨hx, hb, hml, hown, hts⟩ (sX1_mostAlike l b0 D cA hz5) (cwV 1 hts gX9_when_X1_mostAlike rfl rfl rfl (by decide +kernel) (rm_ok (by decide) (by decide))) (pre_V (ci := 1) hK hH (oX1_mostAlike hz5) rfl) rfl rfl hl.1 rfl (lv_room (Nat.le_of_ble_eq_true rfl)) dX9_when_22 ⟨Nat.zero_le _, Nat.zero_le _⟩) hS (fun H locs hH hS => ?_)
    refine lv_icmp_gt (tgt := 32) hx hb dX9_when_25 (by decide) (fun c6 => ?_) (fun c6 => ?_)
    · rw [if_pos c6] at hE
      refine lv_iconst (v := 1) hx hb dX9_when_32 (by decide) ?_
      have hZ := Option.some.inj hE
      subst hZ
      exact W.iret (v := 1) hx hb hr (fun t ht hW => ⟨rfl, by rw [ht]; exact hH, hS.F ht⟩) hS.2.2 dX9_when_33
    · rw [if_neg c6] at hE
      refine lv_iconst (v := 0) hx hb dX9_when_28 (by decide) ?_
      refine lv_goto (tgt := 33) hx hb dX9_when_29 (by decide) ?_
      have hZ := Option.some.inj hE
      subst hZ
      exact W.iret (v := 0) hx hb hr (fun t ht hW => ⟨rfl, by rw [ht]; exact hH, hS.F ht⟩) hS.2.2 dX9_when_33
  · rw [if_pos c3] at hE
    refine lv_bipush (v := (-9)) hx hb dX9_when_13 (by decide) ?_
    have hZ := Option.some.inj hE
    subst hZ
    exact W.iret (v := (-9)) hx hb hr (fun t ht hW => ⟨rfl, by rw [ht]; exact hH, hS.F ht⟩) hS.2.2 dX9_when_15
-- X9_mark
def fX9_mark (F : Nat) (L : HL) (a0 : Nat) (x1 : Int32) (x2 : Int32) : Option (Int32 × HL) := (o_ob L a0 8).bind fun _ => (fX9_isStreet F L a0 x2).bind fun z1 => if z1.1 = 0 then (some ((-1000000), z1.2)) else (if x1 = 0 then ((fX9_markAsStreet F z1.2 a0 x2).bind fun z4 => some (z4.1, z4.2)) else if x1 = 1 then ((fX9_markAsCross F z1.2 a0 x2).bind fun z6 => some (z6.1, z6.2)) else if x1 = 2 then ((fX9_markAsLane F z1.2 a0 x2).bind fun z8 => some (z8.1, z8.2)) else if x1 = 3 then ((fX9_markAsBoulevard F z1.2 a0 x2).bind fun z10 => some (z10.1, z10.2)) else if x1 = 4 then ((fX9_markAsCourt F z1.2 a0 x2).bind fun z12 => some (z12.1, z12.2)) else if x1 = 5 then ((fX9_markAsAlley F z1.2 a0 x2).bind fun z14 => some (z14.1, z14.2)) else some ((-1000000), z1.2))
theorem oX9_mark {F : Nat} {L : HL} {a0 : Nat} {x1 : Int32} {x2 : Int32} {z : (Int32 × HL)} (hE : fX9_mark F L a0 x1 x2 = some z) : o_ob L a0 8 = some () := by
  obtain ⟨_, h, _⟩ := Option.bind_eq_some_iff.mp hE
  exact h
set_option maxHeartbeats 4000000 in
set_option maxRecDepth 100000 in
theorem sX9_mark (l : Launch) (b0 : Nat) (D : va_G) (cA : Nat → ClassId) {F : Nat} {L : HL} {a0 : Nat} {x1 : Int32} {x2 : Int32} {z : (Int32 × HL)} (hE : fX9_mark F L a0 x1 x2 = some z) : Met l yX9_mark wsX9_mark (RM 6 0 0) (Pk b0 D cA [.ref (b0 + a0), .int x1, .int x2] L) (Qk b0 D cA (some (.int z.1)) z.2) 0 0 (Ab b0) := by
  refine Met.ofW (cc := cX9_mark) (maxL := 3) (ret := (some .int)) (by decide) rfl ?_
  intro p ev s m args below meth c s₁ B hml hv
  obtain ⟨rfl, hH, hK⟩ := hv
  have hx := B.exec
  have hb := B.bytes
  have hr := B.returns
  have hts := atoms_spec (ws := wsX9_mark) B.pre
  have hown : s.vm.findClass RX9 = some m.cls := findClass_of_methodNamed B.named
  have hlocks := B.notSynchronized
  have hC : Cx D cA p s m _ meth c cX9_mark 3 RX9 wsX9_mark (some .int) := ⟨hx, hb, hml, hown, hts, hK, hr, hlocks⟩
  have hS : va_S (Ab b0) s.heap s.heap [] := va_S.rf
  have hl := lv_entry ([.ref (b0 + a0), .int x1, .int x2]) (n := 3) (Nat.le_of_ble_eq_true rfl)
  rw [lg_entry_eq]
  generalize (lg_sl ([.ref (b0 + a0), .int x1, .int x2]) ++ List.replicate (3 - (lg_sl ([.ref (b0 + a0), .int x1, .int x2])).length) Slot.unset).toArray = ls at hl ⊢
  have hl : lv_has ls 3 [(0, .ref (b0 + a0)), (1, .int x1), (2, .int x2)] := hl
  unfold fX9_mark at hE
  obtain ⟨_, _, hE⟩ := Option.bind_eq_some_iff.mp hE
  refine lv_aload_n hx hb dX9_mark_0 rfl (lv_at hl 0 rfl) ?_
  refine lv_iload_n hx hb dX9_mark_1 rfl (lv_at hl 2 rfl) ?_
  obtain ⟨z1, hz1, hE⟩ := Option.bind_eq_some_iff.mp hE
  refine r_callI (va_runV (As := [.int x2]) (rest := []) ⟨hx, hb, hml, hown, hts⟩ (sX9_isStreet l b0 D cA hz1) (cwV 1 hts gX9_mark_X9_isStreet rfl rfl rfl (by decide +kernel) (rm_ok (by decide) (by decide))) (pre_V (ci := 8) hK hH (oX9_isStreet hz1) rfl) rfl rfl hl.1 rfl (lv_room (Nat.le_of_ble_eq_true rfl)) dX9_mark_2 ⟨Nat.zero_le _, Nat.zero_le _⟩) hS (fun H locs hH hS => ?_)
  refine lv_if_ne (tgt := 11) hx hb dX9_mark_5 (by decide) (fun c2 => ?_) (fun c2 => ?_)
  · rw [if_neg c2] at hE
    refine lv_iload_n hx hb dX9_mark_11 rfl (lv_at hl 1 rfl) ?_
    by_cases c3 : x1 = 0
    · rw [if_pos c3] at hE
      refine lv_tableIn (tgt := 52) (off := 40) hx hb dX9_mark_12 (by rw [c3]; decide) (by rw [c3]; decide) (by rw [c3]; rfl) (by decide) ?_
      refine lv_aload_n hx hb dX9_mark_52 rfl (lv_at hl 0 rfl) ?_
      refine lv_iload_n hx hb dX9_mark_53 rfl (lv_at hl 2 rfl) ?_
      obtain ⟨z4, hz4, hE⟩ := Option.bind_eq_some_iff.mp hE
      refine r_callI (va_runV (As := [.int x2]) (rest := []) ⟨hx, hb, hml, hown, hts⟩ (sX9_markAsStreet l b0 D cA hz4) (cwV 1 hts gX9_mark_X9_markAsStreet rfl rfl rfl (by decide +kernel) (rm_ok (by decide) (by decide))) (pre_V (ci := 8) hK hH (oX9_markAsStreet hz4) rfl) rfl rfl hl.1 rfl (lv_room (Nat.le_of_ble_eq_true rfl)) dX9_mark_54 ⟨Nat.zero_le _, Nat.zero_le _⟩) hS (fun H locs hH hS => ?_)
      have hZ := Option.some.inj hE
      subst hZ
      exact W.iret (v := z4.1) hx hb hr (fun t ht hW => ⟨rfl, by rw [ht]; exact hH, hS.F ht⟩) hS.2.2 dX9_mark_57
    rw [if_neg c3] at hE
    by_cases c5 : x1 = 1
    · rw [if_pos c5] at hE
      refine lv_tableIn (tgt := 58) (off := 46) hx hb dX9_mark_12 (by rw [c5]; decide) (by rw [c5]; decide) (by rw [c5]; rfl) (by decide) ?_
      refine lv_aload_n hx hb dX9_mark_58 rfl (lv_at hl 0 rfl) ?_
      refine lv_iload_n hx hb dX9_mark_59 rfl (lv_at hl 2 rfl) ?_
      obtain ⟨z6, hz6, hE⟩ := Option.bind_eq_some_iff.mp hE
      refine r_callI (va_runV (As := [.int x2]) (rest := []) ⟨hx, hb, hml, hown, hts⟩ (sX9_markAsCross l b0 D cA hz6) (cwV 1 hts gX9_mark_X9_markAsCross rfl rfl rfl (by decide +kernel) (rm_ok (by decide) (by decide))) (pre_V (ci := 8) hK hH (oX9_markAsCross hz6) rfl) rfl rfl hl.1 rfl (lv_room (Nat.le_of_ble_eq_true rfl)) dX9_mark_60 ⟨Nat.zero_le _, Nat.zero_le _⟩) hS (fun H locs hH hS => ?_)
      have hZ := Option.some.inj hE
      subst hZ
      exact W.iret (v := z6.1) hx hb hr (fun t ht hW => ⟨rfl, by rw [ht]; exact hH, hS.F ht⟩) hS.2.2 dX9_mark_63
    rw [if_neg c5] at hE
    by_cases c7 : x1 = 2
    · rw [if_pos c7] at hE
      refine lv_tableIn (tgt := 64) (off := 52) hx hb dX9_mark_12 (by rw [c7]; decide) (by rw [c7]; decide) (by rw [c7]; rfl) (by decide) ?_
      refine lv_aload_n hx hb dX9_mark_64 rfl (lv_at hl 0 rfl) ?_
      refine lv_iload_n hx hb dX9_mark_65 rfl (lv_at hl 2 rfl) ?_
      obtain ⟨z8, hz8, hE⟩ := Option.bind_eq_some_iff.mp hE
      refine r_callI (va_runV (As := [.int x2]) (rest := []) ⟨hx, hb, hml, hown, hts⟩ (sX9_markAsLane l b0 D cA hz8) (cwV 1 hts gX9_mark_X9_markAsLane rfl rfl rfl (by decide +kernel) (rm_ok (by decide) (by decide))) (pre_V (ci := 8) hK hH (oX9_markAsLane hz8) rfl) rfl rfl hl.1 rfl (lv_room (Nat.le_of_ble_eq_true rfl)) dX9_mark_66 ⟨Nat.zero_le _, Nat.zero_le _⟩) hS (fun H locs hH hS => ?_)
      have hZ := Option.some.inj hE
      subst hZ
      exact W.iret (v := z8.1) hx hb hr (fun t ht hW => ⟨rfl, by rw [ht]; exact hH, hS.F ht⟩) hS.2.2 dX9_mark_69
    rw [if_neg c7] at hE
    by_cases c9 : x1 = 3
    · rw [if_pos c9] at hE
      refine lv_tableIn (tgt := 70) (off := 58) hx hb dX9_mark_12 (by rw [c9]; decide) (by rw [c9]; decide) (by rw [c9]; rfl) (by decide) ?_
      refine lv_aload_n hx hb dX9_mark_70 rfl (lv_at hl 0 rfl) ?_
      refine lv_iload_n hx hb dX9_mark_71 rfl (lv_at hl 2 rfl) ?_
      obtain ⟨z10, hz10, hE⟩ := Option.bind_eq_some_iff.mp hE
      refine r_callI (va_runV (As := [.int x2]) (rest := []) ⟨hx, hb, hml, hown, hts⟩ (sX9_markAsBoulevard l b0 D cA hz10) (cwV 1 hts gX9_mark_X9_markAsBoulevard rfl rfl rfl (by decide +kernel) (rm_ok (by decide) (by decide))) (pre_V (ci := 8) hK hH (oX9_markAsBoulevard hz10) rfl) rfl rfl hl.1 rfl (lv_room (Nat.le_of_ble_eq_true rfl)) dX9_mark_72 ⟨Nat.zero_le _, Nat.zero_le _⟩) hS (fun H locs hH hS => ?_)
      have hZ := Option.some.inj hE
      subst hZ
      exact W.iret (v := z10.1) hx hb hr (fun t ht hW => ⟨rfl, by rw [ht]; exact hH, hS.F ht⟩) hS.2.2 dX9_mark_75
    rw [if_neg c9] at hE
    by_cases c11 : x1 = 4
    · rw [if_pos c11] at hE
      refine lv_tableIn (tgt := 76) (off := 64) hx hb dX9_mark_12 (by rw [c11]; decide) (by rw [c11]; decide) (by rw [c11]; rfl) (by decide) ?_
      refine lv_aload_n hx hb dX9_mark_76 rfl (lv_at hl 0 rfl) ?_
      refine lv_iload_n hx hb dX9_mark_77 rfl (lv_at hl 2 rfl) ?_
      obtain ⟨z12, hz12, hE⟩ := Option.bind_eq_some_iff.mp hE
      refine r_callI (va_runV (As := [.int x2]) (rest := []) ⟨hx, hb, hml, hown, hts⟩ (sX9_markAsCourt l b0 D cA hz12) (cwV 1 hts gX9_mark_X9_markAsCourt rfl rfl rfl (by decide +kernel) (rm_ok (by decide) (by decide))) (pre_V (ci := 8) hK hH (oX9_markAsCourt hz12) rfl) rfl rfl hl.1 rfl (lv_room (Nat.le_of_ble_eq_true rfl)) dX9_mark_78 ⟨Nat.zero_le _, Nat.zero_le _⟩) hS (fun H locs hH hS => ?_)
      have hZ := Option.some.inj hE
      subst hZ
      exact W.iret (v := z12.1) hx hb hr (fun t ht hW => ⟨rfl, by rw [ht]; exact hH, hS.F ht⟩) hS.2.2 dX9_mark_81
    rw [if_neg c11] at hE
    by_cases c13 : x1 = 5
    · rw [if_pos c13] at hE
      refine lv_tableIn (tgt := 82) (off := 70) hx hb dX9_mark_12 (by rw [c13]; decide) (by rw [c13]; decide) (by rw [c13]; rfl) (by decide) ?_
      refine lv_aload_n hx hb dX9_mark_82 rfl (lv_at hl 0 rfl) ?_
      refine lv_iload_n hx hb dX9_mark_83 rfl (lv_at hl 2 rfl) ?_
      obtain ⟨z14, hz14, hE⟩ := Option.bind_eq_some_iff.mp hE
      refine r_callI (va_runV (As := [.int x2]) (rest := []) ⟨hx, hb, hml, hown, hts⟩ (sX9_markAsAlley l b0 D cA hz14) (cwV 1 hts gX9_mark_X9_markAsAlley rfl rfl rfl (by decide +kernel) (rm_ok (by decide) (by decide))) (pre_V (ci := 8) hK hH (oX9_markAsAlley hz14) rfl) rfl rfl hl.1 rfl (lv_room (Nat.le_of_ble_eq_true rfl)) dX9_mark_84 ⟨Nat.zero_le _, Nat.zero_le _⟩) hS (fun H locs hH hS => ?_)
      have hZ := Option.some.inj hE
      subst hZ
      exact W.iret (v := z14.1) hx hb hr (fun t ht hW => ⟨rfl, by rw [ht]; exact hH, hS.F ht⟩) hS.2.2 dX9_mark_87
    rw [if_neg c13] at hE
    refine lv_tableOut (tgt := 88) hx hb dX9_mark_12 (by have q0 := sw_ne (k := 0) (by decide) c3; have q1 := sw_ne (k := 1) (by decide) c5; have q2 := sw_ne (k := 2) (by decide) c7; have q3 := sw_ne (k := 3) (by decide) c9; have q4 := sw_ne (k := 4) (by decide) c11; have q5 := sw_ne (k := 5) (by decide) c13; omega) (by decide) ?_
    refine lv_ldc hx hb hown (hts (.constant RX9 232 (-1000000)) (by decide +kernel)) dX9_mark_88 ?_
    have hZ := Option.some.inj hE
    subst hZ
    exact W.iret (v := (-1000000)) hx hb hr (fun t ht hW => ⟨rfl, by rw [ht]; exact hH, hS.F ht⟩) hS.2.2 dX9_mark_90
  · rw [if_pos c2] at hE
    refine lv_ldc hx hb hown (hts (.constant RX9 232 (-1000000)) (by decide +kernel)) dX9_mark_8 ?_
    have hZ := Option.some.inj hE
    subst hZ
    exact W.iret (v := (-1000000)) hx hb hr (fun t ht hW => ⟨rfl, by rw [ht]; exact hH, hS.F ht⟩) hS.2.2 dX9_mark_10
-- X9_keep
def fX9_keep (F : Nat) (L : HL) (a0 : Nat) (x1 : Int32) : Option (Int32 × HL) := (o_ob L a0 8).bind fun _ => (fX9_isWithin F L x1 0 1).bind fun z1 => if z1.1 = 0 then (some ((-1), z1.2)) else ((o_gR z1.2 a0 8 4).bind fun v3 => (o_aR z1.2 v3 4 x1).bind fun v4 => (o_gR z1.2 a0 8 3).bind fun v5 => (fX3_become F z1.2 v4 v5).bind fun z6 => (o_gI z6 a0 8 5).bind fun v7 => (o_p z6 a0 8 5 (.int (v7 ||| ((1 : Int32) <<< (x1 &&& 31))))).bind fun L8 => (o_gR L8 a0 8 3).bind fun v9 => (o_gR L8 v9 3 0).bind fun v10 => (o_gI L8 v10 2 4).bind fun v11 => some (v11, L8))
theorem oX9_keep {F : Nat} {L : HL} {a0 : Nat} {x1 : Int32} {z : (Int32 × HL)} (hE : fX9_keep F L a0 x1 = some z) : o_ob L a0 8 = some () := by
  obtain ⟨_, h, _⟩ := Option.bind_eq_some_iff.mp hE
  exact h
set_option maxHeartbeats 4000000 in
set_option maxRecDepth 100000 in
theorem sX9_keep (l : Launch) (b0 : Nat) (D : va_G) (cA : Nat → ClassId) {F : Nat} {L : HL} {a0 : Nat} {x1 : Int32} {z : (Int32 × HL)} (hE : fX9_keep F L a0 x1 = some z) : Met l yX9_keep wsX9_keep (RM 3 0 0) (Pk b0 D cA [.ref (b0 + a0), .int x1] L) (Qk b0 D cA (some (.int z.1)) z.2) 0 0 (Ab b0) := by
  refine Met.ofW (cc := cX9_keep) (maxL := 2) (ret := (some .int)) (by decide) rfl ?_
  intro p ev s m args below meth c s₁ B hml hv
  obtain ⟨rfl, hH, hK⟩ := hv
  have hx := B.exec
  have hb := B.bytes
  have hr := B.returns
  have hts := atoms_spec (ws := wsX9_keep) B.pre
  have hown : s.vm.findClass RX9 = some m.cls := findClass_of_methodNamed B.named
  have hlocks := B.notSynchronized
  have hC : Cx D cA p s m _ meth c cX9_keep 2 RX9 wsX9_keep (some .int) := ⟨hx, hb, hml, hown, hts, hK, hr, hlocks⟩
  have hS : va_S (Ab b0) s.heap s.heap [] := va_S.rf
  have hl := lv_entry ([.ref (b0 + a0), .int x1]) (n := 2) (Nat.le_of_ble_eq_true rfl)
  rw [lg_entry_eq]
  generalize (lg_sl ([.ref (b0 + a0), .int x1]) ++ List.replicate (2 - (lg_sl ([.ref (b0 + a0), .int x1])).length) Slot.unset).toArray = ls at hl ⊢
  have hl : lv_has ls 2 [(0, .ref (b0 + a0)), (1, .int x1)] := hl
  unfold fX9_keep at hE
  obtain ⟨_, _, hE⟩ := Option.bind_eq_some_iff.mp hE
  refine lv_iload_n hx hb dX9_keep_0 rfl (lv_at hl 1 rfl) ?_
  refine lv_iconst (v := 0) hx hb dX9_keep_1 (by decide) ?_
  refine lv_iconst (v := 1) hx hb dX9_keep_2 (by decide) ?_
  obtain ⟨z1, hz1, hE⟩ := Option.bind_eq_some_iff.mp hE
  refine r_callI (va_runS (As := [.int x1, .int 0, .int 1]) (rest := []) ⟨hx, hb, hml, hown, hts⟩ (sX9_isWithin l b0 D cA hz1) (va_cwS 3 hts gX9_keep_X9_isWithin rfl rfl rfl (by decide +kernel) (rm_ok (by decide) (by decide))) (pre_S hK hH) rfl rfl hl.1 rfl (lv_room (Nat.le_of_ble_eq_true rfl)) dX9_keep_3 ⟨Nat.zero_le _, Nat.zero_le _⟩) hS (fun H locs hH hS => ?_)
  refine lv_if_ne (tgt := 11) hx hb dX9_keep_6 (by decide) (fun c2 => ?_) (fun c2 => ?_)
  · rw [if_neg c2] at hE
    refine lv_aload_n hx hb dX9_keep_11 rfl (lv_at hl 0 rfl) ?_
    obtain ⟨v3, hv3, hE⟩ := Option.bind_eq_some_iff.mp hE
    refine r_gR 4 (C := RX9) (T := TX9) (N := 10) (ci := 8) hx hb hts (by decide +kernel) hown hK hH hv3 rfl (by decide) (hts (.fieldLink RX9 33 "KindStreets" "images" "[LKindStreets$Now;") (by decide +kernel)) (fun _ h9 => h9) dX9_keep_12 ?_
    refine lv_iload_n hx hb dX9_keep_15 rfl (lv_at hl 1 rfl) ?_
    obtain ⟨v4, hv4, hE⟩ := Option.bind_eq_some_iff.mp hE
    refine r_aald (C := "KindStreets$Now") hx hb hK hH hv4 rfl dX9_keep_16 ?_
    refine lv_aload_n hx hb dX9_keep_17 rfl (lv_at hl 0 rfl) ?_
    obtain ⟨v5, hv5, hE⟩ := Option.bind_eq_some_iff.mp hE
    refine r_gR 3 (C := RX9) (T := TX9) (N := 10) (ci := 8) hx hb hts (by decide +kernel) hown hK hH hv5 rfl (by decide) (hts (.fieldLink RX9 29 "KindStreets" "now" "LKindStreets$Now;") (by decide +kernel)) (fun _ h9 => h9) dX9_keep_18 ?_
    obtain ⟨z6, hz6, hE⟩ := Option.bind_eq_some_iff.mp hE
    refine r_callV (va_runV (As := [.ref (b0 + v5)]) (rest := []) ⟨hx, hb, hml, hown, hts⟩ (sX3_become l b0 D cA hz6) (cwV 1 hts gX9_keep_X3_become rfl rfl rfl (by decide +kernel) (rm_ok (by decide) (by decide))) (pre_V (ci := 3) hK hH (oX3_become hz6) rfl) rfl rfl hl.1 rfl (lv_room (Nat.le_of_ble_eq_true rfl)) dX9_keep_21 ⟨Nat.zero_le _, Nat.zero_le _⟩) hS (fun H locs hH hS => ?_)
    refine lv_aload_n hx hb dX9_keep_24 rfl (lv_at hl 0 rfl) ?_
    refine lv_dup hx hb dX9_keep_25 rfl ?_
    obtain ⟨v7, hv7, hE⟩ := Option.bind_eq_some_iff.mp hE
    refine r_gI 5 (C := RX9) (T := TX9) (N := 10) (ci := 8) hx hb hts (by decide +kernel) hown hK hH hv7 rfl (by decide) (hts (.fieldLink RX9 81 "KindStreets" "kept" "I") (by decide +kernel)) (fun _ h9 => h9) dX9_keep_26 ?_
    refine lv_iconst (v := 1) hx hb dX9_keep_29 (by decide) ?_
    refine lv_iload_n hx hb dX9_keep_30 rfl (lv_at hl 1 rfl) ?_
    refine lv_ishl hx hb dX9_keep_31 ?_
    refine lv_ior hx hb dX9_keep_32 ?_
    obtain ⟨L8, hL8, hE⟩ := Option.bind_eq_some_iff.mp hE
    refine r_p 5 (v := .int (v7 ||| ((1 : Int32) <<< (x1 &&& 31)))) (ty := .int) (C := RX9) (T := TX9) (N := 10) (ci := 8) hx hb hts (by decide +kernel) tyX9 tyX9_ok nmX9 hown hK hH hS hL8 rfl (by decide) (hts (.fieldLink RX9 81 "KindStreets" "kept" "I") (by decide +kernel)) (fun _ h9 => h9) rfl (by decide +kernel) rfl rfl dX9_keep_33 (fun H locs hH hS => ?_)
    refine lv_aload_n hx hb dX9_keep_36 rfl (lv_at hl 0 rfl) ?_
    obtain ⟨v9, hv9, hE⟩ := Option.bind_eq_some_iff.mp hE
    refine r_gR 3 (C := RX9) (T := TX9) (N := 10) (ci := 8) hx hb hts (by decide +kernel) hown hK hH hv9 rfl (by decide) (hts (.fieldLink RX9 29 "KindStreets" "now" "LKindStreets$Now;") (by decide +kernel)) (fun _ h9 => h9) dX9_keep_37 ?_
    obtain ⟨v10, hv10, hE⟩ := Option.bind_eq_some_iff.mp hE
    refine r_gR 0 (C := RX3) (T := TX3) (N := 3) (ci := 3) hx hb hts (by decide +kernel) hown hK hH hv10 rfl (by decide) (hts (.fieldLink RX9 98 "KindStreets$Now" "moment" "LKindStreets$Moment;") (by decide +kernel)) (fun _ h9 => h9) dX9_keep_40 ?_
    obtain ⟨v11, hv11, hE⟩ := Option.bind_eq_some_iff.mp hE
    refine r_gI 4 (C := RX2) (T := TX2) (N := 5) (ci := 2) hx hb hts (by decide +kernel) hown hK hH hv11 rfl (by decide) (hts (.fieldLink RX9 144 "KindStreets$Moment" "night" "I") (by decide +kernel)) (fun _ h9 => h9) dX9_keep_43 ?_
    have hZ := Option.some.inj hE
    subst hZ
    exact W.iret (v := v11) hx hb hr (fun t ht hW => ⟨rfl, by rw [ht]; exact hH, hS.F ht⟩) hS.2.2 dX9_keep_46
  · rw [if_pos c2] at hE
    refine lv_iconst (v := (-1)) hx hb dX9_keep_9 (by decide) ?_
    have hZ := Option.some.inj hE
    subst hZ
    exact W.iret (v := (-1)) hx hb hr (fun t ht hW => ⟨rfl, by rw [ht]; exact hH, hS.F ht⟩) hS.2.2 dX9_keep_10
-- X9_back
def fX9_back (F : Nat) (L : HL) (a0 : Nat) (x1 : Int32) : Option (Int32 × HL) := (o_ob L a0 8).bind fun _ => (fX9_isWithin F L x1 0 1).bind fun z1 => if z1.1 = 0 then (some ((-1), z1.2)) else ((o_gI z1.2 a0 8 5).bind fun v3 => (fX5_has F z1.2 v3 x1).bind fun z4 => if z4.1 = 0 then (some ((-2), z4.2)) else ((o_gR z4.2 a0 8 3).bind fun v6 => (o_gR z4.2 a0 8 4).bind fun v7 => (o_aR z4.2 v7 4 x1).bind fun v8 => (fX3_become F z4.2 v6 v8).bind fun z9 => (o_gR z9 a0 8 3).bind fun v10 => (o_gR z9 v10 3 0).bind fun v11 => (o_gI z9 v11 2 4).bind fun v12 => some (v12, z9)))
theorem oX9_back {F : Nat} {L : HL} {a0 : Nat} {x1 : Int32} {z : (Int32 × HL)} (hE : fX9_back F L a0 x1 = some z) : o_ob L a0 8 = some () := by
  obtain ⟨_, h, _⟩ := Option.bind_eq_some_iff.mp hE
  exact h
set_option maxHeartbeats 4000000 in
set_option maxRecDepth 100000 in
theorem sX9_back (l : Launch) (b0 : Nat) (D : va_G) (cA : Nat → ClassId) {F : Nat} {L : HL} {a0 : Nat} {x1 : Int32} {z : (Int32 × HL)} (hE : fX9_back F L a0 x1 = some z) : Met l yX9_back wsX9_back (RM 3 0 0) (Pk b0 D cA [.ref (b0 + a0), .int x1] L) (Qk b0 D cA (some (.int z.1)) z.2) 0 0 (Ab b0) := by
  refine Met.ofW (cc := cX9_back) (maxL := 2) (ret := (some .int)) (by decide) rfl ?_
  intro p ev s m args below meth c s₁ B hml hv
  obtain ⟨rfl, hH, hK⟩ := hv
  have hx := B.exec
  have hb := B.bytes
  have hr := B.returns
  have hts := atoms_spec (ws := wsX9_back) B.pre
  have hown : s.vm.findClass RX9 = some m.cls := findClass_of_methodNamed B.named
  have hlocks := B.notSynchronized
  have hC : Cx D cA p s m _ meth c cX9_back 2 RX9 wsX9_back (some .int) := ⟨hx, hb, hml, hown, hts, hK, hr, hlocks⟩
  have hS : va_S (Ab b0) s.heap s.heap [] := va_S.rf
  have hl := lv_entry ([.ref (b0 + a0), .int x1]) (n := 2) (Nat.le_of_ble_eq_true rfl)
  rw [lg_entry_eq]
  generalize (lg_sl ([.ref (b0 + a0), .int x1]) ++ List.replicate (2 - (lg_sl ([.ref (b0 + a0), .int x1])).length) Slot.unset).toArray = ls at hl ⊢
  have hl : lv_has ls 2 [(0, .ref (b0 + a0)), (1, .int x1)] := hl
  unfold fX9_back at hE
  obtain ⟨_, _, hE⟩ := Option.bind_eq_some_iff.mp hE
  refine lv_iload_n hx hb dX9_back_0 rfl (lv_at hl 1 rfl) ?_
  refine lv_iconst (v := 0) hx hb dX9_back_1 (by decide) ?_
  refine lv_iconst (v := 1) hx hb dX9_back_2 (by decide) ?_
  obtain ⟨z1, hz1, hE⟩ := Option.bind_eq_some_iff.mp hE
  refine r_callI (va_runS (As := [.int x1, .int 0, .int 1]) (rest := []) ⟨hx, hb, hml, hown, hts⟩ (sX9_isWithin l b0 D cA hz1) (va_cwS 3 hts gX9_back_X9_isWithin rfl rfl rfl (by decide +kernel) (rm_ok (by decide) (by decide))) (pre_S hK hH) rfl rfl hl.1 rfl (lv_room (Nat.le_of_ble_eq_true rfl)) dX9_back_3 ⟨Nat.zero_le _, Nat.zero_le _⟩) hS (fun H locs hH hS => ?_)
  refine lv_if_ne (tgt := 11) hx hb dX9_back_6 (by decide) (fun c2 => ?_) (fun c2 => ?_)
  · rw [if_neg c2] at hE
    refine lv_aload_n hx hb dX9_back_11 rfl (lv_at hl 0 rfl) ?_
    obtain ⟨v3, hv3, hE⟩ := Option.bind_eq_some_iff.mp hE
    refine r_gI 5 (C := RX9) (T := TX9) (N := 10) (ci := 8) hx hb hts (by decide +kernel) hown hK hH hv3 rfl (by decide) (hts (.fieldLink RX9 81 "KindStreets" "kept" "I") (by decide +kernel)) (fun _ h9 => h9) dX9_back_12 ?_
    refine lv_iload_n hx hb dX9_back_15 rfl (lv_at hl 1 rfl) ?_
    obtain ⟨z4, hz4, hE⟩ := Option.bind_eq_some_iff.mp hE
    refine r_callI (va_runS (As := [.int v3, .int x1]) (rest := []) ⟨hx, hb, hml, hown, hts⟩ (sX5_has l b0 D cA hz4) (va_cwS 2 hts gX9_back_X5_has rfl rfl rfl (by decide +kernel) (rm_ok (by decide) (by decide))) (pre_S hK hH) rfl rfl hl.1 rfl (lv_room (Nat.le_of_ble_eq_true rfl)) dX9_back_16 ⟨Nat.zero_le _, Nat.zero_le _⟩) hS (fun H locs hH hS => ?_)
    refine lv_if_ne (tgt := 25) hx hb dX9_back_19 (by decide) (fun c5 => ?_) (fun c5 => ?_)
    · rw [if_neg c5] at hE
      refine lv_aload_n hx hb dX9_back_25 rfl (lv_at hl 0 rfl) ?_
      obtain ⟨v6, hv6, hE⟩ := Option.bind_eq_some_iff.mp hE
      refine r_gR 3 (C := RX9) (T := TX9) (N := 10) (ci := 8) hx hb hts (by decide +kernel) hown hK hH hv6 rfl (by decide) (hts (.fieldLink RX9 29 "KindStreets" "now" "LKindStreets$Now;") (by decide +kernel)) (fun _ h9 => h9) dX9_back_26 ?_
      refine lv_aload_n hx hb dX9_back_29 rfl (lv_at hl 0 rfl) ?_
      obtain ⟨v7, hv7, hE⟩ := Option.bind_eq_some_iff.mp hE
      refine r_gR 4 (C := RX9) (T := TX9) (N := 10) (ci := 8) hx hb hts (by decide +kernel) hown hK hH hv7 rfl (by decide) (hts (.fieldLink RX9 33 "KindStreets" "images" "[LKindStreets$Now;") (by decide +kernel)) (fun _ h9 => h9) dX9_back_30 ?_
      refine lv_iload_n hx hb dX9_back_33 rfl (lv_at hl 1 rfl) ?_
      obtain ⟨v8, hv8, hE⟩ := Option.bind_eq_some_iff.mp hE
      refine r_aald (C := "KindStreets$Now") hx hb hK hH hv8 rfl dX9_back_34 ?_
      obtain ⟨z9, hz9, hE⟩ := Option.bind_eq_some_iff.mp hE
      refine r_callV (va_runV (As := [.ref (b0 + v8)]) (rest := []) ⟨hx, hb, hml, hown, hts⟩ (sX3_become l b0 D cA hz9) (cwV 1 hts gX9_back_X3_become rfl rfl rfl (by decide +kernel) (rm_ok (by decide) (by decide))) (pre_V (ci := 3) hK hH (oX3_become hz9) rfl) rfl rfl hl.1 rfl (lv_room (Nat.le_of_ble_eq_true rfl)) dX9_back_35 ⟨Nat.zero_le _, Nat.zero_le _⟩) hS (fun H locs hH hS => ?_)
      refine lv_aload_n hx hb dX9_back_38 rfl (lv_at hl 0 rfl) ?_
      obtain ⟨v10, hv10, hE⟩ := Option.bind_eq_some_iff.mp hE
      refine r_gR 3 (C := RX9) (T := TX9) (N := 10) (ci := 8) hx hb hts (by decide +kernel) hown hK hH hv10 rfl (by decide) (hts (.fieldLink RX9 29 "KindStreets" "now" "LKindStreets$Now;") (by decide +kernel)) (fun _ h9 => h9) dX9_back_39 ?_
      obtain ⟨v11, hv11, hE⟩ := Option.bind_eq_some_iff.mp hE
      refine r_gR 0 (C := RX3) (T := TX3) (N := 3) (ci := 3) hx hb hts (by decide +kernel) hown hK hH hv11 rfl (by decide) (hts (.fieldLink RX9 98 "KindStreets$Now" "moment" "LKindStreets$Moment;") (by decide +kernel)) (fun _ h9 => h9) dX9_back_42 ?_
      obtain ⟨v12, hv12, hE⟩ := Option.bind_eq_some_iff.mp hE
      refine r_gI 4 (C := RX2) (T := TX2) (N := 5) (ci := 2) hx hb hts (by decide +kernel) hown hK hH hv12 rfl (by decide) (hts (.fieldLink RX9 144 "KindStreets$Moment" "night" "I") (by decide +kernel)) (fun _ h9 => h9) dX9_back_45 ?_
      have hZ := Option.some.inj hE
      subst hZ
      exact W.iret (v := v12) hx hb hr (fun t ht hW => ⟨rfl, by rw [ht]; exact hH, hS.F ht⟩) hS.2.2 dX9_back_48
    · rw [if_pos c5] at hE
      refine lv_bipush (v := (-2)) hx hb dX9_back_22 (by decide) ?_
      have hZ := Option.some.inj hE
      subst hZ
      exact W.iret (v := (-2)) hx hb hr (fun t ht hW => ⟨rfl, by rw [ht]; exact hH, hS.F ht⟩) hS.2.2 dX9_back_24
  · rw [if_pos c2] at hE
    refine lv_iconst (v := (-1)) hx hb dX9_back_9 (by decide) ?_
    have hZ := Option.some.inj hE
    subst hZ
    exact W.iret (v := (-1)) hx hb hr (fun t ht hW => ⟨rfl, by rw [ht]; exact hH, hS.F ht⟩) hS.2.2 dX9_back_10
-- X9_count
def fX9_count (F : Nat) (L : HL) (a0 : Nat) (x1 : Int32) : Option (Int32 × HL) := (o_ob L a0 8).bind fun _ => if x1 = 0 then ((o_gR L a0 8 2).bind fun v2 => (o_gI L v2 6 0).bind fun v3 => some (v3, L)) else if x1 = 1 then ((o_gR L a0 8 2).bind fun v5 => (o_gI L v5 6 1).bind fun v6 => some (v6, L)) else if x1 = 2 then ((o_gR L a0 8 2).bind fun v8 => (o_gI L v8 6 2).bind fun v9 => some (v9, L)) else if x1 = 3 then ((o_gR L a0 8 8).bind fun v11 => (o_gI L v11 1 2).bind fun v12 => some (v12, L)) else if x1 = 4 then ((o_gR L a0 8 3).bind fun v14 => (o_gI L v14 3 2).bind fun v15 => some (v15, L)) else if x1 = 5 then ((o_gR L a0 8 0).bind fun v17 => (o_gI L v17 5 2).bind fun v18 => some (v18, L)) else some ((-1), L)
theorem oX9_count {F : Nat} {L : HL} {a0 : Nat} {x1 : Int32} {z : (Int32 × HL)} (hE : fX9_count F L a0 x1 = some z) : o_ob L a0 8 = some () := by
  obtain ⟨_, h, _⟩ := Option.bind_eq_some_iff.mp hE
  exact h
set_option maxHeartbeats 4000000 in
set_option maxRecDepth 100000 in
theorem sX9_count (l : Launch) (b0 : Nat) (D : va_G) (cA : Nat → ClassId) {F : Nat} {L : HL} {a0 : Nat} {x1 : Int32} {z : (Int32 × HL)} (hE : fX9_count F L a0 x1 = some z) : Met l yX9_count wsX9_count (RM 0 0 0) (Pk b0 D cA [.ref (b0 + a0), .int x1] L) (Qk b0 D cA (some (.int z.1)) z.2) 0 0 (Ab b0) := by
  refine Met.ofW (cc := cX9_count) (maxL := 2) (ret := (some .int)) (by decide) rfl ?_
  intro p ev s m args below meth c s₁ B hml hv
  obtain ⟨rfl, hH, hK⟩ := hv
  have hx := B.exec
  have hb := B.bytes
  have hr := B.returns
  have hts := atoms_spec (ws := wsX9_count) B.pre
  have hown : s.vm.findClass RX9 = some m.cls := findClass_of_methodNamed B.named
  have hlocks := B.notSynchronized
  have hC : Cx D cA p s m _ meth c cX9_count 2 RX9 wsX9_count (some .int) := ⟨hx, hb, hml, hown, hts, hK, hr, hlocks⟩
  have hS : va_S (Ab b0) s.heap s.heap [] := va_S.rf
  have hl := lv_entry ([.ref (b0 + a0), .int x1]) (n := 2) (Nat.le_of_ble_eq_true rfl)
  rw [lg_entry_eq]
  generalize (lg_sl ([.ref (b0 + a0), .int x1]) ++ List.replicate (2 - (lg_sl ([.ref (b0 + a0), .int x1])).length) Slot.unset).toArray = ls at hl ⊢
  have hl : lv_has ls 2 [(0, .ref (b0 + a0)), (1, .int x1)] := hl
  unfold fX9_count at hE
  obtain ⟨_, _, hE⟩ := Option.bind_eq_some_iff.mp hE
  refine lv_iload_n hx hb dX9_count_0 rfl (lv_at hl 1 rfl) ?_
  by_cases c1 : x1 = 0
  · rw [if_pos c1] at hE
    refine lv_tableIn (tgt := 40) (off := 39) hx hb dX9_count_1 (by rw [c1]; decide) (by rw [c1]; decide) (by rw [c1]; rfl) (by decide) ?_
    refine lv_aload_n hx hb dX9_count_40 rfl (lv_at hl 0 rfl) ?_
    obtain ⟨v2, hv2, hE⟩ := Option.bind_eq_some_iff.mp hE
    refine r_gR 2 (C := RX9) (T := TX9) (N := 10) (ci := 8) hx hb hts (by decide +kernel) hown hK hH hv2 rfl (by decide) (hts (.fieldLink RX9 23 "KindStreets" "town" "LKindStreets$Town;") (by decide +kernel)) (fun _ h9 => h9) dX9_count_41 ?_
    obtain ⟨v3, hv3, hE⟩ := Option.bind_eq_some_iff.mp hE
    refine r_gI 0 (C := RX7) (T := TX7) (N := 8) (ci := 6) hx hb hts (by decide +kernel) hown hK hH hv3 rfl (by decide) (hts (.fieldLink RX9 257 "KindStreets$Town" "yards" "I") (by decide +kernel)) (fun _ h9 => h9) dX9_count_44 ?_
    have hZ := Option.some.inj hE
    subst hZ
    exact W.iret (v := v3) hx hb hr (fun t ht hW => ⟨rfl, by rw [ht]; exact hH, hS.F ht⟩) hS.2.2 dX9_count_47
  rw [if_neg c1] at hE
  by_cases c4 : x1 = 1
  · rw [if_pos c4] at hE
    refine lv_tableIn (tgt := 48) (off := 47) hx hb dX9_count_1 (by rw [c4]; decide) (by rw [c4]; decide) (by rw [c4]; rfl) (by decide) ?_
    refine lv_aload_n hx hb dX9_count_48 rfl (lv_at hl 0 rfl) ?_
    obtain ⟨v5, hv5, hE⟩ := Option.bind_eq_some_iff.mp hE
    refine r_gR 2 (C := RX9) (T := TX9) (N := 10) (ci := 8) hx hb hts (by decide +kernel) hown hK hH hv5 rfl (by decide) (hts (.fieldLink RX9 23 "KindStreets" "town" "LKindStreets$Town;") (by decide +kernel)) (fun _ h9 => h9) dX9_count_49 ?_
    obtain ⟨v6, hv6, hE⟩ := Option.bind_eq_some_iff.mp hE
    refine r_gI 1 (C := RX7) (T := TX7) (N := 8) (ci := 6) hx hb hts (by decide +kernel) hown hK hH hv6 rfl (by decide) (hts (.fieldLink RX9 189 "KindStreets$Town" "streets" "I") (by decide +kernel)) (fun _ h9 => h9) dX9_count_52 ?_
    have hZ := Option.some.inj hE
    subst hZ
    exact W.iret (v := v6) hx hb hr (fun t ht hW => ⟨rfl, by rw [ht]; exact hH, hS.F ht⟩) hS.2.2 dX9_count_55
  rw [if_neg c4] at hE
  by_cases c7 : x1 = 2
  · rw [if_pos c7] at hE
    refine lv_tableIn (tgt := 56) (off := 55) hx hb dX9_count_1 (by rw [c7]; decide) (by rw [c7]; decide) (by rw [c7]; rfl) (by decide) ?_
    refine lv_aload_n hx hb dX9_count_56 rfl (lv_at hl 0 rfl) ?_
    obtain ⟨v8, hv8, hE⟩ := Option.bind_eq_some_iff.mp hE
    refine r_gR 2 (C := RX9) (T := TX9) (N := 10) (ci := 8) hx hb hts (by decide +kernel) hown hK hH hv8 rfl (by decide) (hts (.fieldLink RX9 23 "KindStreets" "town" "LKindStreets$Town;") (by decide +kernel)) (fun _ h9 => h9) dX9_count_57 ?_
    obtain ⟨v9, hv9, hE⟩ := Option.bind_eq_some_iff.mp hE
    refine r_gI 2 (C := RX7) (T := TX7) (N := 8) (ci := 6) hx hb hts (by decide +kernel) hown hK hH hv9 rfl (by decide) (hts (.fieldLink RX9 260 "KindStreets$Town" "citizens" "I") (by decide +kernel)) (fun _ h9 => h9) dX9_count_60 ?_
    have hZ := Option.some.inj hE
    subst hZ
    exact W.iret (v := v9) hx hb hr (fun t ht hW => ⟨rfl, by rw [ht]; exact hH, hS.F ht⟩) hS.2.2 dX9_count_63
  rw [if_neg c7] at hE
  by_cases c10 : x1 = 3
  · rw [if_pos c10] at hE
    refine lv_tableIn (tgt := 64) (off := 63) hx hb dX9_count_1 (by rw [c10]; decide) (by rw [c10]; decide) (by rw [c10]; rfl) (by decide) ?_
    refine lv_aload_n hx hb dX9_count_64 rfl (lv_at hl 0 rfl) ?_
    obtain ⟨v11, hv11, hE⟩ := Option.bind_eq_some_iff.mp hE
    refine r_gR 8 (C := RX9) (T := TX9) (N := 10) (ci := 8) hx hb hts (by decide +kernel) hown hK hH hv11 rfl (by decide) (hts (.fieldLink RX9 54 "KindStreets" "measures" "LKindStreets$Measures;") (by decide +kernel)) (fun _ h9 => h9) dX9_count_65 ?_
    obtain ⟨v12, hv12, hE⟩ := Option.bind_eq_some_iff.mp hE
    refine r_gI 2 (C := RX1) (T := TX1) (N := 4) (ci := 1) hx hb hts (by decide +kernel) hown hK hH hv12 rfl (by decide) (hts (.fieldLink RX9 84 "KindStreets$Measures" "measured" "I") (by decide +kernel)) (fun _ h9 => h9) dX9_count_68 ?_
    have hZ := Option.some.inj hE
    subst hZ
    exact W.iret (v := v12) hx hb hr (fun t ht hW => ⟨rfl, by rw [ht]; exact hH, hS.F ht⟩) hS.2.2 dX9_count_71
  rw [if_neg c10] at hE
  by_cases c13 : x1 = 4
  · rw [if_pos c13] at hE
    refine lv_tableIn (tgt := 72) (off := 71) hx hb dX9_count_1 (by rw [c13]; decide) (by rw [c13]; decide) (by rw [c13]; rfl) (by decide) ?_
    refine lv_aload_n hx hb dX9_count_72 rfl (lv_at hl 0 rfl) ?_
    obtain ⟨v14, hv14, hE⟩ := Option.bind_eq_some_iff.mp hE
    refine r_gR 3 (C := RX9) (T := TX9) (N := 10) (ci := 8) hx hb hts (by decide +kernel) hown hK hH hv14 rfl (by decide) (hts (.fieldLink RX9 29 "KindStreets" "now" "LKindStreets$Now;") (by decide +kernel)) (fun _ h9 => h9) dX9_count_73 ?_
    obtain ⟨v15, hv15, hE⟩ := Option.bind_eq_some_iff.mp hE
    refine r_gI 2 (C := RX3) (T := TX3) (N := 3) (ci := 3) hx hb hts (by decide +kernel) hown hK hH hv15 rfl (by decide) (hts (.fieldLink RX9 151 "KindStreets$Now" "known" "I") (by decide +kernel)) (fun _ h9 => h9) dX9_count_76 ?_
    have hZ := Option.some.inj hE
    subst hZ
    exact W.iret (v := v15) hx hb hr (fun t ht hW => ⟨rfl, by rw [ht]; exact hH, hS.F ht⟩) hS.2.2 dX9_count_79
  rw [if_neg c13] at hE
  by_cases c16 : x1 = 5
  · rw [if_pos c16] at hE
    refine lv_tableIn (tgt := 80) (off := 79) hx hb dX9_count_1 (by rw [c16]; decide) (by rw [c16]; decide) (by rw [c16]; rfl) (by decide) ?_
    refine lv_aload_n hx hb dX9_count_80 rfl (lv_at hl 0 rfl) ?_
    obtain ⟨v17, hv17, hE⟩ := Option.bind_eq_some_iff.mp hE
    refine r_gR 0 (C := RX9) (T := TX9) (N := 10) (ci := 8) hx hb hts (by decide +kernel) hown hK hH hv17 rfl (by decide) (hts (.fieldLink RX9 10 "KindStreets" "text" "LKindStreets$Text;") (by decide +kernel)) (fun _ h9 => h9) dX9_count_81 ?_
    obtain ⟨v18, hv18, hE⟩ := Option.bind_eq_some_iff.mp hE
    refine r_gI 2 (C := RX6) (T := TX6) (N := 3) (ci := 5) hx hb hts (by decide +kernel) hown hK hH hv18 rfl (by decide) (hts (.fieldLink RX9 62 "KindStreets$Text" "length" "I") (by decide +kernel)) (fun _ h9 => h9) dX9_count_84 ?_
    have hZ := Option.some.inj hE
    subst hZ
    exact W.iret (v := v18) hx hb hr (fun t ht hW => ⟨rfl, by rw [ht]; exact hH, hS.F ht⟩) hS.2.2 dX9_count_87
  rw [if_neg c16] at hE
  refine lv_tableOut (tgt := 88) hx hb dX9_count_1 (by have q0 := sw_ne (k := 0) (by decide) c1; have q1 := sw_ne (k := 1) (by decide) c4; have q2 := sw_ne (k := 2) (by decide) c7; have q3 := sw_ne (k := 3) (by decide) c10; have q4 := sw_ne (k := 4) (by decide) c13; have q5 := sw_ne (k := 5) (by decide) c16; omega) (by decide) ?_
  refine lv_iconst (v := (-1)) hx hb dX9_count_88 (by decide) ?_
  have hZ := Option.some.inj hE
  subst hZ
  exact W.iret (v := (-1)) hx hb hr (fun t ht hW => ⟨rfl, by rw [ht]; exact hH, hS.F ht⟩) hS.2.2 dX9_count_89
-- X9_trace
def fX9_trace (F : Nat) (L : HL) (a0 : Nat) : Option (Int64 × HL) := (o_ob L a0 8).bind fun _ => (o_gJ L a0 8 9).bind fun v1 => some (v1, L)
theorem oX9_trace {F : Nat} {L : HL} {a0 : Nat} {z : (Int64 × HL)} (hE : fX9_trace F L a0 = some z) : o_ob L a0 8 = some () := by
  obtain ⟨_, h, _⟩ := Option.bind_eq_some_iff.mp hE
  exact h
set_option maxHeartbeats 4000000 in
set_option maxRecDepth 100000 in
theorem sX9_trace (l : Launch) (b0 : Nat) (D : va_G) (cA : Nat → ClassId) {F : Nat} {L : HL} {a0 : Nat} {z : (Int64 × HL)} (hE : fX9_trace F L a0 = some z) : Met l yX9_trace wsX9_trace (RM 0 0 0) (Pk b0 D cA [.ref (b0 + a0)] L) (Qk b0 D cA (some (.long z.1)) z.2) 0 0 (Ab b0) := by
  refine Met.ofW (cc := cX9_trace) (maxL := 1) (ret := (some .long)) (by decide) rfl ?_
  intro p ev s m args below meth c s₁ B hml hv
  obtain ⟨rfl, hH, hK⟩ := hv
  have hx := B.exec
  have hb := B.bytes
  have hr := B.returns
  have hts := atoms_spec (ws := wsX9_trace) B.pre
  have hown : s.vm.findClass RX9 = some m.cls := findClass_of_methodNamed B.named
  have hlocks := B.notSynchronized
  have hC : Cx D cA p s m _ meth c cX9_trace 1 RX9 wsX9_trace (some .long) := ⟨hx, hb, hml, hown, hts, hK, hr, hlocks⟩
  have hS : va_S (Ab b0) s.heap s.heap [] := va_S.rf
  have hl := lv_entry ([.ref (b0 + a0)]) (n := 1) (Nat.le_of_ble_eq_true rfl)
  rw [lg_entry_eq]
  generalize (lg_sl ([.ref (b0 + a0)]) ++ List.replicate (1 - (lg_sl ([.ref (b0 + a0)])).length) Slot.unset).toArray = ls at hl ⊢
  have hl : lv_has ls 1 [(0, .ref (b0 + a0))] := hl
  unfold fX9_trace at hE
  obtain ⟨_, _, hE⟩ := Option.bind_eq_some_iff.mp hE
  refine lv_aload_n hx hb dX9_trace_0 rfl (lv_at hl 0 rfl) ?_
  obtain ⟨v1, hv1, hE⟩ := Option.bind_eq_some_iff.mp hE
  refine r_gJ 9 (C := RX9) (T := TX9) (N := 10) (ci := 8) hx hb hts (by decide +kernel) hown hK hH hv1 rfl (by decide) (hts (.fieldLink RX9 263 "KindStreets" "trace" "J") (by decide +kernel)) (fun _ h9 => h9) dX9_trace_1 ?_
  have hZ := Option.some.inj hE
  subst hZ
  exact W.lret (v := v1) hx hb hr (fun t ht hW => ⟨rfl, by rw [ht]; exact hH, hS.F ht⟩) hS.2.2 dX9_trace_4

-- X10_isYard
def fX10_isYard (F : Nat) (L : HL) (a0 : Nat) (x1 : Int32) : Option (Int32 × HL) := (o_ob L a0 9).bind fun _ => (o_gR L a0 9 2).bind fun v1 => (o_aI L v1 0 0).bind fun v2 => (fX10_in F L x1 0 (v2 - 1)).bind fun z3 => (o_b z3.1).bind fun u4 => some (z3.1, z3.2)
theorem oX10_isYard {F : Nat} {L : HL} {a0 : Nat} {x1 : Int32} {z : (Int32 × HL)} (hE : fX10_isYard F L a0 x1 = some z) : o_ob L a0 9 = some () := by
  obtain ⟨_, h, _⟩ := Option.bind_eq_some_iff.mp hE
  exact h
set_option maxHeartbeats 4000000 in
set_option maxRecDepth 100000 in
theorem sX10_isYard (l : Launch) (b0 : Nat) (D : va_G) (cA : Nat → ClassId) {F : Nat} {L : HL} {a0 : Nat} {x1 : Int32} {z : (Int32 × HL)} (hE : fX10_isYard F L a0 x1 = some z) : Met l yX10_isYard wsX10_isYard (RM 1 0 0) (Pk b0 D cA [.ref (b0 + a0), .int x1] L) (Qk b0 D cA (some (.int z.1)) z.2) 0 0 (Ab b0) := by
  refine Met.ofW (cc := cX10_isYard) (maxL := 2) (ret := (some .boolean)) (by decide) rfl ?_
  intro p ev s m args below meth c s₁ B hml hv
  obtain ⟨rfl, hH, hK⟩ := hv
  have hx := B.exec
  have hb := B.bytes
  have hr := B.returns
  have hts := atoms_spec (ws := wsX10_isYard) B.pre
  have hown : s.vm.findClass RX10 = some m.cls := findClass_of_methodNamed B.named
  have hlocks := B.notSynchronized
  have hC : Cx D cA p s m _ meth c cX10_isYard 2 RX10 wsX10_isYard (some .boolean) := ⟨hx, hb, hml, hown, hts, hK, hr, hlocks⟩
  have hS : va_S (Ab b0) s.heap s.heap [] := va_S.rf
  have hl := lv_entry ([.ref (b0 + a0), .int x1]) (n := 2) (Nat.le_of_ble_eq_true rfl)
  rw [lg_entry_eq]
  generalize (lg_sl ([.ref (b0 + a0), .int x1]) ++ List.replicate (2 - (lg_sl ([.ref (b0 + a0), .int x1])).length) Slot.unset).toArray = ls at hl ⊢
  have hl : lv_has ls 2 [(0, .ref (b0 + a0)), (1, .int x1)] := hl
  unfold fX10_isYard at hE
  obtain ⟨_, _, hE⟩ := Option.bind_eq_some_iff.mp hE
  refine lv_iload_n hx hb dX10_isYard_0 rfl (lv_at hl 1 rfl) ?_
  refine lv_iconst (v := 0) hx hb dX10_isYard_1 (by decide) ?_
  refine lv_aload_n hx hb dX10_isYard_2 rfl (lv_at hl 0 rfl) ?_
  obtain ⟨v1, hv1, hE⟩ := Option.bind_eq_some_iff.mp hE
  refine r_gR 2 (C := RX10) (T := TX10) (N := 26) (ci := 9) hx hb hts (by decide +kernel) hown hK hH hv1 rfl (by decide) (hts (.fieldLink RX10 13 "KindStreetsModel" "yards" "[I") (by decide +kernel)) (fun _ h9 => h9) dX10_isYard_3 ?_
  refine lv_iconst (v := 0) hx hb dX10_isYard_6 (by decide) ?_
  obtain ⟨v2, hv2, hE⟩ := Option.bind_eq_some_iff.mp hE
  refine r_iald hx hb hK hH hv2 dX10_isYard_7 ?_
  refine lv_iconst (v := 1) hx hb dX10_isYard_8 (by decide) ?_
  refine lv_isub hx hb dX10_isYard_9 ?_
  obtain ⟨z3, hz3, hE⟩ := Option.bind_eq_some_iff.mp hE
  refine r_callI (va_runS (As := [.int x1, .int 0, .int (v2 - 1)]) (rest := []) ⟨hx, hb, hml, hown, hts⟩ (sX10_in l b0 D cA hz3) (va_cwS 3 hts gX10_isYard_X10_in rfl rfl rfl (by decide +kernel) (rm_ok (by decide) (by decide))) (pre_S hK hH) rfl rfl hl.1 rfl (lv_room (Nat.le_of_ble_eq_true rfl)) dX10_isYard_10 ⟨Nat.zero_le _, Nat.zero_le _⟩) hS (fun H locs hH hS => ?_)
  obtain ⟨u4, hu4, hE⟩ := Option.bind_eq_some_iff.mp hE
  have hZ := Option.some.inj hE
  subst hZ
  exact W.zret (v := z3.1) (ty := .boolean) hx hb hr (o_b_nar hu4) (fun t ht hW => ⟨rfl, by rw [ht]; exact hH, hS.F ht⟩) hS.2.2 dX10_isYard_13
-- X10_areTwo
def fX10_areTwo_b25 (F : Nat)  (L : HL) : Option (Int32 × HL) := some (0, L)
set_option maxHeartbeats 4000000 in
set_option maxRecDepth 100000 in
theorem sX10_areTwo_b25 {b0 : Nat} {D : va_G} {cA : Nat → ClassId} {p : Program} {l : Launch} {ev : Env} {s : State} {m : MethodId} {args : Array Value} {below : List Frame} {meth : Method} {c : Code} {F : Nat} {z : (Int32 × HL)}  {L : HL} (hC : Cx D cA p s m args meth c cX10_areTwo 3 RX10 wsX10_areTwo (some .boolean)) (hE : fX10_areTwo_b25 F  L = some z) : WB b0 D cA p l ev (RM 2 0 0) s m args below meth c 3 0 0 (MQ below (Qk b0 D cA (some (.int z.1)) z.2) args s 0 0 (Ab b0)) 25 [] [] L := by
  obtain ⟨hx, hb, hml, hown, hts, hK, hr, hlocks⟩ := id hC
  intro H locs ls hH hS hl
  unfold fX10_areTwo_b25 at hE
  refine lv_iconst (v := 0) hx hb dX10_areTwo_25 (by decide) ?_
  have hZ := Option.some.inj hE
  subst hZ
  exact W.zret (v := 0) (ty := .boolean) hx hb hr rfl (fun t ht hW => ⟨rfl, by rw [ht]; exact hH, hS.F ht⟩) hS.2.2 dX10_areTwo_26
def fX10_areTwo (F : Nat) (L : HL) (a0 : Nat) (x1 : Int32) (x2 : Int32) : Option (Int32 × HL) := (o_ob L a0 9).bind fun _ => (fX10_isYard F L a0 x1).bind fun z1 => if z1.1 = 0 then (fX10_areTwo_b25 F z1.2) else ((fX10_isYard F z1.2 a0 x2).bind fun z3 => if z3.1 = 0 then (fX10_areTwo_b25 F z3.2) else (if x1 = x2 then (fX10_areTwo_b25 F z3.2) else (some (1, z3.2))))
theorem oX10_areTwo {F : Nat} {L : HL} {a0 : Nat} {x1 : Int32} {x2 : Int32} {z : (Int32 × HL)} (hE : fX10_areTwo F L a0 x1 x2 = some z) : o_ob L a0 9 = some () := by
  obtain ⟨_, h, _⟩ := Option.bind_eq_some_iff.mp hE
  exact h
set_option maxHeartbeats 4000000 in
set_option maxRecDepth 100000 in
theorem sX10_areTwo (l : Launch) (b0 : Nat) (D : va_G) (cA : Nat → ClassId) {F : Nat} {L : HL} {a0 : Nat} {x1 : Int32} {x2 : Int32} {z : (Int32 × HL)} (hE : fX10_areTwo F L a0 x1 x2 = some z) : Met l yX10_areTwo wsX10_areTwo (RM 2 0 0) (Pk b0 D cA [.ref (b0 + a0), .int x1, .int x2] L) (Qk b0 D cA (some (.int z.1)) z.2) 0 0 (Ab b0) := by
  refine Met.ofW (cc := cX10_areTwo) (maxL := 3) (ret := (some .boolean)) (by decide) rfl ?_
  intro p ev s m args below meth c s₁ B hml hv
  obtain ⟨rfl, hH, hK⟩ := hv
  have hx := B.exec
  have hb := B.bytes
  have hr := B.returns
  have hts := atoms_spec (ws := wsX10_areTwo) B.pre
  have hown : s.vm.findClass RX10 = some m.cls := findClass_of_methodNamed B.named
  have hlocks := B.notSynchronized
  have hC : Cx D cA p s m _ meth c cX10_areTwo 3 RX10 wsX10_areTwo (some .boolean) := ⟨hx, hb, hml, hown, hts, hK, hr, hlocks⟩
  have hS : va_S (Ab b0) s.heap s.heap [] := va_S.rf
  have hl := lv_entry ([.ref (b0 + a0), .int x1, .int x2]) (n := 3) (Nat.le_of_ble_eq_true rfl)
  rw [lg_entry_eq]
  generalize (lg_sl ([.ref (b0 + a0), .int x1, .int x2]) ++ List.replicate (3 - (lg_sl ([.ref (b0 + a0), .int x1, .int x2])).length) Slot.unset).toArray = ls at hl ⊢
  have hl : lv_has ls 3 [(0, .ref (b0 + a0)), (1, .int x1), (2, .int x2)] := hl
  unfold fX10_areTwo at hE
  obtain ⟨_, _, hE⟩ := Option.bind_eq_some_iff.mp hE
  refine lv_aload_n hx hb dX10_areTwo_0 rfl (lv_at hl 0 rfl) ?_
  refine lv_iload_n hx hb dX10_areTwo_1 rfl (lv_at hl 1 rfl) ?_
  obtain ⟨z1, hz1, hE⟩ := Option.bind_eq_some_iff.mp hE
  refine r_callI (va_runV (As := [.int x1]) (rest := []) ⟨hx, hb, hml, hown, hts⟩ (sX10_isYard l b0 D cA hz1) (cwV 1 hts gX10_areTwo_X10_isYard rfl rfl rfl (by decide +kernel) (rm_ok (by decide) (by decide))) (pre_V (ci := 9) hK hH (oX10_isYard hz1) rfl) rfl rfl hl.1 rfl (lv_room (Nat.le_of_ble_eq_true rfl)) dX10_areTwo_2 ⟨Nat.zero_le _, Nat.zero_le _⟩) hS (fun H locs hH hS => ?_)
  refine lv_if_eq (tgt := 25) hx hb dX10_areTwo_5 (by decide) (fun c2 => ?_) (fun c2 => ?_)
  · rw [if_pos c2] at hE
    exact sX10_areTwo_b25 (F := F) hC hE _ _ _ hH hS (lv_sub hl [] rfl)
  · rw [if_neg c2] at hE
    refine lv_aload_n hx hb dX10_areTwo_8 rfl (lv_at hl 0 rfl) ?_
    refine lv_iload_n hx hb dX10_areTwo_9 rfl (lv_at hl 2 rfl) ?_
    obtain ⟨z3, hz3, hE⟩ := Option.bind_eq_some_iff.mp hE
    refine r_callI (va_runV (As := [.int x2]) (rest := []) ⟨hx, hb, hml, hown, hts⟩ (sX10_isYard l b0 D cA hz3) (cwV 1 hts gX10_areTwo_X10_isYard rfl rfl rfl (by decide +kernel) (rm_ok (by decide) (by decide))) (pre_V (ci := 9) hK hH (oX10_isYard hz3) rfl) rfl rfl hl.1 rfl (lv_room (Nat.le_of_ble_eq_true rfl)) dX10_areTwo_10 ⟨Nat.zero_le _, Nat.zero_le _⟩) hS (fun H locs hH hS => ?_)
    refine lv_if_eq (tgt := 25) hx hb dX10_areTwo_13 (by decide) (fun c4 => ?_) (fun c4 => ?_)
    · rw [if_pos c4] at hE
      exact sX10_areTwo_b25 (F := F) hC hE _ _ _ hH hS (lv_sub hl [] rfl)
    · rw [if_neg c4] at hE
      refine lv_iload_n hx hb dX10_areTwo_16 rfl (lv_at hl 1 rfl) ?_
      refine lv_iload_n hx hb dX10_areTwo_17 rfl (lv_at hl 2 rfl) ?_
      refine lv_icmp_eq (tgt := 25) hx hb dX10_areTwo_18 (by decide) (fun c5 => ?_) (fun c5 => ?_)
      · rw [if_pos c5] at hE
        exact sX10_areTwo_b25 (F := F) hC hE _ _ _ hH hS (lv_sub hl [] rfl)
      · rw [if_neg c5] at hE
        refine lv_iconst (v := 1) hx hb dX10_areTwo_21 (by decide) ?_
        refine lv_goto (tgt := 26) hx hb dX10_areTwo_22 (by decide) ?_
        have hZ := Option.some.inj hE
        subst hZ
        exact W.zret (v := 1) (ty := .boolean) hx hb hr rfl (fun t ht hW => ⟨rfl, by rw [ht]; exact hH, hS.F ht⟩) hS.2.2 dX10_areTwo_26
-- X10_isStreet
def fX10_isStreet (F : Nat) (L : HL) (a0 : Nat) (x1 : Int32) : Option (Int32 × HL) := (o_ob L a0 9).bind fun _ => (o_gR L a0 9 3).bind fun v1 => (o_aI L v1 0 0).bind fun v2 => (fX10_in F L x1 0 (v2 - 1)).bind fun z3 => (o_b z3.1).bind fun u4 => some (z3.1, z3.2)
theorem oX10_isStreet {F : Nat} {L : HL} {a0 : Nat} {x1 : Int32} {z : (Int32 × HL)} (hE : fX10_isStreet F L a0 x1 = some z) : o_ob L a0 9 = some () := by
  obtain ⟨_, h, _⟩ := Option.bind_eq_some_iff.mp hE
  exact h
set_option maxHeartbeats 4000000 in
set_option maxRecDepth 100000 in
theorem sX10_isStreet (l : Launch) (b0 : Nat) (D : va_G) (cA : Nat → ClassId) {F : Nat} {L : HL} {a0 : Nat} {x1 : Int32} {z : (Int32 × HL)} (hE : fX10_isStreet F L a0 x1 = some z) : Met l yX10_isStreet wsX10_isStreet (RM 1 0 0) (Pk b0 D cA [.ref (b0 + a0), .int x1] L) (Qk b0 D cA (some (.int z.1)) z.2) 0 0 (Ab b0) := by
  refine Met.ofW (cc := cX10_isStreet) (maxL := 2) (ret := (some .boolean)) (by decide) rfl ?_
  intro p ev s m args below meth c s₁ B hml hv
  obtain ⟨rfl, hH, hK⟩ := hv
  have hx := B.exec
  have hb := B.bytes
  have hr := B.returns
  have hts := atoms_spec (ws := wsX10_isStreet) B.pre
  have hown : s.vm.findClass RX10 = some m.cls := findClass_of_methodNamed B.named
  have hlocks := B.notSynchronized
  have hC : Cx D cA p s m _ meth c cX10_isStreet 2 RX10 wsX10_isStreet (some .boolean) := ⟨hx, hb, hml, hown, hts, hK, hr, hlocks⟩
  have hS : va_S (Ab b0) s.heap s.heap [] := va_S.rf
  have hl := lv_entry ([.ref (b0 + a0), .int x1]) (n := 2) (Nat.le_of_ble_eq_true rfl)
  rw [lg_entry_eq]
  generalize (lg_sl ([.ref (b0 + a0), .int x1]) ++ List.replicate (2 - (lg_sl ([.ref (b0 + a0), .int x1])).length) Slot.unset).toArray = ls at hl ⊢
  have hl : lv_has ls 2 [(0, .ref (b0 + a0)), (1, .int x1)] := hl
  unfold fX10_isStreet at hE
  obtain ⟨_, _, hE⟩ := Option.bind_eq_some_iff.mp hE
  refine lv_iload_n hx hb dX10_isStreet_0 rfl (lv_at hl 1 rfl) ?_
  refine lv_iconst (v := 0) hx hb dX10_isStreet_1 (by decide) ?_
  refine lv_aload_n hx hb dX10_isStreet_2 rfl (lv_at hl 0 rfl) ?_
  obtain ⟨v1, hv1, hE⟩ := Option.bind_eq_some_iff.mp hE
  refine r_gR 3 (C := RX10) (T := TX10) (N := 26) (ci := 9) hx hb hts (by decide +kernel) hown hK hH hv1 rfl (by decide) (hts (.fieldLink RX10 17 "KindStreetsModel" "streets" "[I") (by decide +kernel)) (fun _ h9 => h9) dX10_isStreet_3 ?_
  refine lv_iconst (v := 0) hx hb dX10_isStreet_6 (by decide) ?_
  obtain ⟨v2, hv2, hE⟩ := Option.bind_eq_some_iff.mp hE
  refine r_iald hx hb hK hH hv2 dX10_isStreet_7 ?_
  refine lv_iconst (v := 1) hx hb dX10_isStreet_8 (by decide) ?_
  refine lv_isub hx hb dX10_isStreet_9 ?_
  obtain ⟨z3, hz3, hE⟩ := Option.bind_eq_some_iff.mp hE
  refine r_callI (va_runS (As := [.int x1, .int 0, .int (v2 - 1)]) (rest := []) ⟨hx, hb, hml, hown, hts⟩ (sX10_in l b0 D cA hz3) (va_cwS 3 hts gX10_isStreet_X10_in rfl rfl rfl (by decide +kernel) (rm_ok (by decide) (by decide))) (pre_S hK hH) rfl rfl hl.1 rfl (lv_room (Nat.le_of_ble_eq_true rfl)) dX10_isStreet_10 ⟨Nat.zero_le _, Nat.zero_le _⟩) hS (fun H locs hH hS => ?_)
  obtain ⟨u4, hu4, hE⟩ := Option.bind_eq_some_iff.mp hE
  have hZ := Option.some.inj hE
  subst hZ
  exact W.zret (v := z3.1) (ty := .boolean) hx hb hr (o_b_nar hu4) (fun t ht hW => ⟨rfl, by rw [ht]; exact hH, hS.F ht⟩) hS.2.2 dX10_isStreet_13
-- X10_isPerson
def fX10_isPerson (F : Nat) (L : HL) (a0 : Nat) (x1 : Int32) : Option (Int32 × HL) := (o_ob L a0 9).bind fun _ => (o_gR L a0 9 7).bind fun v1 => (o_aI L v1 0 0).bind fun v2 => (fX10_in F L x1 0 (v2 - 1)).bind fun z3 => (o_b z3.1).bind fun u4 => some (z3.1, z3.2)
theorem oX10_isPerson {F : Nat} {L : HL} {a0 : Nat} {x1 : Int32} {z : (Int32 × HL)} (hE : fX10_isPerson F L a0 x1 = some z) : o_ob L a0 9 = some () := by
  obtain ⟨_, h, _⟩ := Option.bind_eq_some_iff.mp hE
  exact h
set_option maxHeartbeats 4000000 in
set_option maxRecDepth 100000 in
theorem sX10_isPerson (l : Launch) (b0 : Nat) (D : va_G) (cA : Nat → ClassId) {F : Nat} {L : HL} {a0 : Nat} {x1 : Int32} {z : (Int32 × HL)} (hE : fX10_isPerson F L a0 x1 = some z) : Met l yX10_isPerson wsX10_isPerson (RM 1 0 0) (Pk b0 D cA [.ref (b0 + a0), .int x1] L) (Qk b0 D cA (some (.int z.1)) z.2) 0 0 (Ab b0) := by
  refine Met.ofW (cc := cX10_isPerson) (maxL := 2) (ret := (some .boolean)) (by decide) rfl ?_
  intro p ev s m args below meth c s₁ B hml hv
  obtain ⟨rfl, hH, hK⟩ := hv
  have hx := B.exec
  have hb := B.bytes
  have hr := B.returns
  have hts := atoms_spec (ws := wsX10_isPerson) B.pre
  have hown : s.vm.findClass RX10 = some m.cls := findClass_of_methodNamed B.named
  have hlocks := B.notSynchronized
  have hC : Cx D cA p s m _ meth c cX10_isPerson 2 RX10 wsX10_isPerson (some .boolean) := ⟨hx, hb, hml, hown, hts, hK, hr, hlocks⟩
  have hS : va_S (Ab b0) s.heap s.heap [] := va_S.rf
  have hl := lv_entry ([.ref (b0 + a0), .int x1]) (n := 2) (Nat.le_of_ble_eq_true rfl)
  rw [lg_entry_eq]
  generalize (lg_sl ([.ref (b0 + a0), .int x1]) ++ List.replicate (2 - (lg_sl ([.ref (b0 + a0), .int x1])).length) Slot.unset).toArray = ls at hl ⊢
  have hl : lv_has ls 2 [(0, .ref (b0 + a0)), (1, .int x1)] := hl
  unfold fX10_isPerson at hE
  obtain ⟨_, _, hE⟩ := Option.bind_eq_some_iff.mp hE
  refine lv_iload_n hx hb dX10_isPerson_0 rfl (lv_at hl 1 rfl) ?_
  refine lv_iconst (v := 0) hx hb dX10_isPerson_1 (by decide) ?_
  refine lv_aload_n hx hb dX10_isPerson_2 rfl (lv_at hl 0 rfl) ?_
  obtain ⟨v1, hv1, hE⟩ := Option.bind_eq_some_iff.mp hE
  refine r_gR 7 (C := RX10) (T := TX10) (N := 26) (ci := 9) hx hb hts (by decide +kernel) hown hK hH hv1 rfl (by decide) (hts (.fieldLink RX10 29 "KindStreetsModel" "people" "[I") (by decide +kernel)) (fun _ h9 => h9) dX10_isPerson_3 ?_
  refine lv_iconst (v := 0) hx hb dX10_isPerson_6 (by decide) ?_
  obtain ⟨v2, hv2, hE⟩ := Option.bind_eq_some_iff.mp hE
  refine r_iald hx hb hK hH hv2 dX10_isPerson_7 ?_
  refine lv_iconst (v := 1) hx hb dX10_isPerson_8 (by decide) ?_
  refine lv_isub hx hb dX10_isPerson_9 ?_
  obtain ⟨z3, hz3, hE⟩ := Option.bind_eq_some_iff.mp hE
  refine r_callI (va_runS (As := [.int x1, .int 0, .int (v2 - 1)]) (rest := []) ⟨hx, hb, hml, hown, hts⟩ (sX10_in l b0 D cA hz3) (va_cwS 3 hts gX10_isPerson_X10_in rfl rfl rfl (by decide +kernel) (rm_ok (by decide) (by decide))) (pre_S hK hH) rfl rfl hl.1 rfl (lv_room (Nat.le_of_ble_eq_true rfl)) dX10_isPerson_10 ⟨Nat.zero_le _, Nat.zero_le _⟩) hS (fun H locs hH hS => ?_)
  obtain ⟨u4, hu4, hE⟩ := Option.bind_eq_some_iff.mp hE
  have hZ := Option.some.inj hE
  subst hZ
  exact W.zret (v := z3.1) (ty := .boolean) hx hb hr (o_b_nar hu4) (fun t ht hW => ⟨rfl, by rw [ht]; exact hH, hS.F ht⟩) hS.2.2 dX10_isPerson_13
-- X10_widthOf
def fX10_widthOf_b44 (F : Nat) (y0 : Int32) (y1 : Int32) (L : HL) : Option (Int32 × HL) := some (y1 + y0, L)
set_option maxHeartbeats 4000000 in
set_option maxRecDepth 100000 in
theorem sX10_widthOf_b44 {b0 : Nat} {D : va_G} {cA : Nat → ClassId} {p : Program} {l : Launch} {ev : Env} {s : State} {m : MethodId} {args : Array Value} {below : List Frame} {meth : Method} {c : Code} {F : Nat} {z : (Int32 × HL)} {y0 : Int32} {y1 : Int32} {L : HL} (hC : Cx D cA p s m args meth c cX10_widthOf 4 RX10 wsX10_widthOf (some .int)) (hE : fX10_widthOf_b44 F y0 y1 L = some z) : WB b0 D cA p l ev (RM 0 0 0) s m args below meth c 4 0 0 (MQ below (Qk b0 D cA (some (.int z.1)) z.2) args s 0 0 (Ab b0)) 44 [] [.int y0, .int y1] L := by
  obtain ⟨hx, hb, hml, hown, hts, hK, hr, hlocks⟩ := id hC
  intro H locs ls hH hS hl
  unfold fX10_widthOf_b44 at hE
  refine lv_iadd hx hb dX10_widthOf_44 ?_
  have hZ := Option.some.inj hE
  subst hZ
  exact W.iret (v := (y1 + y0)) hx hb hr (fun t ht hW => ⟨rfl, by rw [ht]; exact hH, hS.F ht⟩) hS.2.2 dX10_widthOf_45
def fX10_widthOf_b32 (F : Nat) (x2 : Int32) (y0 : Int32) (L : HL) : Option (Int32 × HL) := if x2 ≤ y0 then (fX10_widthOf_b44 F y0 1 L) else (fX10_widthOf_b44 F x2 1 L)
set_option maxHeartbeats 4000000 in
set_option maxRecDepth 100000 in
theorem sX10_widthOf_b32 {b0 : Nat} {D : va_G} {cA : Nat → ClassId} {p : Program} {l : Launch} {ev : Env} {s : State} {m : MethodId} {args : Array Value} {below : List Frame} {meth : Method} {c : Code} {F : Nat} {z : (Int32 × HL)} {x2 : Int32} {y0 : Int32} {L : HL} (hC : Cx D cA p s m args meth c cX10_widthOf 4 RX10 wsX10_widthOf (some .int)) (hE : fX10_widthOf_b32 F x2 y0 L = some z) : WB b0 D cA p l ev (RM 0 0 0) s m args below meth c 4 0 0 (MQ below (Qk b0 D cA (some (.int z.1)) z.2) args s 0 0 (Ab b0)) 32 [(2, .int x2)] [.int y0] L := by
  obtain ⟨hx, hb, hml, hown, hts, hK, hr, hlocks⟩ := id hC
  intro H locs ls hH hS hl
  unfold fX10_widthOf_b32 at hE
  refine lv_istore_n (lv' := [(3, .int y0), (2, .int x2)]) hx hb dX10_widthOf_32 rfl hl (by decide) rfl (fun ls hl => ?_)
  refine lv_iconst (v := 1) hx hb dX10_widthOf_33 (by decide) ?_
  refine lv_iload_n hx hb dX10_widthOf_34 rfl (lv_at hl 1 rfl) ?_
  refine lv_iload_n hx hb dX10_widthOf_35 rfl (lv_at hl 0 rfl) ?_
  refine lv_icmp_le (tgt := 43) hx hb dX10_widthOf_36 (by decide) (fun c8 => ?_) (fun c8 => ?_)
  · rw [if_pos c8] at hE
    refine lv_iload_n hx hb dX10_widthOf_43 rfl (lv_at hl 0 rfl) ?_
    exact sX10_widthOf_b44 (F := F) hC hE _ _ _ hH hS (lv_sub hl [] rfl)
  · rw [if_neg c8] at hE
    refine lv_iload_n hx hb dX10_widthOf_39 rfl (lv_at hl 1 rfl) ?_
    refine lv_goto (tgt := 44) hx hb dX10_widthOf_40 (by decide) ?_
    exact sX10_widthOf_b44 (F := F) hC hE _ _ _ hH hS (lv_sub hl [] rfl)
def fX10_widthOf (F : Nat) (L : HL) (a0 : Nat) (x1 : Int32) : Option (Int32 × HL) := (o_ob L a0 9).bind fun _ => (o_gR L a0 9 16).bind fun v1 => (o_aI L v1 0 (1 + x1)).bind fun v2 => (o_gR L a0 9 16).bind fun v3 => (o_aI L v3 0 0).bind fun v4 => if v4 = 1 then (fX10_widthOf_b32 F v2 0 L) else ((o_gR L a0 9 16).bind fun v6 => (o_aI L v6 0 (19 + x1)).bind fun v7 => fX10_widthOf_b32 F v2 v7 L)
theorem oX10_widthOf {F : Nat} {L : HL} {a0 : Nat} {x1 : Int32} {z : (Int32 × HL)} (hE : fX10_widthOf F L a0 x1 = some z) : o_ob L a0 9 = some () := by
  obtain ⟨_, h, _⟩ := Option.bind_eq_some_iff.mp hE
  exact h
set_option maxHeartbeats 4000000 in
set_option maxRecDepth 100000 in
theorem sX10_widthOf (l : Launch) (b0 : Nat) (D : va_G) (cA : Nat → ClassId) {F : Nat} {L : HL} {a0 : Nat} {x1 : Int32} {z : (Int32 × HL)} (hE : fX10_widthOf F L a0 x1 = some z) : Met l yX10_widthOf wsX10_widthOf (RM 0 0 0) (Pk b0 D cA [.ref (b0 + a0), .int x1] L) (Qk b0 D cA (some (.int z.1)) z.2) 0 0 (Ab b0) := by
  refine Met.ofW (cc := cX10_widthOf) (maxL := 4) (ret := (some .int)) (by decide) rfl ?_
  intro p ev s m args below meth c s₁ B hml hv
  obtain ⟨rfl, hH, hK⟩ := hv
  have hx := B.exec
  have hb := B.bytes
  have hr := B.returns
  have hts := atoms_spec (ws := wsX10_widthOf) B.pre
  have hown : s.vm.findClass RX10 = some m.cls := findClass_of_methodNamed B.named
  have hlocks := B.notSynchronized
  have hC : Cx D cA p s m _ meth c cX10_widthOf 4 RX10 wsX10_widthOf (some .int) := ⟨hx, hb, hml, hown, hts, hK, hr, hlocks⟩
  have hS : va_S (Ab b0) s.heap s.heap [] := va_S.rf
  have hl := lv_entry ([.ref (b0 + a0), .int x1]) (n := 4) (Nat.le_of_ble_eq_true rfl)
  rw [lg_entry_eq]
  generalize (lg_sl ([.ref (b0 + a0), .int x1]) ++ List.replicate (4 - (lg_sl ([.ref (b0 + a0), .int x1])).length) Slot.unset).toArray = ls at hl ⊢
  have hl : lv_has ls 4 [(0, .ref (b0 + a0)), (1, .int x1)] := hl
  unfold fX10_widthOf at hE
  obtain ⟨_, _, hE⟩ := Option.bind_eq_some_iff.mp hE
  refine lv_aload_n hx hb dX10_widthOf_0 rfl (lv_at hl 0 rfl) ?_
  obtain ⟨v1, hv1, hE⟩ := Option.bind_eq_some_iff.mp hE
  refine r_gR 16 (C := RX10) (T := TX10) (N := 26) (ci := 9) hx hb hts (by decide +kernel) hown hK hH hv1 rfl (by decide) (hts (.fieldLink RX10 38 "KindStreetsModel" "now" "[I") (by decide +kernel)) (fun _ h9 => h9) dX10_widthOf_1 ?_
  refine lv_iconst (v := 1) hx hb dX10_widthOf_4 (by decide) ?_
  refine lv_iload_n hx hb dX10_widthOf_5 rfl (lv_at hl 1 rfl) ?_
  refine lv_iadd hx hb dX10_widthOf_6 ?_
  obtain ⟨v2, hv2, hE⟩ := Option.bind_eq_some_iff.mp hE
  refine r_iald hx hb hK hH hv2 dX10_widthOf_7 ?_
  refine lv_istore_n (lv' := [(2, .int v2), (0, .ref (b0 + a0)), (1, .int x1)]) hx hb dX10_widthOf_8 rfl hl (by decide) rfl (fun ls hl => ?_)
  refine lv_aload_n hx hb dX10_widthOf_9 rfl (lv_at hl 1 rfl) ?_
  obtain ⟨v3, hv3, hE⟩ := Option.bind_eq_some_iff.mp hE
  refine r_gR 16 (C := RX10) (T := TX10) (N := 26) (ci := 9) hx hb hts (by decide +kernel) hown hK hH hv3 rfl (by decide) (hts (.fieldLink RX10 38 "KindStreetsModel" "now" "[I") (by decide +kernel)) (fun _ h9 => h9) dX10_widthOf_10 ?_
  refine lv_iconst (v := 0) hx hb dX10_widthOf_13 (by decide) ?_
  obtain ⟨v4, hv4, hE⟩ := Option.bind_eq_some_iff.mp hE
  refine r_iald hx hb hK hH hv4 dX10_widthOf_14 ?_
  refine lv_iconst (v := 1) hx hb dX10_widthOf_15 (by decide) ?_
  refine lv_icmp_ne (tgt := 23) hx hb dX10_widthOf_16 (by decide) (fun c5 => ?_) (fun c5 => ?_)
  · rw [if_neg c5] at hE
    refine lv_aload_n hx hb dX10_widthOf_23 rfl (lv_at hl 1 rfl) ?_
    obtain ⟨v6, hv6, hE⟩ := Option.bind_eq_some_iff.mp hE
    refine r_gR 16 (C := RX10) (T := TX10) (N := 26) (ci := 9) hx hb hts (by decide +kernel) hown hK hH hv6 rfl (by decide) (hts (.fieldLink RX10 38 "KindStreetsModel" "now" "[I") (by decide +kernel)) (fun _ h9 => h9) dX10_widthOf_24 ?_
    refine lv_bipush (v := 19) hx hb dX10_widthOf_27 (by decide) ?_
    refine lv_iload_n hx hb dX10_widthOf_29 rfl (lv_at hl 2 rfl) ?_
    refine lv_iadd hx hb dX10_widthOf_30 ?_
    obtain ⟨v7, hv7, hE⟩ := Option.bind_eq_some_iff.mp hE
    refine r_iald hx hb hK hH hv7 dX10_widthOf_31 ?_
    exact sX10_widthOf_b32 (F := F) hC hE _ _ _ hH hS (lv_sub hl [0] rfl)
  · rw [if_pos c5] at hE
    refine lv_iconst (v := 0) hx hb dX10_widthOf_19 (by decide) ?_
    refine lv_goto (tgt := 32) hx hb dX10_widthOf_20 (by decide) ?_
    exact sX10_widthOf_b32 (F := F) hC hE _ _ _ hH hS (lv_sub hl [0] rfl)
-- X10_allWidths
def fX10_allWidths_b4c (F : Nat) (k4 : Nat → Int32 → Int32 → HL → Option (Int32 × HL)) (a0 : Nat) (x1 : Int32) (x2 : Int32) (L : HL) : Option (Int32 × HL) := (o_gR L a0 9 3).bind fun v1 => (o_aI L v1 0 0).bind fun v2 => if v2 ≤ x2 then (some (x1, L)) else ((fX10_widthOf F L a0 x2).bind fun z4 => k4 a0 (x1 + z4.1) (x2 + 1) z4.2)
def fX10_allWidths_b4 (F : Nat) : Nat → Nat → Int32 → Int32 → HL → Option (Int32 × HL)
  | 0 => fun _ _ _ _ => none
  | n + 1 => fun a0 x1 x2 L => fX10_allWidths_b4c F (fX10_allWidths_b4 F n) a0 x1 x2 L
set_option maxHeartbeats 4000000 in
set_option maxRecDepth 100000 in
theorem sX10_allWidths_b4c {b0 : Nat} {D : va_G} {cA : Nat → ClassId} {p : Program} {l : Launch} {ev : Env} {s : State} {m : MethodId} {args : Array Value} {below : List Frame} {meth : Method} {c : Code} {F : Nat} {z : (Int32 × HL)} {k4 : Nat → Int32 → Int32 → HL → Option (Int32 × HL)} {a0 : Nat} {x1 : Int32} {x2 : Int32} {L : HL} (hC : Cx D cA p s m args meth c cX10_allWidths 3 RX10 wsX10_allWidths (some .int)) (hk4 : ∀ (a0' : Nat) (x1' : Int32) (x2' : Int32) (L' : HL), k4 a0' x1' x2' L' = some z → WB b0 D cA p l ev (RM 1 0 0) s m args below meth c 3 0 0 (MQ below (Qk b0 D cA (some (.int z.1)) z.2) args s 0 0 (Ab b0)) 4 [(0, .ref (b0 + a0')), (1, .int x1'), (2, .int x2')] [] L') (hE : fX10_allWidths_b4c F k4 a0 x1 x2 L = some z) : WB b0 D cA p l ev (RM 1 0 0) s m args below meth c 3 0 0 (MQ below (Qk b0 D cA (some (.int z.1)) z.2) args s 0 0 (Ab b0)) 4 [(0, .ref (b0 + a0)), (1, .int x1), (2, .int x2)] [] L := by
  obtain ⟨hx, hb, hml, hown, hts, hK, hr, hlocks⟩ := id hC
  intro H locs ls hH hS hl
  unfold fX10_allWidths_b4c at hE
  refine lv_iload_n hx hb dX10_allWidths_4 rfl (lv_at hl 2 rfl) ?_
  refine lv_aload_n hx hb dX10_allWidths_5 rfl (lv_at hl 0 rfl) ?_
  obtain ⟨v1, hv1, hE⟩ := Option.bind_eq_some_iff.mp hE
  refine r_gR 3 (C := RX10) (T := TX10) (N := 26) (ci := 9) hx hb hts (by decide +kernel) hown hK hH hv1 rfl (by decide) (hts (.fieldLink RX10 17 "KindStreetsModel" "streets" "[I") (by decide +kernel)) (fun _ h9 => h9) dX10_allWidths_6 ?_
  refine lv_iconst (v := 0) hx hb dX10_allWidths_9 (by decide) ?_
  obtain ⟨v2, hv2, hE⟩ := Option.bind_eq_some_iff.mp hE
  refine r_iald hx hb hK hH hv2 dX10_allWidths_10 ?_
  refine lv_icmp_ge (tgt := 28) hx hb dX10_allWidths_11 (by decide) (fun c3 => ?_) (fun c3 => ?_)
  · rw [if_pos c3] at hE
    refine lv_iload_n hx hb dX10_allWidths_28 rfl (lv_at hl 1 rfl) ?_
    have hZ := Option.some.inj hE
    subst hZ
    exact W.iret (v := x1) hx hb hr (fun t ht hW => ⟨rfl, by rw [ht]; exact hH, hS.F ht⟩) hS.2.2 dX10_allWidths_29
  · rw [if_neg c3] at hE
    refine lv_iload_n hx hb dX10_allWidths_14 rfl (lv_at hl 1 rfl) ?_
    refine lv_aload_n hx hb dX10_allWidths_15 rfl (lv_at hl 0 rfl) ?_
    refine lv_iload_n hx hb dX10_allWidths_16 rfl (lv_at hl 2 rfl) ?_
    obtain ⟨z4, hz4, hE⟩ := Option.bind_eq_some_iff.mp hE
    refine r_callI (va_runV (As := [.int x2]) (rest := [.int x1]) ⟨hx, hb, hml, hown, hts⟩ (sX10_widthOf l b0 D cA hz4) (cwV 1 hts gX10_allWidths_X10_widthOf rfl rfl rfl (by decide +kernel) (rm_ok (by decide) (by decide))) (pre_V (ci := 9) hK hH (oX10_widthOf hz4) rfl) rfl rfl hl.1 rfl (lv_room (Nat.le_of_ble_eq_true rfl)) dX10_allWidths_17 ⟨Nat.zero_le _, Nat.zero_le _⟩) hS (fun H locs hH hS => ?_)
    refine lv_iadd hx hb dX10_allWidths_20 ?_
    refine lv_istore_n (lv' := [(1, .int (x1 + z4.1)), (0, .ref (b0 + a0)), (2, .int x2)]) hx hb dX10_allWidths_21 rfl hl (by decide) rfl (fun ls hl => ?_)
    refine lv_iinc (v := (x2 + 1)) (lv' := [(2, .int (x2 + 1)), (1, .int (x1 + z4.1)), (0, .ref (b0 + a0))]) hx hb dX10_allWidths_22 hl (k := 2) rfl rfl (by decide) rfl (fun ls hl => ?_)
    refine lv_goto (tgt := 4) hx hb dX10_allWidths_25 (by decide) ?_
    exact hk4 _ _ _ _ hE _ _ _ hH hS (lv_sub hl [2, 1, 0] rfl)
theorem sX10_allWidths_b4 {b0 : Nat} {D : va_G} {cA : Nat → ClassId} {p : Program} {l : Launch} {ev : Env} {s : State} {m : MethodId} {args : Array Value} {below : List Frame} {meth : Method} {c : Code} {F : Nat} {z : (Int32 × HL)} (hC : Cx D cA p s m args meth c cX10_allWidths 3 RX10 wsX10_allWidths (some .int)) : ∀ (n : Nat) (a0 : Nat) (x1 : Int32) (x2 : Int32) (L : HL), fX10_allWidths_b4 F n a0 x1 x2 L = some z → WB b0 D cA p l ev (RM 1 0 0) s m args below meth c 3 0 0 (MQ below (Qk b0 D cA (some (.int z.1)) z.2) args s 0 0 (Ab b0)) 4 [(0, .ref (b0 + a0)), (1, .int x1), (2, .int x2)] [] L := by
  intro n
  induction n with
  | zero => intro a0 x1 x2 L hE; cases hE
  | succ n ih => intro a0 x1 x2 L hE; exact sX10_allWidths_b4c (F := F) hC ih hE
def fX10_allWidths (F : Nat) (L : HL) (a0 : Nat) : Option (Int32 × HL) := (o_ob L a0 9).bind fun _ => fX10_allWidths_b4 F F a0 0 0 L
theorem oX10_allWidths {F : Nat} {L : HL} {a0 : Nat} {z : (Int32 × HL)} (hE : fX10_allWidths F L a0 = some z) : o_ob L a0 9 = some () := by
  obtain ⟨_, h, _⟩ := Option.bind_eq_some_iff.mp hE
  exact h
set_option maxHeartbeats 4000000 in
set_option maxRecDepth 100000 in
theorem sX10_allWidths (l : Launch) (b0 : Nat) (D : va_G) (cA : Nat → ClassId) {F : Nat} {L : HL} {a0 : Nat} {z : (Int32 × HL)} (hE : fX10_allWidths F L a0 = some z) : Met l yX10_allWidths wsX10_allWidths (RM 1 0 0) (Pk b0 D cA [.ref (b0 + a0)] L) (Qk b0 D cA (some (.int z.1)) z.2) 0 0 (Ab b0) := by
  refine Met.ofW (cc := cX10_allWidths) (maxL := 3) (ret := (some .int)) (by decide) rfl ?_
  intro p ev s m args below meth c s₁ B hml hv
  obtain ⟨rfl, hH, hK⟩ := hv
  have hx := B.exec
  have hb := B.bytes
  have hr := B.returns
  have hts := atoms_spec (ws := wsX10_allWidths) B.pre
  have hown : s.vm.findClass RX10 = some m.cls := findClass_of_methodNamed B.named
  have hlocks := B.notSynchronized
  have hC : Cx D cA p s m _ meth c cX10_allWidths 3 RX10 wsX10_allWidths (some .int) := ⟨hx, hb, hml, hown, hts, hK, hr, hlocks⟩
  have hS : va_S (Ab b0) s.heap s.heap [] := va_S.rf
  have hl := lv_entry ([.ref (b0 + a0)]) (n := 3) (Nat.le_of_ble_eq_true rfl)
  rw [lg_entry_eq]
  generalize (lg_sl ([.ref (b0 + a0)]) ++ List.replicate (3 - (lg_sl ([.ref (b0 + a0)])).length) Slot.unset).toArray = ls at hl ⊢
  have hl : lv_has ls 3 [(0, .ref (b0 + a0))] := hl
  unfold fX10_allWidths at hE
  obtain ⟨_, _, hE⟩ := Option.bind_eq_some_iff.mp hE
  refine lv_iconst (v := 0) hx hb dX10_allWidths_0 (by decide) ?_
  refine lv_istore_n (lv' := [(1, .int 0), (0, .ref (b0 + a0))]) hx hb dX10_allWidths_1 rfl hl (by decide) rfl (fun ls hl => ?_)
  refine lv_iconst (v := 0) hx hb dX10_allWidths_2 (by decide) ?_
  refine lv_istore_n (lv' := [(2, .int 0), (1, .int 0), (0, .ref (b0 + a0))]) hx hb dX10_allWidths_3 rfl hl (by decide) rfl (fun ls hl => ?_)
  exact sX10_allWidths_b4 (F := F) hC F _ _ _ _ hE _ _ _ hH hS (lv_sub hl [2, 1, 0] rfl)
-- X10_livingIn
def fX10_livingIn_b35 (F : Nat) (k4 : Nat → Int32 → Int32 → Int32 → HL → Option (Int32 × HL)) (a0 : Nat) (x1 : Int32) (x3 : Int32) (y0 : Int32) (y1 : Int32) (L : HL) : Option (Int32 × HL) := k4 a0 x1 (y1 ||| y0) (x3 + 1) L
set_option maxHeartbeats 4000000 in
set_option maxRecDepth 100000 in
theorem sX10_livingIn_b35 {b0 : Nat} {D : va_G} {cA : Nat → ClassId} {p : Program} {l : Launch} {ev : Env} {s : State} {m : MethodId} {args : Array Value} {below : List Frame} {meth : Method} {c : Code} {F : Nat} {z : (Int32 × HL)} {k4 : Nat → Int32 → Int32 → Int32 → HL → Option (Int32 × HL)} {a0 : Nat} {x1 : Int32} {x3 : Int32} {y0 : Int32} {y1 : Int32} {L : HL} (hC : Cx D cA p s m args meth c cX10_livingIn 4 RX10 wsX10_livingIn (some .int)) (hk4 : ∀ (a0' : Nat) (x1' : Int32) (x2' : Int32) (x3' : Int32) (L' : HL), k4 a0' x1' x2' x3' L' = some z → WB b0 D cA p l ev (RM 0 0 0) s m args below meth c 4 0 0 (MQ below (Qk b0 D cA (some (.int z.1)) z.2) args s 0 0 (Ab b0)) 4 [(0, .ref (b0 + a0')), (1, .int x1'), (2, .int x2'), (3, .int x3')] [] L') (hE : fX10_livingIn_b35 F k4 a0 x1 x3 y0 y1 L = some z) : WB b0 D cA p l ev (RM 0 0 0) s m args below meth c 4 0 0 (MQ below (Qk b0 D cA (some (.int z.1)) z.2) args s 0 0 (Ab b0)) 35 [(0, .ref (b0 + a0)), (1, .int x1), (3, .int x3)] [.int y0, .int y1] L := by
  obtain ⟨hx, hb, hml, hown, hts, hK, hr, hlocks⟩ := id hC
  intro H locs ls hH hS hl
  unfold fX10_livingIn_b35 at hE
  refine lv_ior hx hb dX10_livingIn_35 ?_
  refine lv_istore_n (lv' := [(2, .int (y1 ||| y0)), (0, .ref (b0 + a0)), (1, .int x1), (3, .int x3)]) hx hb dX10_livingIn_36 rfl hl (by decide) rfl (fun ls hl => ?_)
  refine lv_iinc (v := (x3 + 1)) (lv' := [(3, .int (x3 + 1)), (2, .int (y1 ||| y0)), (0, .ref (b0 + a0)), (1, .int x1)]) hx hb dX10_livingIn_37 hl (k := 3) rfl rfl (by decide) rfl (fun ls hl => ?_)
  refine lv_goto (tgt := 4) hx hb dX10_livingIn_40 (by decide) ?_
  exact hk4 _ _ _ _ _ hE _ _ _ hH hS (lv_sub hl [2, 3, 1, 0] rfl)
def fX10_livingIn_b4c (F : Nat) (k4 : Nat → Int32 → Int32 → Int32 → HL → Option (Int32 × HL)) (a0 : Nat) (x1 : Int32) (x2 : Int32) (x3 : Int32) (L : HL) : Option (Int32 × HL) := (o_gR L a0 9 7).bind fun v1 => (o_aI L v1 0 0).bind fun v2 => if v2 ≤ x3 then (some (x2, L)) else ((o_gR L a0 9 16).bind fun v4 => (o_aI L v4 0 (28 + x3)).bind fun v5 => if v5 = x1 then (fX10_livingIn_b35 F k4 a0 x1 x3 ((1 : Int32) <<< (x3 &&& 31)) x2 L) else (fX10_livingIn_b35 F k4 a0 x1 x3 0 x2 L))
def fX10_livingIn_b4 (F : Nat) : Nat → Nat → Int32 → Int32 → Int32 → HL → Option (Int32 × HL)
  | 0 => fun _ _ _ _ _ => none
  | n + 1 => fun a0 x1 x2 x3 L => fX10_livingIn_b4c F (fX10_livingIn_b4 F n) a0 x1 x2 x3 L
set_option maxHeartbeats 4000000 in
set_option maxRecDepth 100000 in
theorem sX10_livingIn_b4c {b0 : Nat} {D : va_G} {cA : Nat → ClassId} {p : Program} {l : Launch} {ev : Env} {s : State} {m : MethodId} {args : Array Value} {below : List Frame} {meth : Method} {c : Code} {F : Nat} {z : (Int32 × HL)} {k4 : Nat → Int32 → Int32 → Int32 → HL → Option (Int32 × HL)} {a0 : Nat} {x1 : Int32} {x2 : Int32} {x3 : Int32} {L : HL} (hC : Cx D cA p s m args meth c cX10_livingIn 4 RX10 wsX10_livingIn (some .int)) (hk4 : ∀ (a0' : Nat) (x1' : Int32) (x2' : Int32) (x3' : Int32) (L' : HL), k4 a0' x1' x2' x3' L' = some z → WB b0 D cA p l ev (RM 0 0 0) s m args below meth c 4 0 0 (MQ below (Qk b0 D cA (some (.int z.1)) z.2) args s 0 0 (Ab b0)) 4 [(0, .ref (b0 + a0')), (1, .int x1'), (2, .int x2'), (3, .int x3')] [] L') (hE : fX10_livingIn_b4c F k4 a0 x1 x2 x3 L = some z) : WB b0 D cA p l ev (RM 0 0 0) s m args below meth c 4 0 0 (MQ below (Qk b0 D cA (some (.int z.1)) z.2) args s 0 0 (Ab b0)) 4 [(0, .ref (b0 + a0)), (1, .int x1), (2, .int x2), (3, .int x3)] [] L := by
  obtain ⟨hx, hb, hml, hown, hts, hK, hr, hlocks⟩ := id hC
  intro H locs ls hH hS hl
  unfold fX10_livingIn_b4c at hE
  refine lv_iload_n hx hb dX10_livingIn_4 rfl (lv_at hl 3 rfl) ?_
  refine lv_aload_n hx hb dX10_livingIn_5 rfl (lv_at hl 0 rfl) ?_
  obtain ⟨v1, hv1, hE⟩ := Option.bind_eq_some_iff.mp hE
  refine r_gR 7 (C := RX10) (T := TX10) (N := 26) (ci := 9) hx hb hts (by decide +kernel) hown hK hH hv1 rfl (by decide) (hts (.fieldLink RX10 29 "KindStreetsModel" "people" "[I") (by decide +kernel)) (fun _ h9 => h9) dX10_livingIn_6 ?_
  refine lv_iconst (v := 0) hx hb dX10_livingIn_9 (by decide) ?_
  obtain ⟨v2, hv2, hE⟩ := Option.bind_eq_some_iff.mp hE
  refine r_iald hx hb hK hH hv2 dX10_livingIn_10 ?_
  refine lv_icmp_ge (tgt := 43) hx hb dX10_livingIn_11 (by decide) (fun c3 => ?_) (fun c3 => ?_)
  · rw [if_pos c3] at hE
    refine lv_iload_n hx hb dX10_livingIn_43 rfl (lv_at hl 2 rfl) ?_
    have hZ := Option.some.inj hE
    subst hZ
    exact W.iret (v := x2) hx hb hr (fun t ht hW => ⟨rfl, by rw [ht]; exact hH, hS.F ht⟩) hS.2.2 dX10_livingIn_44
  · rw [if_neg c3] at hE
    refine lv_iload_n hx hb dX10_livingIn_14 rfl (lv_at hl 2 rfl) ?_
    refine lv_aload_n hx hb dX10_livingIn_15 rfl (lv_at hl 0 rfl) ?_
    obtain ⟨v4, hv4, hE⟩ := Option.bind_eq_some_iff.mp hE
    refine r_gR 16 (C := RX10) (T := TX10) (N := 26) (ci := 9) hx hb hts (by decide +kernel) hown hK hH hv4 rfl (by decide) (hts (.fieldLink RX10 38 "KindStreetsModel" "now" "[I") (by decide +kernel)) (fun _ h9 => h9) dX10_livingIn_16 ?_
    refine lv_bipush (v := 28) hx hb dX10_livingIn_19 (by decide) ?_
    refine lv_iload_n hx hb dX10_livingIn_21 rfl (lv_at hl 3 rfl) ?_
    refine lv_iadd hx hb dX10_livingIn_22 ?_
    obtain ⟨v5, hv5, hE⟩ := Option.bind_eq_some_iff.mp hE
    refine r_iald hx hb hK hH hv5 dX10_livingIn_23 ?_
    refine lv_iload_n hx hb dX10_livingIn_24 rfl (lv_at hl 1 rfl) ?_
    refine lv_icmp_ne (tgt := 34) hx hb dX10_livingIn_25 (by decide) (fun c6 => ?_) (fun c6 => ?_)
    · rw [if_neg c6] at hE
      refine lv_iconst (v := 0) hx hb dX10_livingIn_34 (by decide) ?_
      exact sX10_livingIn_b35 (F := F) hC hk4 hE _ _ _ hH hS (lv_sub hl [0, 1, 3] rfl)
    · rw [if_pos c6] at hE
      refine lv_iconst (v := 1) hx hb dX10_livingIn_28 (by decide) ?_
      refine lv_iload_n hx hb dX10_livingIn_29 rfl (lv_at hl 3 rfl) ?_
      refine lv_ishl hx hb dX10_livingIn_30 ?_
      refine lv_goto (tgt := 35) hx hb dX10_livingIn_31 (by decide) ?_
      exact sX10_livingIn_b35 (F := F) hC hk4 hE _ _ _ hH hS (lv_sub hl [0, 1, 3] rfl)
theorem sX10_livingIn_b4 {b0 : Nat} {D : va_G} {cA : Nat → ClassId} {p : Program} {l : Launch} {ev : Env} {s : State} {m : MethodId} {args : Array Value} {below : List Frame} {meth : Method} {c : Code} {F : Nat} {z : (Int32 × HL)} (hC : Cx D cA p s m args meth c cX10_livingIn 4 RX10 wsX10_livingIn (some .int)) : ∀ (n : Nat) (a0 : Nat) (x1 : Int32) (x2 : Int32) (x3 : Int32) (L : HL), fX10_livingIn_b4 F n a0 x1 x2 x3 L = some z → WB b0 D cA p l ev (RM 0 0 0) s m args below meth c 4 0 0 (MQ below (Qk b0 D cA (some (.int z.1)) z.2) args s 0 0 (Ab b0)) 4 [(0, .ref (b0 + a0)), (1, .int x1), (2, .int x2), (3, .int x3)] [] L := by
  intro n
  induction n with
  | zero => intro a0 x1 x2 x3 L hE; cases hE
  | succ n ih => intro a0 x1 x2 x3 L hE; exact sX10_livingIn_b4c (F := F) hC ih hE
def fX10_livingIn (F : Nat) (L : HL) (a0 : Nat) (x1 : Int32) : Option (Int32 × HL) := (o_ob L a0 9).bind fun _ => fX10_livingIn_b4 F F a0 x1 0 0 L
theorem oX10_livingIn {F : Nat} {L : HL} {a0 : Nat} {x1 : Int32} {z : (Int32 × HL)} (hE : fX10_livingIn F L a0 x1 = some z) : o_ob L a0 9 = some () := by
  obtain ⟨_, h, _⟩ := Option.bind_eq_some_iff.mp hE
  exact h
set_option maxHeartbeats 4000000 in
set_option maxRecDepth 100000 in
theorem sX10_livingIn (l : Launch) (b0 : Nat) (D : va_G) (cA : Nat → ClassId) {F : Nat} {L : HL} {a0 : Nat} {x1 : Int32} {z : (Int32 × HL)} (hE : fX10_livingIn F L a0 x1 = some z) : Met l yX10_livingIn wsX10_livingIn (RM 0 0 0) (Pk b0 D cA [.ref (b0 + a0), .int x1] L) (Qk b0 D cA (some (.int z.1)) z.2) 0 0 (Ab b0) := by
  refine Met.ofW (cc := cX10_livingIn) (maxL := 4) (ret := (some .int)) (by decide) rfl ?_
  intro p ev s m args below meth c s₁ B hml hv
  obtain ⟨rfl, hH, hK⟩ := hv
  have hx := B.exec
  have hb := B.bytes
  have hr := B.returns
  have hts := atoms_spec (ws := wsX10_livingIn) B.pre
  have hown : s.vm.findClass RX10 = some m.cls := findClass_of_methodNamed B.named
  have hlocks := B.notSynchronized
  have hC : Cx D cA p s m _ meth c cX10_livingIn 4 RX10 wsX10_livingIn (some .int) := ⟨hx, hb, hml, hown, hts, hK, hr, hlocks⟩
  have hS : va_S (Ab b0) s.heap s.heap [] := va_S.rf
  have hl := lv_entry ([.ref (b0 + a0), .int x1]) (n := 4) (Nat.le_of_ble_eq_true rfl)
  rw [lg_entry_eq]
  generalize (lg_sl ([.ref (b0 + a0), .int x1]) ++ List.replicate (4 - (lg_sl ([.ref (b0 + a0), .int x1])).length) Slot.unset).toArray = ls at hl ⊢
  have hl : lv_has ls 4 [(0, .ref (b0 + a0)), (1, .int x1)] := hl
  unfold fX10_livingIn at hE
  obtain ⟨_, _, hE⟩ := Option.bind_eq_some_iff.mp hE
  refine lv_iconst (v := 0) hx hb dX10_livingIn_0 (by decide) ?_
  refine lv_istore_n (lv' := [(2, .int 0), (0, .ref (b0 + a0)), (1, .int x1)]) hx hb dX10_livingIn_1 rfl hl (by decide) rfl (fun ls hl => ?_)
  refine lv_iconst (v := 0) hx hb dX10_livingIn_2 (by decide) ?_
  refine lv_istore_n (lv' := [(3, .int 0), (2, .int 0), (0, .ref (b0 + a0)), (1, .int x1)]) hx hb dX10_livingIn_3 rfl hl (by decide) rfl (fun ls hl => ?_)
  exact sX10_livingIn_b4 (F := F) hC F _ _ _ _ _ hE _ _ _ hH hS (lv_sub hl [2, 3, 1, 0] rfl)
-- X10_doMeet
def fX10_doMeet_b60 (F : Nat)  (L : HL) : Option (Int32 × HL) := some (1, L)
set_option maxHeartbeats 4000000 in
set_option maxRecDepth 100000 in
theorem sX10_doMeet_b60 {b0 : Nat} {D : va_G} {cA : Nat → ClassId} {p : Program} {l : Launch} {ev : Env} {s : State} {m : MethodId} {args : Array Value} {below : List Frame} {meth : Method} {c : Code} {F : Nat} {z : (Int32 × HL)}  {L : HL} (hC : Cx D cA p s m args meth c cX10_doMeet 3 RX10 wsX10_doMeet (some .boolean)) (hE : fX10_doMeet_b60 F  L = some z) : WB b0 D cA p l ev (RM 0 0 0) s m args below meth c 3 0 0 (MQ below (Qk b0 D cA (some (.int z.1)) z.2) args s 0 0 (Ab b0)) 60 [] [] L := by
  obtain ⟨hx, hb, hml, hown, hts, hK, hr, hlocks⟩ := id hC
  intro H locs ls hH hS hl
  unfold fX10_doMeet_b60 at hE
  refine lv_iconst (v := 1) hx hb dX10_doMeet_60 (by decide) ?_
  refine lv_goto (tgt := 65) hx hb dX10_doMeet_61 (by decide) ?_
  have hZ := Option.some.inj hE
  subst hZ
  exact W.zret (v := 1) (ty := .boolean) hx hb hr rfl (fun t ht hW => ⟨rfl, by rw [ht]; exact hH, hS.F ht⟩) hS.2.2 dX10_doMeet_65
def fX10_doMeet (F : Nat) (L : HL) (a0 : Nat) (x1 : Int32) (x2 : Int32) : Option (Int32 × HL) := (o_ob L a0 9).bind fun _ => (o_gR L a0 9 4).bind fun v1 => (o_aI L v1 0 x1).bind fun v2 => (o_gR L a0 9 4).bind fun v3 => (o_aI L v3 0 x2).bind fun v4 => if v2 = v4 then (fX10_doMeet_b60 F L) else ((o_gR L a0 9 4).bind fun v6 => (o_aI L v6 0 x1).bind fun v7 => (o_gR L a0 9 5).bind fun v8 => (o_aI L v8 0 x2).bind fun v9 => if v7 = v9 then (fX10_doMeet_b60 F L) else ((o_gR L a0 9 5).bind fun v11 => (o_aI L v11 0 x1).bind fun v12 => (o_gR L a0 9 4).bind fun v13 => (o_aI L v13 0 x2).bind fun v14 => if v12 = v14 then (fX10_doMeet_b60 F L) else ((o_gR L a0 9 5).bind fun v16 => (o_aI L v16 0 x1).bind fun v17 => (o_gR L a0 9 5).bind fun v18 => (o_aI L v18 0 x2).bind fun v19 => if v17 = v19 then (fX10_doMeet_b60 F L) else (some (0, L)))))
theorem oX10_doMeet {F : Nat} {L : HL} {a0 : Nat} {x1 : Int32} {x2 : Int32} {z : (Int32 × HL)} (hE : fX10_doMeet F L a0 x1 x2 = some z) : o_ob L a0 9 = some () := by
  obtain ⟨_, h, _⟩ := Option.bind_eq_some_iff.mp hE
  exact h
set_option maxHeartbeats 4000000 in
set_option maxRecDepth 100000 in
theorem sX10_doMeet (l : Launch) (b0 : Nat) (D : va_G) (cA : Nat → ClassId) {F : Nat} {L : HL} {a0 : Nat} {x1 : Int32} {x2 : Int32} {z : (Int32 × HL)} (hE : fX10_doMeet F L a0 x1 x2 = some z) : Met l yX10_doMeet wsX10_doMeet (RM 0 0 0) (Pk b0 D cA [.ref (b0 + a0), .int x1, .int x2] L) (Qk b0 D cA (some (.int z.1)) z.2) 0 0 (Ab b0) := by
  refine Met.ofW (cc := cX10_doMeet) (maxL := 3) (ret := (some .boolean)) (by decide) rfl ?_
  intro p ev s m args below meth c s₁ B hml hv
  obtain ⟨rfl, hH, hK⟩ := hv
  have hx := B.exec
  have hb := B.bytes
  have hr := B.returns
  have hts := atoms_spec (ws := wsX10_doMeet) B.pre
  have hown : s.vm.findClass RX10 = some m.cls := findClass_of_methodNamed B.named
  have hlocks := B.notSynchronized
  have hC : Cx D cA p s m _ meth c cX10_doMeet 3 RX10 wsX10_doMeet (some .boolean) := ⟨hx, hb, hml, hown, hts, hK, hr, hlocks⟩
  have hS : va_S (Ab b0) s.heap s.heap [] := va_S.rf
  have hl := lv_entry ([.ref (b0 + a0), .int x1, .int x2]) (n := 3) (Nat.le_of_ble_eq_true rfl)
  rw [lg_entry_eq]
  generalize (lg_sl ([.ref (b0 + a0), .int x1, .int x2]) ++ List.replicate (3 - (lg_sl ([.ref (b0 + a0), .int x1, .int x2])).length) Slot.unset).toArray = ls at hl ⊢
  have hl : lv_has ls 3 [(0, .ref (b0 + a0)), (1, .int x1), (2, .int x2)] := hl
  unfold fX10_doMeet at hE
  obtain ⟨_, _, hE⟩ := Option.bind_eq_some_iff.mp hE
  refine lv_aload_n hx hb dX10_doMeet_0 rfl (lv_at hl 0 rfl) ?_
  obtain ⟨v1, hv1, hE⟩ := Option.bind_eq_some_iff.mp hE
  refine r_gR 4 (C := RX10) (T := TX10) (N := 26) (ci := 9) hx hb hts (by decide +kernel) hown hK hH hv1 rfl (by decide) (hts (.fieldLink RX10 20 "KindStreetsModel" "from" "[I") (by decide +kernel)) (fun _ h9 => h9) dX10_doMeet_1 ?_
  refine lv_iload_n hx hb dX10_doMeet_4 rfl (lv_at hl 1 rfl) ?_
  obtain ⟨v2, hv2, hE⟩ := Option.bind_eq_some_iff.mp hE
  refine r_iald hx hb hK hH hv2 dX10_doMeet_5 ?_
  refine lv_aload_n hx hb dX10_doMeet_6 rfl (lv_at hl 0 rfl) ?_
  obtain ⟨v3, hv3, hE⟩ := Option.bind_eq_some_iff.mp hE
  refine r_gR 4 (C := RX10) (T := TX10) (N := 26) (ci := 9) hx hb hts (by decide +kernel) hown hK hH hv3 rfl (by decide) (hts (.fieldLink RX10 20 "KindStreetsModel" "from" "[I") (by decide +kernel)) (fun _ h9 => h9) dX10_doMeet_7 ?_
  refine lv_iload_n hx hb dX10_doMeet_10 rfl (lv_at hl 2 rfl) ?_
  obtain ⟨v4, hv4, hE⟩ := Option.bind_eq_some_iff.mp hE
  refine r_iald hx hb hK hH hv4 dX10_doMeet_11 ?_
  refine lv_icmp_eq (tgt := 60) hx hb dX10_doMeet_12 (by decide) (fun c5 => ?_) (fun c5 => ?_)
  · rw [if_pos c5] at hE
    exact sX10_doMeet_b60 (F := F) hC hE _ _ _ hH hS (lv_sub hl [] rfl)
  · rw [if_neg c5] at hE
    refine lv_aload_n hx hb dX10_doMeet_15 rfl (lv_at hl 0 rfl) ?_
    obtain ⟨v6, hv6, hE⟩ := Option.bind_eq_some_iff.mp hE
    refine r_gR 4 (C := RX10) (T := TX10) (N := 26) (ci := 9) hx hb hts (by decide +kernel) hown hK hH hv6 rfl (by decide) (hts (.fieldLink RX10 20 "KindStreetsModel" "from" "[I") (by decide +kernel)) (fun _ h9 => h9) dX10_doMeet_16 ?_
    refine lv_iload_n hx hb dX10_doMeet_19 rfl (lv_at hl 1 rfl) ?_
    obtain ⟨v7, hv7, hE⟩ := Option.bind_eq_some_iff.mp hE
    refine r_iald hx hb hK hH hv7 dX10_doMeet_20 ?_
    refine lv_aload_n hx hb dX10_doMeet_21 rfl (lv_at hl 0 rfl) ?_
    obtain ⟨v8, hv8, hE⟩ := Option.bind_eq_some_iff.mp hE
    refine r_gR 5 (C := RX10) (T := TX10) (N := 26) (ci := 9) hx hb hts (by decide +kernel) hown hK hH hv8 rfl (by decide) (hts (.fieldLink RX10 23 "KindStreetsModel" "to" "[I") (by decide +kernel)) (fun _ h9 => h9) dX10_doMeet_22 ?_
    refine lv_iload_n hx hb dX10_doMeet_25 rfl (lv_at hl 2 rfl) ?_
    obtain ⟨v9, hv9, hE⟩ := Option.bind_eq_some_iff.mp hE
    refine r_iald hx hb hK hH hv9 dX10_doMeet_26 ?_
    refine lv_icmp_eq (tgt := 60) hx hb dX10_doMeet_27 (by decide) (fun c10 => ?_) (fun c10 => ?_)
    · rw [if_pos c10] at hE
      exact sX10_doMeet_b60 (F := F) hC hE _ _ _ hH hS (lv_sub hl [] rfl)
    · rw [if_neg c10] at hE
      refine lv_aload_n hx hb dX10_doMeet_30 rfl (lv_at hl 0 rfl) ?_
      obtain ⟨v11, hv11, hE⟩ := Option.bind_eq_some_iff.mp hE
      refine r_gR 5 (C := RX10) (T := TX10) (N := 26) (ci := 9) hx hb hts (by decide +kernel) hown hK hH hv11 rfl (by decide) (hts (.fieldLink RX10 23 "KindStreetsModel" "to" "[I") (by decide +kernel)) (fun _ h9 => h9) dX10_doMeet_31 ?_
      refine lv_iload_n hx hb dX10_doMeet_34 rfl (lv_at hl 1 rfl) ?_
      obtain ⟨v12, hv12, hE⟩ := Option.bind_eq_some_iff.mp hE
      refine r_iald hx hb hK hH hv12 dX10_doMeet_35 ?_
      refine lv_aload_n hx hb dX10_doMeet_36 rfl (lv_at hl 0 rfl) ?_
      obtain ⟨v13, hv13, hE⟩ := Option.bind_eq_some_iff.mp hE
      refine r_gR 4 (C := RX10) (T := TX10) (N := 26) (ci := 9) hx hb hts (by decide +kernel) hown hK hH hv13 rfl (by decide) (hts (.fieldLink RX10 20 "KindStreetsModel" "from" "[I") (by decide +kernel)) (fun _ h9 => h9) dX10_doMeet_37 ?_
      refine lv_iload_n hx hb dX10_doMeet_40 rfl (lv_at hl 2 rfl) ?_
      obtain ⟨v14, hv14, hE⟩ := Option.bind_eq_some_iff.mp hE
      refine r_iald hx hb hK hH hv14 dX10_doMeet_41 ?_
      refine lv_icmp_eq (tgt := 60) hx hb dX10_doMeet_42 (by decide) (fun c15 => ?_) (fun c15 => ?_)
      · rw [if_pos c15] at hE
        exact sX10_doMeet_b60 (F := F) hC hE _ _ _ hH hS (lv_sub hl [] rfl)
      · rw [if_neg c15] at hE
        refine lv_aload_n hx hb dX10_doMeet_45 rfl (lv_at hl 0 rfl) ?_
        obtain ⟨v16, hv16, hE⟩ := Option.bind_eq_some_iff.mp hE
        refine r_gR 5 (C := RX10) (T := TX10) (N := 26) (ci := 9) hx hb hts (by decide +kernel) hown hK hH hv16 rfl (by decide) (hts (.fieldLink RX10 23 "KindStreetsModel" "to" "[I") (by decide +kernel)) (fun _ h9 => h9) dX10_doMeet_46 ?_
        refine lv_iload_n hx hb dX10_doMeet_49 rfl (lv_at hl 1 rfl) ?_
        obtain ⟨v17, hv17, hE⟩ := Option.bind_eq_some_iff.mp hE
        refine r_iald hx hb hK hH hv17 dX10_doMeet_50 ?_
        refine lv_aload_n hx hb dX10_doMeet_51 rfl (lv_at hl 0 rfl) ?_
        obtain ⟨v18, hv18, hE⟩ := Option.bind_eq_some_iff.mp hE
        refine r_gR 5 (C := RX10) (T := TX10) (N := 26) (ci := 9) hx hb hts (by decide +kernel) hown hK hH hv18 rfl (by decide) (hts (.fieldLink RX10 23 "KindStreetsModel" "to" "[I") (by decide +kernel)) (fun _ h9 => h9) dX10_doMeet_52 ?_
        refine lv_iload_n hx hb dX10_doMeet_55 rfl (lv_at hl 2 rfl) ?_
        obtain ⟨v19, hv19, hE⟩ := Option.bind_eq_some_iff.mp hE
        refine r_iald hx hb hK hH hv19 dX10_doMeet_56 ?_
        refine lv_icmp_ne (tgt := 64) hx hb dX10_doMeet_57 (by decide) (fun c20 => ?_) (fun c20 => ?_)
        · rw [if_neg c20] at hE
          refine lv_iconst (v := 0) hx hb dX10_doMeet_64 (by decide) ?_
          have hZ := Option.some.inj hE
          subst hZ
          exact W.zret (v := 0) (ty := .boolean) hx hb hr rfl (fun t ht hW => ⟨rfl, by rw [ht]; exact hH, hS.F ht⟩) hS.2.2 dX10_doMeet_65
        · rw [if_pos c20] at hE
          exact sX10_doMeet_b60 (F := F) hC hE _ _ _ hH hS (lv_sub hl [] rfl)
-- X10_witnesses
def fX10_witnesses_b52 (F : Nat) (k4 : Nat → Int32 → Int32 → Int32 → HL → Option (Int32 × HL)) (a0 : Nat) (x1 : Int32) (x3 : Int32) (y0 : Int32) (y1 : Int32) (L : HL) : Option (Int32 × HL) := k4 a0 x1 (y1 ||| y0) (x3 + 1) L
set_option maxHeartbeats 4000000 in
set_option maxRecDepth 100000 in
theorem sX10_witnesses_b52 {b0 : Nat} {D : va_G} {cA : Nat → ClassId} {p : Program} {l : Launch} {ev : Env} {s : State} {m : MethodId} {args : Array Value} {below : List Frame} {meth : Method} {c : Code} {F : Nat} {z : (Int32 × HL)} {k4 : Nat → Int32 → Int32 → Int32 → HL → Option (Int32 × HL)} {a0 : Nat} {x1 : Int32} {x3 : Int32} {y0 : Int32} {y1 : Int32} {L : HL} (hC : Cx D cA p s m args meth c cX10_witnesses 4 RX10 wsX10_witnesses (some .int)) (hk4 : ∀ (a0' : Nat) (x1' : Int32) (x2' : Int32) (x3' : Int32) (L' : HL), k4 a0' x1' x2' x3' L' = some z → WB b0 D cA p l ev (RM 1 0 0) s m args below meth c 4 0 0 (MQ below (Qk b0 D cA (some (.int z.1)) z.2) args s 0 0 (Ab b0)) 4 [(0, .ref (b0 + a0')), (1, .int x1'), (2, .int x2'), (3, .int x3')] [] L') (hE : fX10_witnesses_b52 F k4 a0 x1 x3 y0 y1 L = some z) : WB b0 D cA p l ev (RM 1 0 0) s m args below meth c 4 0 0 (MQ below (Qk b0 D cA (some (.int z.1)) z.2) args s 0 0 (Ab b0)) 52 [(0, .ref (b0 + a0)), (1, .int x1), (3, .int x3)] [.int y0, .int y1] L := by
  obtain ⟨hx, hb, hml, hown, hts, hK, hr, hlocks⟩ := id hC
  intro H locs ls hH hS hl
  unfold fX10_witnesses_b52 at hE
  refine lv_ior hx hb dX10_witnesses_52 ?_
  refine lv_istore_n (lv' := [(2, .int (y1 ||| y0)), (0, .ref (b0 + a0)), (1, .int x1), (3, .int x3)]) hx hb dX10_witnesses_53 rfl hl (by decide) rfl (fun ls hl => ?_)
  refine lv_iinc (v := (x3 + 1)) (lv' := [(3, .int (x3 + 1)), (2, .int (y1 ||| y0)), (0, .ref (b0 + a0)), (1, .int x1)]) hx hb dX10_witnesses_54 hl (k := 3) rfl rfl (by decide) rfl (fun ls hl => ?_)
  refine lv_goto (tgt := 4) hx hb dX10_witnesses_57 (by decide) ?_
  exact hk4 _ _ _ _ _ hE _ _ _ hH hS (lv_sub hl [2, 3, 1, 0] rfl)
def fX10_witnesses_b51 (F : Nat) (k4 : Nat → Int32 → Int32 → Int32 → HL → Option (Int32 × HL)) (a0 : Nat) (x1 : Int32) (x3 : Int32) (y0 : Int32) (L : HL) : Option (Int32 × HL) := fX10_witnesses_b52 F k4 a0 x1 x3 0 y0 L
set_option maxHeartbeats 4000000 in
set_option maxRecDepth 100000 in
theorem sX10_witnesses_b51 {b0 : Nat} {D : va_G} {cA : Nat → ClassId} {p : Program} {l : Launch} {ev : Env} {s : State} {m : MethodId} {args : Array Value} {below : List Frame} {meth : Method} {c : Code} {F : Nat} {z : (Int32 × HL)} {k4 : Nat → Int32 → Int32 → Int32 → HL → Option (Int32 × HL)} {a0 : Nat} {x1 : Int32} {x3 : Int32} {y0 : Int32} {L : HL} (hC : Cx D cA p s m args meth c cX10_witnesses 4 RX10 wsX10_witnesses (some .int)) (hk4 : ∀ (a0' : Nat) (x1' : Int32) (x2' : Int32) (x3' : Int32) (L' : HL), k4 a0' x1' x2' x3' L' = some z → WB b0 D cA p l ev (RM 1 0 0) s m args below meth c 4 0 0 (MQ below (Qk b0 D cA (some (.int z.1)) z.2) args s 0 0 (Ab b0)) 4 [(0, .ref (b0 + a0')), (1, .int x1'), (2, .int x2'), (3, .int x3')] [] L') (hE : fX10_witnesses_b51 F k4 a0 x1 x3 y0 L = some z) : WB b0 D cA p l ev (RM 1 0 0) s m args below meth c 4 0 0 (MQ below (Qk b0 D cA (some (.int z.1)) z.2) args s 0 0 (Ab b0)) 51 [(0, .ref (b0 + a0)), (1, .int x1), (3, .int x3)] [.int y0] L := by
  obtain ⟨hx, hb, hml, hown, hts, hK, hr, hlocks⟩ := id hC
  intro H locs ls hH hS hl
  unfold fX10_witnesses_b51 at hE
  refine lv_iconst (v := 0) hx hb dX10_witnesses_51 (by decide) ?_
  exact sX10_witnesses_b52 (F := F) hC hk4 hE _ _ _ hH hS (lv_sub hl [0, 1, 2] rfl)
def fX10_witnesses_b4c (F : Nat) (k4 : Nat → Int32 → Int32 → Int32 → HL → Option (Int32 × HL)) (a0 : Nat) (x1 : Int32) (x2 : Int32) (x3 : Int32) (L : HL) : Option (Int32 × HL) := (o_gR L a0 9 7).bind fun v1 => (o_aI L v1 0 0).bind fun v2 => if v2 ≤ x3 then (some (x2, L)) else (if x3 = x1 then (fX10_witnesses_b51 F k4 a0 x1 x3 x2 L) else ((o_gR L a0 9 16).bind fun v5 => (o_aI L v5 0 (28 + x1)).bind fun v6 => (o_gR L a0 9 16).bind fun v7 => (o_aI L v7 0 (28 + x3)).bind fun v8 => (fX10_doMeet F L a0 v6 v8).bind fun z9 => if z9.1 = 0 then (fX10_witnesses_b51 F k4 a0 x1 x3 x2 z9.2) else (fX10_witnesses_b52 F k4 a0 x1 x3 ((1 : Int32) <<< (x3 &&& 31)) x2 z9.2)))
def fX10_witnesses_b4 (F : Nat) : Nat → Nat → Int32 → Int32 → Int32 → HL → Option (Int32 × HL)
  | 0 => fun _ _ _ _ _ => none
  | n + 1 => fun a0 x1 x2 x3 L => fX10_witnesses_b4c F (fX10_witnesses_b4 F n) a0 x1 x2 x3 L
set_option maxHeartbeats 4000000 in
set_option maxRecDepth 100000 in
theorem sX10_witnesses_b4c {b0 : Nat} {D : va_G} {cA : Nat → ClassId} {p : Program} {l : Launch} {ev : Env} {s : State} {m : MethodId} {args : Array Value} {below : List Frame} {meth : Method} {c : Code} {F : Nat} {z : (Int32 × HL)} {k4 : Nat → Int32 → Int32 → Int32 → HL → Option (Int32 × HL)} {a0 : Nat} {x1 : Int32} {x2 : Int32} {x3 : Int32} {L : HL} (hC : Cx D cA p s m args meth c cX10_witnesses 4 RX10 wsX10_witnesses (some .int)) (hk4 : ∀ (a0' : Nat) (x1' : Int32) (x2' : Int32) (x3' : Int32) (L' : HL), k4 a0' x1' x2' x3' L' = some z → WB b0 D cA p l ev (RM 1 0 0) s m args below meth c 4 0 0 (MQ below (Qk b0 D cA (some (.int z.1)) z.2) args s 0 0 (Ab b0)) 4 [(0, .ref (b0 + a0')), (1, .int x1'), (2, .int x2'), (3, .int x3')] [] L') (hE : fX10_witnesses_b4c F k4 a0 x1 x2 x3 L = some z) : WB b0 D cA p l ev (RM 1 0 0) s m args below meth c 4 0 0 (MQ below (Qk b0 D cA (some (.int z.1)) z.2) args s 0 0 (Ab b0)) 4 [(0, .ref (b0 + a0)), (1, .int x1), (2, .int x2), (3, .int x3)] [] L := by
  obtain ⟨hx, hb, hml, hown, hts, hK, hr, hlocks⟩ := id hC
  intro H locs ls hH hS hl
  unfold fX10_witnesses_b4c at hE
  refine lv_iload_n hx hb dX10_witnesses_4 rfl (lv_at hl 3 rfl) ?_
  refine lv_aload_n hx hb dX10_witnesses_5 rfl (lv_at hl 0 rfl) ?_
  obtain ⟨v1, hv1, hE⟩ := Option.bind_eq_some_iff.mp hE
  refine r_gR 7 (C := RX10) (T := TX10) (N := 26) (ci := 9) hx hb hts (by decide +kernel) hown hK hH hv1 rfl (by decide) (hts (.fieldLink RX10 29 "KindStreetsModel" "people" "[I") (by decide +kernel)) (fun _ h9 => h9) dX10_witnesses_6 ?_
  refine lv_iconst (v := 0) hx hb dX10_witnesses_9 (by decide) ?_
  obtain ⟨v2, hv2, hE⟩ := Option.bind_eq_some_iff.mp hE
  refine r_iald hx hb hK hH hv2 dX10_witnesses_10 ?_
  refine lv_icmp_ge (tgt := 60) hx hb dX10_witnesses_11 (by decide) (fun c3 => ?_) (fun c3 => ?_)
  · rw [if_pos c3] at hE
    refine lv_iload_n hx hb dX10_witnesses_60 rfl (lv_at hl 2 rfl) ?_
    have hZ := Option.some.inj hE
    subst hZ
    exact W.iret (v := x2) hx hb hr (fun t ht hW => ⟨rfl, by rw [ht]; exact hH, hS.F ht⟩) hS.2.2 dX10_witnesses_61
  · rw [if_neg c3] at hE
    refine lv_iload_n hx hb dX10_witnesses_14 rfl (lv_at hl 2 rfl) ?_
    refine lv_iload_n hx hb dX10_witnesses_15 rfl (lv_at hl 3 rfl) ?_
    refine lv_iload_n hx hb dX10_witnesses_16 rfl (lv_at hl 1 rfl) ?_
    refine lv_icmp_eq (tgt := 51) hx hb dX10_witnesses_17 (by decide) (fun c4 => ?_) (fun c4 => ?_)
    · rw [if_pos c4] at hE
      exact sX10_witnesses_b51 (F := F) hC hk4 hE _ _ _ hH hS (lv_sub hl [0, 1, 3] rfl)
    · rw [if_neg c4] at hE
      refine lv_aload_n hx hb dX10_witnesses_20 rfl (lv_at hl 0 rfl) ?_
      refine lv_aload_n hx hb dX10_witnesses_21 rfl (lv_at hl 0 rfl) ?_
      obtain ⟨v5, hv5, hE⟩ := Option.bind_eq_some_iff.mp hE
      refine r_gR 16 (C := RX10) (T := TX10) (N := 26) (ci := 9) hx hb hts (by decide +kernel) hown hK hH hv5 rfl (by decide) (hts (.fieldLink RX10 38 "KindStreetsModel" "now" "[I") (by decide +kernel)) (fun _ h9 => h9) dX10_witnesses_22 ?_
      refine lv_bipush (v := 28) hx hb dX10_witnesses_25 (by decide) ?_
      refine lv_iload_n hx hb dX10_witnesses_27 rfl (lv_at hl 1 rfl) ?_
      refine lv_iadd hx hb dX10_witnesses_28 ?_
      obtain ⟨v6, hv6, hE⟩ := Option.bind_eq_some_iff.mp hE
      refine r_iald hx hb hK hH hv6 dX10_witnesses_29 ?_
      refine lv_aload_n hx hb dX10_witnesses_30 rfl (lv_at hl 0 rfl) ?_
      obtain ⟨v7, hv7, hE⟩ := Option.bind_eq_some_iff.mp hE
      refine r_gR 16 (C := RX10) (T := TX10) (N := 26) (ci := 9) hx hb hts (by decide +kernel) hown hK hH hv7 rfl (by decide) (hts (.fieldLink RX10 38 "KindStreetsModel" "now" "[I") (by decide +kernel)) (fun _ h9 => h9) dX10_witnesses_31 ?_
      refine lv_bipush (v := 28) hx hb dX10_witnesses_34 (by decide) ?_
      refine lv_iload_n hx hb dX10_witnesses_36 rfl (lv_at hl 3 rfl) ?_
      refine lv_iadd hx hb dX10_witnesses_37 ?_
      obtain ⟨v8, hv8, hE⟩ := Option.bind_eq_some_iff.mp hE
      refine r_iald hx hb hK hH hv8 dX10_witnesses_38 ?_
      obtain ⟨z9, hz9, hE⟩ := Option.bind_eq_some_iff.mp hE
      refine r_callI (va_runV (As := [.int v6, .int v8]) (rest := [.int x2]) ⟨hx, hb, hml, hown, hts⟩ (sX10_doMeet l b0 D cA hz9) (cwV 2 hts gX10_witnesses_X10_doMeet rfl rfl rfl (by decide +kernel) (rm_ok (by decide) (by decide))) (pre_V (ci := 9) hK hH (oX10_doMeet hz9) rfl) rfl rfl hl.1 rfl (lv_room (Nat.le_of_ble_eq_true rfl)) dX10_witnesses_39 ⟨Nat.zero_le _, Nat.zero_le _⟩) hS (fun H locs hH hS => ?_)
      refine lv_if_eq (tgt := 51) hx hb dX10_witnesses_42 (by decide) (fun c10 => ?_) (fun c10 => ?_)
      · rw [if_pos c10] at hE
        exact sX10_witnesses_b51 (F := F) hC hk4 hE _ _ _ hH hS (lv_sub hl [0, 1, 3] rfl)
      · rw [if_neg c10] at hE
        refine lv_iconst (v := 1) hx hb dX10_witnesses_45 (by decide) ?_
        refine lv_iload_n hx hb dX10_witnesses_46 rfl (lv_at hl 3 rfl) ?_
        refine lv_ishl hx hb dX10_witnesses_47 ?_
        refine lv_goto (tgt := 52) hx hb dX10_witnesses_48 (by decide) ?_
        exact sX10_witnesses_b52 (F := F) hC hk4 hE _ _ _ hH hS (lv_sub hl [0, 1, 3] rfl)
theorem sX10_witnesses_b4 {b0 : Nat} {D : va_G} {cA : Nat → ClassId} {p : Program} {l : Launch} {ev : Env} {s : State} {m : MethodId} {args : Array Value} {below : List Frame} {meth : Method} {c : Code} {F : Nat} {z : (Int32 × HL)} (hC : Cx D cA p s m args meth c cX10_witnesses 4 RX10 wsX10_witnesses (some .int)) : ∀ (n : Nat) (a0 : Nat) (x1 : Int32) (x2 : Int32) (x3 : Int32) (L : HL), fX10_witnesses_b4 F n a0 x1 x2 x3 L = some z → WB b0 D cA p l ev (RM 1 0 0) s m args below meth c 4 0 0 (MQ below (Qk b0 D cA (some (.int z.1)) z.2) args s 0 0 (Ab b0)) 4 [(0, .ref (b0 + a0)), (1, .int x1), (2, .int x2), (3, .int x3)] [] L := by
  intro n
  induction n with
  | zero => intro a0 x1 x2 x3 L hE; cases hE
  | succ n ih => intro a0 x1 x2 x3 L hE; exact sX10_witnesses_b4c (F := F) hC ih hE
def fX10_witnesses (F : Nat) (L : HL) (a0 : Nat) (x1 : Int32) : Option (Int32 × HL) := (o_ob L a0 9).bind fun _ => fX10_witnesses_b4 F F a0 x1 0 0 L
theorem oX10_witnesses {F : Nat} {L : HL} {a0 : Nat} {x1 : Int32} {z : (Int32 × HL)} (hE : fX10_witnesses F L a0 x1 = some z) : o_ob L a0 9 = some () := by
  obtain ⟨_, h, _⟩ := Option.bind_eq_some_iff.mp hE
  exact h
set_option maxHeartbeats 4000000 in
set_option maxRecDepth 100000 in
theorem sX10_witnesses (l : Launch) (b0 : Nat) (D : va_G) (cA : Nat → ClassId) {F : Nat} {L : HL} {a0 : Nat} {x1 : Int32} {z : (Int32 × HL)} (hE : fX10_witnesses F L a0 x1 = some z) : Met l yX10_witnesses wsX10_witnesses (RM 1 0 0) (Pk b0 D cA [.ref (b0 + a0), .int x1] L) (Qk b0 D cA (some (.int z.1)) z.2) 0 0 (Ab b0) := by
  refine Met.ofW (cc := cX10_witnesses) (maxL := 4) (ret := (some .int)) (by decide) rfl ?_
  intro p ev s m args below meth c s₁ B hml hv
  obtain ⟨rfl, hH, hK⟩ := hv
  have hx := B.exec
  have hb := B.bytes
  have hr := B.returns
  have hts := atoms_spec (ws := wsX10_witnesses) B.pre
  have hown : s.vm.findClass RX10 = some m.cls := findClass_of_methodNamed B.named
  have hlocks := B.notSynchronized
  have hC : Cx D cA p s m _ meth c cX10_witnesses 4 RX10 wsX10_witnesses (some .int) := ⟨hx, hb, hml, hown, hts, hK, hr, hlocks⟩
  have hS : va_S (Ab b0) s.heap s.heap [] := va_S.rf
  have hl := lv_entry ([.ref (b0 + a0), .int x1]) (n := 4) (Nat.le_of_ble_eq_true rfl)
  rw [lg_entry_eq]
  generalize (lg_sl ([.ref (b0 + a0), .int x1]) ++ List.replicate (4 - (lg_sl ([.ref (b0 + a0), .int x1])).length) Slot.unset).toArray = ls at hl ⊢
  have hl : lv_has ls 4 [(0, .ref (b0 + a0)), (1, .int x1)] := hl
  unfold fX10_witnesses at hE
  obtain ⟨_, _, hE⟩ := Option.bind_eq_some_iff.mp hE
  refine lv_iconst (v := 0) hx hb dX10_witnesses_0 (by decide) ?_
  refine lv_istore_n (lv' := [(2, .int 0), (0, .ref (b0 + a0)), (1, .int x1)]) hx hb dX10_witnesses_1 rfl hl (by decide) rfl (fun ls hl => ?_)
  refine lv_iconst (v := 0) hx hb dX10_witnesses_2 (by decide) ?_
  refine lv_istore_n (lv' := [(3, .int 0), (2, .int 0), (0, .ref (b0 + a0)), (1, .int x1)]) hx hb dX10_witnesses_3 rfl hl (by decide) rfl (fun ls hl => ?_)
  exact sX10_witnesses_b4 (F := F) hC F _ _ _ _ _ hE _ _ _ hH hS (lv_sub hl [2, 3, 1, 0] rfl)
-- X10_street
def fX10_street (F : Nat) (L : HL) (a0 : Nat) (x1 : Int32) (x2 : Int32) : Option (Int32 × HL) := (o_ob L a0 9).bind fun _ => (fX10_isStreet F L a0 x1).bind fun z1 => if z1.1 = 0 then (some ((-1), z1.2)) else (if x2 = 0 then ((o_gR z1.2 a0 9 4).bind fun v4 => (o_aI z1.2 v4 0 x1).bind fun v5 => some (v5, z1.2)) else if x2 = 1 then ((o_gR z1.2 a0 9 5).bind fun v7 => (o_aI z1.2 v7 0 x1).bind fun v8 => some (v8, z1.2)) else if x2 = 2 then ((o_gR z1.2 a0 9 16).bind fun v10 => (o_aI z1.2 v10 0 (1 + x1)).bind fun v11 => some (v11, z1.2)) else if x2 = 3 then ((o_gR z1.2 a0 9 16).bind fun v13 => (o_aI z1.2 v13 0 (10 + x1)).bind fun v14 => some (v14, z1.2)) else if x2 = 4 then ((o_gR z1.2 a0 9 16).bind fun v16 => (o_aI z1.2 v16 0 (19 + x1)).bind fun v17 => some (v17, z1.2)) else if x2 = 5 then ((fX10_widthOf F z1.2 a0 x1).bind fun z19 => some (z19.1, z19.2)) else if x2 = 6 then ((fX10_livingIn F z1.2 a0 x1).bind fun z21 => some (z21.1, z21.2)) else some ((-1), z1.2))
theorem oX10_street {F : Nat} {L : HL} {a0 : Nat} {x1 : Int32} {x2 : Int32} {z : (Int32 × HL)} (hE : fX10_street F L a0 x1 x2 = some z) : o_ob L a0 9 = some () := by
  obtain ⟨_, h, _⟩ := Option.bind_eq_some_iff.mp hE
  exact h
set_option maxHeartbeats 4000000 in
set_option maxRecDepth 100000 in
theorem sX10_street (l : Launch) (b0 : Nat) (D : va_G) (cA : Nat → ClassId) {F : Nat} {L : HL} {a0 : Nat} {x1 : Int32} {x2 : Int32} {z : (Int32 × HL)} (hE : fX10_street F L a0 x1 x2 = some z) : Met l yX10_street wsX10_street (RM 2 0 0) (Pk b0 D cA [.ref (b0 + a0), .int x1, .int x2] L) (Qk b0 D cA (some (.int z.1)) z.2) 0 0 (Ab b0) := by
  refine Met.ofW (cc := cX10_street) (maxL := 3) (ret := (some .int)) (by decide) rfl ?_
  intro p ev s m args below meth c s₁ B hml hv
  obtain ⟨rfl, hH, hK⟩ := hv
  have hx := B.exec
  have hb := B.bytes
  have hr := B.returns
  have hts := atoms_spec (ws := wsX10_street) B.pre
  have hown : s.vm.findClass RX10 = some m.cls := findClass_of_methodNamed B.named
  have hlocks := B.notSynchronized
  have hC : Cx D cA p s m _ meth c cX10_street 3 RX10 wsX10_street (some .int) := ⟨hx, hb, hml, hown, hts, hK, hr, hlocks⟩
  have hS : va_S (Ab b0) s.heap s.heap [] := va_S.rf
  have hl := lv_entry ([.ref (b0 + a0), .int x1, .int x2]) (n := 3) (Nat.le_of_ble_eq_true rfl)
  rw [lg_entry_eq]
  generalize (lg_sl ([.ref (b0 + a0), .int x1, .int x2]) ++ List.replicate (3 - (lg_sl ([.ref (b0 + a0), .int x1, .int x2])).length) Slot.unset).toArray = ls at hl ⊢
  have hl : lv_has ls 3 [(0, .ref (b0 + a0)), (1, .int x1), (2, .int x2)] := hl
  unfold fX10_street at hE
  obtain ⟨_, _, hE⟩ := Option.bind_eq_some_iff.mp hE
  refine lv_aload_n hx hb dX10_street_0 rfl (lv_at hl 0 rfl) ?_
  refine lv_iload_n hx hb dX10_street_1 rfl (lv_at hl 1 rfl) ?_
  obtain ⟨z1, hz1, hE⟩ := Option.bind_eq_some_iff.mp hE
  refine r_callI (va_runV (As := [.int x1]) (rest := []) ⟨hx, hb, hml, hown, hts⟩ (sX10_isStreet l b0 D cA hz1) (cwV 1 hts gX10_street_X10_isStreet rfl rfl rfl (by decide +kernel) (rm_ok (by decide) (by decide))) (pre_V (ci := 9) hK hH (oX10_isStreet hz1) rfl) rfl rfl hl.1 rfl (lv_room (Nat.le_of_ble_eq_true rfl)) dX10_street_2 ⟨Nat.zero_le _, Nat.zero_le _⟩) hS (fun H locs hH hS => ?_)
  refine lv_if_ne (tgt := 10) hx hb dX10_street_5 (by decide) (fun c2 => ?_) (fun c2 => ?_)
  · rw [if_neg c2] at hE
    refine lv_iload_n hx hb dX10_street_10 rfl (lv_at hl 2 rfl) ?_
    by_cases c3 : x2 = 0
    · rw [if_pos c3] at hE
      refine lv_tableIn (tgt := 52) (off := 41) hx hb dX10_street_11 (by rw [c3]; decide) (by rw [c3]; decide) (by rw [c3]; rfl) (by decide) ?_
      refine lv_aload_n hx hb dX10_street_52 rfl (lv_at hl 0 rfl) ?_
      obtain ⟨v4, hv4, hE⟩ := Option.bind_eq_some_iff.mp hE
      refine r_gR 4 (C := RX10) (T := TX10) (N := 26) (ci := 9) hx hb hts (by decide +kernel) hown hK hH hv4 rfl (by decide) (hts (.fieldLink RX10 20 "KindStreetsModel" "from" "[I") (by decide +kernel)) (fun _ h9 => h9) dX10_street_53 ?_
      refine lv_iload_n hx hb dX10_street_56 rfl (lv_at hl 1 rfl) ?_
      obtain ⟨v5, hv5, hE⟩ := Option.bind_eq_some_iff.mp hE
      refine r_iald hx hb hK hH hv5 dX10_street_57 ?_
      have hZ := Option.some.inj hE
      subst hZ
      exact W.iret (v := v5) hx hb hr (fun t ht hW => ⟨rfl, by rw [ht]; exact hH, hS.F ht⟩) hS.2.2 dX10_street_58
    rw [if_neg c3] at hE
    by_cases c6 : x2 = 1
    · rw [if_pos c6] at hE
      refine lv_tableIn (tgt := 59) (off := 48) hx hb dX10_street_11 (by rw [c6]; decide) (by rw [c6]; decide) (by rw [c6]; rfl) (by decide) ?_
      refine lv_aload_n hx hb dX10_street_59 rfl (lv_at hl 0 rfl) ?_
      obtain ⟨v7, hv7, hE⟩ := Option.bind_eq_some_iff.mp hE
      refine r_gR 5 (C := RX10) (T := TX10) (N := 26) (ci := 9) hx hb hts (by decide +kernel) hown hK hH hv7 rfl (by decide) (hts (.fieldLink RX10 23 "KindStreetsModel" "to" "[I") (by decide +kernel)) (fun _ h9 => h9) dX10_street_60 ?_
      refine lv_iload_n hx hb dX10_street_63 rfl (lv_at hl 1 rfl) ?_
      obtain ⟨v8, hv8, hE⟩ := Option.bind_eq_some_iff.mp hE
      refine r_iald hx hb hK hH hv8 dX10_street_64 ?_
      have hZ := Option.some.inj hE
      subst hZ
      exact W.iret (v := v8) hx hb hr (fun t ht hW => ⟨rfl, by rw [ht]; exact hH, hS.F ht⟩) hS.2.2 dX10_street_65
    rw [if_neg c6] at hE
    by_cases c9 : x2 = 2
    · rw [if_pos c9] at hE
      refine lv_tableIn (tgt := 66) (off := 55) hx hb dX10_street_11 (by rw [c9]; decide) (by rw [c9]; decide) (by rw [c9]; rfl) (by decide) ?_
      refine lv_aload_n hx hb dX10_street_66 rfl (lv_at hl 0 rfl) ?_
      obtain ⟨v10, hv10, hE⟩ := Option.bind_eq_some_iff.mp hE
      refine r_gR 16 (C := RX10) (T := TX10) (N := 26) (ci := 9) hx hb hts (by decide +kernel) hown hK hH hv10 rfl (by decide) (hts (.fieldLink RX10 38 "KindStreetsModel" "now" "[I") (by decide +kernel)) (fun _ h9 => h9) dX10_street_67 ?_
      refine lv_iconst (v := 1) hx hb dX10_street_70 (by decide) ?_
      refine lv_iload_n hx hb dX10_street_71 rfl (lv_at hl 1 rfl) ?_
      refine lv_iadd hx hb dX10_street_72 ?_
      obtain ⟨v11, hv11, hE⟩ := Option.bind_eq_some_iff.mp hE
      refine r_iald hx hb hK hH hv11 dX10_street_73 ?_
      have hZ := Option.some.inj hE
      subst hZ
      exact W.iret (v := v11) hx hb hr (fun t ht hW => ⟨rfl, by rw [ht]; exact hH, hS.F ht⟩) hS.2.2 dX10_street_74
    rw [if_neg c9] at hE
    by_cases c12 : x2 = 3
    · rw [if_pos c12] at hE
      refine lv_tableIn (tgt := 75) (off := 64) hx hb dX10_street_11 (by rw [c12]; decide) (by rw [c12]; decide) (by rw [c12]; rfl) (by decide) ?_
      refine lv_aload_n hx hb dX10_street_75 rfl (lv_at hl 0 rfl) ?_
      obtain ⟨v13, hv13, hE⟩ := Option.bind_eq_some_iff.mp hE
      refine r_gR 16 (C := RX10) (T := TX10) (N := 26) (ci := 9) hx hb hts (by decide +kernel) hown hK hH hv13 rfl (by decide) (hts (.fieldLink RX10 38 "KindStreetsModel" "now" "[I") (by decide +kernel)) (fun _ h9 => h9) dX10_street_76 ?_
      refine lv_bipush (v := 10) hx hb dX10_street_79 (by decide) ?_
      refine lv_iload_n hx hb dX10_street_81 rfl (lv_at hl 1 rfl) ?_
      refine lv_iadd hx hb dX10_street_82 ?_
      obtain ⟨v14, hv14, hE⟩ := Option.bind_eq_some_iff.mp hE
      refine r_iald hx hb hK hH hv14 dX10_street_83 ?_
      have hZ := Option.some.inj hE
      subst hZ
      exact W.iret (v := v14) hx hb hr (fun t ht hW => ⟨rfl, by rw [ht]; exact hH, hS.F ht⟩) hS.2.2 dX10_street_84
    rw [if_neg c12] at hE
    by_cases c15 : x2 = 4
    · rw [if_pos c15] at hE
      refine lv_tableIn (tgt := 85) (off := 74) hx hb dX10_street_11 (by rw [c15]; decide) (by rw [c15]; decide) (by rw [c15]; rfl) (by decide) ?_
      refine lv_aload_n hx hb dX10_street_85 rfl (lv_at hl 0 rfl) ?_
      obtain ⟨v16, hv16, hE⟩ := Option.bind_eq_some_iff.mp hE
      refine r_gR 16 (C := RX10) (T := TX10) (N := 26) (ci := 9) hx hb hts (by decide +kernel) hown hK hH hv16 rfl (by decide) (hts (.fieldLink RX10 38 "KindStreetsModel" "now" "[I") (by decide +kernel)) (fun _ h9 => h9) dX10_street_86 ?_
      refine lv_bipush (v := 19) hx hb dX10_street_89 (by decide) ?_
      refine lv_iload_n hx hb dX10_street_91 rfl (lv_at hl 1 rfl) ?_
      refine lv_iadd hx hb dX10_street_92 ?_
      obtain ⟨v17, hv17, hE⟩ := Option.bind_eq_some_iff.mp hE
      refine r_iald hx hb hK hH hv17 dX10_street_93 ?_
      have hZ := Option.some.inj hE
      subst hZ
      exact W.iret (v := v17) hx hb hr (fun t ht hW => ⟨rfl, by rw [ht]; exact hH, hS.F ht⟩) hS.2.2 dX10_street_94
    rw [if_neg c15] at hE
    by_cases c18 : x2 = 5
    · rw [if_pos c18] at hE
      refine lv_tableIn (tgt := 95) (off := 84) hx hb dX10_street_11 (by rw [c18]; decide) (by rw [c18]; decide) (by rw [c18]; rfl) (by decide) ?_
      refine lv_aload_n hx hb dX10_street_95 rfl (lv_at hl 0 rfl) ?_
      refine lv_iload_n hx hb dX10_street_96 rfl (lv_at hl 1 rfl) ?_
      obtain ⟨z19, hz19, hE⟩ := Option.bind_eq_some_iff.mp hE
      refine r_callI (va_runV (As := [.int x1]) (rest := []) ⟨hx, hb, hml, hown, hts⟩ (sX10_widthOf l b0 D cA hz19) (cwV 1 hts gX10_street_X10_widthOf rfl rfl rfl (by decide +kernel) (rm_ok (by decide) (by decide))) (pre_V (ci := 9) hK hH (oX10_widthOf hz19) rfl) rfl rfl hl.1 rfl (lv_room (Nat.le_of_ble_eq_true rfl)) dX10_street_97 ⟨Nat.zero_le _, Nat.zero_le _⟩) hS (fun H locs hH hS => ?_)
      have hZ := Option.some.inj hE
      subst hZ
      exact W.iret (v := z19.1) hx hb hr (fun t ht hW => ⟨rfl, by rw [ht]; exact hH, hS.F ht⟩) hS.2.2 dX10_street_100
    rw [if_neg c18] at hE
    by_cases c20 : x2 = 6
    · rw [if_pos c20] at hE
      refine lv_tableIn (tgt := 101) (off := 90) hx hb dX10_street_11 (by rw [c20]; decide) (by rw [c20]; decide) (by rw [c20]; rfl) (by decide) ?_
      refine lv_aload_n hx hb dX10_street_101 rfl (lv_at hl 0 rfl) ?_
      refine lv_iload_n hx hb dX10_street_102 rfl (lv_at hl 1 rfl) ?_
      obtain ⟨z21, hz21, hE⟩ := Option.bind_eq_some_iff.mp hE
      refine r_callI (va_runV (As := [.int x1]) (rest := []) ⟨hx, hb, hml, hown, hts⟩ (sX10_livingIn l b0 D cA hz21) (cwV 1 hts gX10_street_X10_livingIn rfl rfl rfl (by decide +kernel) (rm_ok (by decide) (by decide))) (pre_V (ci := 9) hK hH (oX10_livingIn hz21) rfl) rfl rfl hl.1 rfl (lv_room (Nat.le_of_ble_eq_true rfl)) dX10_street_103 ⟨Nat.zero_le _, Nat.zero_le _⟩) hS (fun H locs hH hS => ?_)
      have hZ := Option.some.inj hE
      subst hZ
      exact W.iret (v := z21.1) hx hb hr (fun t ht hW => ⟨rfl, by rw [ht]; exact hH, hS.F ht⟩) hS.2.2 dX10_street_106
    rw [if_neg c20] at hE
    refine lv_tableOut (tgt := 107) hx hb dX10_street_11 (by have q0 := sw_ne (k := 0) (by decide) c3; have q1 := sw_ne (k := 1) (by decide) c6; have q2 := sw_ne (k := 2) (by decide) c9; have q3 := sw_ne (k := 3) (by decide) c12; have q4 := sw_ne (k := 4) (by decide) c15; have q5 := sw_ne (k := 5) (by decide) c18; have q6 := sw_ne (k := 6) (by decide) c20; omega) (by decide) ?_
    refine lv_iconst (v := (-1)) hx hb dX10_street_107 (by decide) ?_
    have hZ := Option.some.inj hE
    subst hZ
    exact W.iret (v := (-1)) hx hb hr (fun t ht hW => ⟨rfl, by rw [ht]; exact hH, hS.F ht⟩) hS.2.2 dX10_street_108
  · rw [if_pos c2] at hE
    refine lv_iconst (v := (-1)) hx hb dX10_street_8 (by decide) ?_
    have hZ := Option.some.inj hE
    subst hZ
    exact W.iret (v := (-1)) hx hb hr (fun t ht hW => ⟨rfl, by rw [ht]; exact hH, hS.F ht⟩) hS.2.2 dX10_street_9
-- X10_citizen
def fX10_citizen (F : Nat) (L : HL) (a0 : Nat) (x1 : Int32) (x2 : Int32) : Option (Int32 × HL) := (o_ob L a0 9).bind fun _ => (fX10_isPerson F L a0 x1).bind fun z1 => if z1.1 = 0 then (some ((-1), z1.2)) else (if x2 = 0 then ((o_gR z1.2 a0 9 16).bind fun v4 => (o_aI z1.2 v4 0 (28 + x1)).bind fun v5 => some (v5, z1.2)) else if x2 = 1 then ((o_gR z1.2 a0 9 9).bind fun v7 => (o_aI z1.2 v7 0 x1).bind fun v8 => some (v8, z1.2)) else if x2 = 2 then ((fX10_witnesses F z1.2 a0 x1).bind fun z10 => some (z10.1, z10.2)) else some ((-1), z1.2))
theorem oX10_citizen {F : Nat} {L : HL} {a0 : Nat} {x1 : Int32} {x2 : Int32} {z : (Int32 × HL)} (hE : fX10_citizen F L a0 x1 x2 = some z) : o_ob L a0 9 = some () := by
  obtain ⟨_, h, _⟩ := Option.bind_eq_some_iff.mp hE
  exact h
set_option maxHeartbeats 4000000 in
set_option maxRecDepth 100000 in
theorem sX10_citizen (l : Launch) (b0 : Nat) (D : va_G) (cA : Nat → ClassId) {F : Nat} {L : HL} {a0 : Nat} {x1 : Int32} {x2 : Int32} {z : (Int32 × HL)} (hE : fX10_citizen F L a0 x1 x2 = some z) : Met l yX10_citizen wsX10_citizen (RM 2 0 0) (Pk b0 D cA [.ref (b0 + a0), .int x1, .int x2] L) (Qk b0 D cA (some (.int z.1)) z.2) 0 0 (Ab b0) := by
  refine Met.ofW (cc := cX10_citizen) (maxL := 3) (ret := (some .int)) (by decide) rfl ?_
  intro p ev s m args below meth c s₁ B hml hv
  obtain ⟨rfl, hH, hK⟩ := hv
  have hx := B.exec
  have hb := B.bytes
  have hr := B.returns
  have hts := atoms_spec (ws := wsX10_citizen) B.pre
  have hown : s.vm.findClass RX10 = some m.cls := findClass_of_methodNamed B.named
  have hlocks := B.notSynchronized
  have hC : Cx D cA p s m _ meth c cX10_citizen 3 RX10 wsX10_citizen (some .int) := ⟨hx, hb, hml, hown, hts, hK, hr, hlocks⟩
  have hS : va_S (Ab b0) s.heap s.heap [] := va_S.rf
  have hl := lv_entry ([.ref (b0 + a0), .int x1, .int x2]) (n := 3) (Nat.le_of_ble_eq_true rfl)
  rw [lg_entry_eq]
  generalize (lg_sl ([.ref (b0 + a0), .int x1, .int x2]) ++ List.replicate (3 - (lg_sl ([.ref (b0 + a0), .int x1, .int x2])).length) Slot.unset).toArray = ls at hl ⊢
  have hl : lv_has ls 3 [(0, .ref (b0 + a0)), (1, .int x1), (2, .int x2)] := hl
  unfold fX10_citizen at hE
  obtain ⟨_, _, hE⟩ := Option.bind_eq_some_iff.mp hE
  refine lv_aload_n hx hb dX10_citizen_0 rfl (lv_at hl 0 rfl) ?_
  refine lv_iload_n hx hb dX10_citizen_1 rfl (lv_at hl 1 rfl) ?_
  obtain ⟨z1, hz1, hE⟩ := Option.bind_eq_some_iff.mp hE
  refine r_callI (va_runV (As := [.int x1]) (rest := []) ⟨hx, hb, hml, hown, hts⟩ (sX10_isPerson l b0 D cA hz1) (cwV 1 hts gX10_citizen_X10_isPerson rfl rfl rfl (by decide +kernel) (rm_ok (by decide) (by decide))) (pre_V (ci := 9) hK hH (oX10_isPerson hz1) rfl) rfl rfl hl.1 rfl (lv_room (Nat.le_of_ble_eq_true rfl)) dX10_citizen_2 ⟨Nat.zero_le _, Nat.zero_le _⟩) hS (fun H locs hH hS => ?_)
  refine lv_if_ne (tgt := 10) hx hb dX10_citizen_5 (by decide) (fun c2 => ?_) (fun c2 => ?_)
  · rw [if_neg c2] at hE
    refine lv_iload_n hx hb dX10_citizen_10 rfl (lv_at hl 2 rfl) ?_
    by_cases c3 : x2 = 0
    · rw [if_pos c3] at hE
      refine lv_tableIn (tgt := 36) (off := 25) hx hb dX10_citizen_11 (by rw [c3]; decide) (by rw [c3]; decide) (by rw [c3]; rfl) (by decide) ?_
      refine lv_aload_n hx hb dX10_citizen_36 rfl (lv_at hl 0 rfl) ?_
      obtain ⟨v4, hv4, hE⟩ := Option.bind_eq_some_iff.mp hE
      refine r_gR 16 (C := RX10) (T := TX10) (N := 26) (ci := 9) hx hb hts (by decide +kernel) hown hK hH hv4 rfl (by decide) (hts (.fieldLink RX10 38 "KindStreetsModel" "now" "[I") (by decide +kernel)) (fun _ h9 => h9) dX10_citizen_37 ?_
      refine lv_bipush (v := 28) hx hb dX10_citizen_40 (by decide) ?_
      refine lv_iload_n hx hb dX10_citizen_42 rfl (lv_at hl 1 rfl) ?_
      refine lv_iadd hx hb dX10_citizen_43 ?_
      obtain ⟨v5, hv5, hE⟩ := Option.bind_eq_some_iff.mp hE
      refine r_iald hx hb hK hH hv5 dX10_citizen_44 ?_
      have hZ := Option.some.inj hE
      subst hZ
      exact W.iret (v := v5) hx hb hr (fun t ht hW => ⟨rfl, by rw [ht]; exact hH, hS.F ht⟩) hS.2.2 dX10_citizen_45
    rw [if_neg c3] at hE
    by_cases c6 : x2 = 1
    · rw [if_pos c6] at hE
      refine lv_tableIn (tgt := 46) (off := 35) hx hb dX10_citizen_11 (by rw [c6]; decide) (by rw [c6]; decide) (by rw [c6]; rfl) (by decide) ?_
      refine lv_aload_n hx hb dX10_citizen_46 rfl (lv_at hl 0 rfl) ?_
      obtain ⟨v7, hv7, hE⟩ := Option.bind_eq_some_iff.mp hE
      refine r_gR 9 (C := RX10) (T := TX10) (N := 26) (ci := 9) hx hb hts (by decide +kernel) hown hK hH hv7 rfl (by decide) (hts (.fieldLink RX10 35 "KindStreetsModel" "wants" "[I") (by decide +kernel)) (fun _ h9 => h9) dX10_citizen_47 ?_
      refine lv_iload_n hx hb dX10_citizen_50 rfl (lv_at hl 1 rfl) ?_
      obtain ⟨v8, hv8, hE⟩ := Option.bind_eq_some_iff.mp hE
      refine r_iald hx hb hK hH hv8 dX10_citizen_51 ?_
      have hZ := Option.some.inj hE
      subst hZ
      exact W.iret (v := v8) hx hb hr (fun t ht hW => ⟨rfl, by rw [ht]; exact hH, hS.F ht⟩) hS.2.2 dX10_citizen_52
    rw [if_neg c6] at hE
    by_cases c9 : x2 = 2
    · rw [if_pos c9] at hE
      refine lv_tableIn (tgt := 53) (off := 42) hx hb dX10_citizen_11 (by rw [c9]; decide) (by rw [c9]; decide) (by rw [c9]; rfl) (by decide) ?_
      refine lv_aload_n hx hb dX10_citizen_53 rfl (lv_at hl 0 rfl) ?_
      refine lv_iload_n hx hb dX10_citizen_54 rfl (lv_at hl 1 rfl) ?_
      obtain ⟨z10, hz10, hE⟩ := Option.bind_eq_some_iff.mp hE
      refine r_callI (va_runV (As := [.int x1]) (rest := []) ⟨hx, hb, hml, hown, hts⟩ (sX10_witnesses l b0 D cA hz10) (cwV 1 hts gX10_citizen_X10_witnesses rfl rfl rfl (by decide +kernel) (rm_ok (by decide) (by decide))) (pre_V (ci := 9) hK hH (oX10_witnesses hz10) rfl) rfl rfl hl.1 rfl (lv_room (Nat.le_of_ble_eq_true rfl)) dX10_citizen_55 ⟨Nat.zero_le _, Nat.zero_le _⟩) hS (fun H locs hH hS => ?_)
      have hZ := Option.some.inj hE
      subst hZ
      exact W.iret (v := z10.1) hx hb hr (fun t ht hW => ⟨rfl, by rw [ht]; exact hH, hS.F ht⟩) hS.2.2 dX10_citizen_58
    rw [if_neg c9] at hE
    refine lv_tableOut (tgt := 59) hx hb dX10_citizen_11 (by have q0 := sw_ne (k := 0) (by decide) c3; have q1 := sw_ne (k := 1) (by decide) c6; have q2 := sw_ne (k := 2) (by decide) c9; omega) (by decide) ?_
    refine lv_iconst (v := (-1)) hx hb dX10_citizen_59 (by decide) ?_
    have hZ := Option.some.inj hE
    subst hZ
    exact W.iret (v := (-1)) hx hb hr (fun t ht hW => ⟨rfl, by rw [ht]; exact hH, hS.F ht⟩) hS.2.2 dX10_citizen_60
  · rw [if_pos c2] at hE
    refine lv_iconst (v := (-1)) hx hb dX10_citizen_8 (by decide) ?_
    have hZ := Option.some.inj hE
    subst hZ
    exact W.iret (v := (-1)) hx hb hr (fun t ht hW => ⟨rfl, by rw [ht]; exact hH, hS.F ht⟩) hS.2.2 dX10_citizen_9
-- X10_know
def fX10_know_b53c (F : Nat) (k53 : Nat → Int32 → HL → Option HL) (a0 : Nat) (x1 : Int32) (L : HL) : Option HL := if 34 ≤ x1 then ((o_gR L a0 9 17).bind fun v5 => (o_aI L v5 0 0).bind fun v6 => (o_sI L v5 0 0 (v6 + 1)).bind fun L7 => some L7) else ((o_gR L a0 9 18).bind fun v8 => (o_gR L a0 9 17).bind fun v9 => (o_aI L v9 0 0).bind fun v10 => (o_gR L a0 9 16).bind fun v11 => (o_aI L v11 0 x1).bind fun v12 => (o_sI L v8 0 ((34 * v10) + x1) v12).bind fun L13 => k53 a0 (x1 + 1) L13)
def fX10_know_b53 (F : Nat) : Nat → Nat → Int32 → HL → Option HL
  | 0 => fun _ _ _ => none
  | n + 1 => fun a0 x1 L => fX10_know_b53c F (fX10_know_b53 F n) a0 x1 L
set_option maxHeartbeats 4000000 in
set_option maxRecDepth 100000 in
theorem sX10_know_b53c {b0 : Nat} {D : va_G} {cA : Nat → ClassId} {p : Program} {l : Launch} {ev : Env} {s : State} {m : MethodId} {args : Array Value} {below : List Frame} {meth : Method} {c : Code} {F : Nat} {z : HL} {k53 : Nat → Int32 → HL → Option HL} {a0 : Nat} {x1 : Int32} {L : HL} (hC : Cx D cA p s m args meth c cX10_know 2 RX10 wsX10_know none) (hk53 : ∀ (a0' : Nat) (x1' : Int32) (L' : HL), k53 a0' x1' L' = some z → WB b0 D cA p l ev (RM 0 0 0) s m args below meth c 2 0 0 (MQ below (Qk b0 D cA none z) args s 0 0 (Ab b0)) 53 [(0, .ref (b0 + a0')), (1, .int x1')] [] L') (hE : fX10_know_b53c F k53 a0 x1 L = some z) : WB b0 D cA p l ev (RM 0 0 0) s m args below meth c 2 0 0 (MQ below (Qk b0 D cA none z) args s 0 0 (Ab b0)) 53 [(0, .ref (b0 + a0)), (1, .int x1)] [] L := by
  obtain ⟨hx, hb, hml, hown, hts, hK, hr, hlocks⟩ := id hC
  intro H locs ls hH hS hl
  unfold fX10_know_b53c at hE
  refine lv_iload_n hx hb dX10_know_53 rfl (lv_at hl 1 rfl) ?_
  refine lv_bipush (v := 34) hx hb dX10_know_54 (by decide) ?_
  refine lv_icmp_ge (tgt := 87) hx hb dX10_know_56 (by decide) (fun c4 => ?_) (fun c4 => ?_)
  · rw [if_pos c4] at hE
    refine lv_aload_n hx hb dX10_know_87 rfl (lv_at hl 0 rfl) ?_
    obtain ⟨v5, hv5, hE⟩ := Option.bind_eq_some_iff.mp hE
    refine r_gR 17 (C := RX10) (T := TX10) (N := 26) (ci := 9) hx hb hts (by decide +kernel) hown hK hH hv5 rfl (by decide) (hts (.fieldLink RX10 41 "KindStreetsModel" "known" "[I") (by decide +kernel)) (fun _ h9 => h9) dX10_know_88 ?_
    refine lv_iconst (v := 0) hx hb dX10_know_91 (by decide) ?_
    refine lv_dup2_11 hx hb dX10_know_92 rfl rfl ?_
    obtain ⟨v6, hv6, hE⟩ := Option.bind_eq_some_iff.mp hE
    refine r_iald hx hb hK hH hv6 dX10_know_93 ?_
    refine lv_iconst (v := 1) hx hb dX10_know_94 (by decide) ?_
    refine lv_iadd hx hb dX10_know_95 ?_
    obtain ⟨L7, hL7, hE⟩ := Option.bind_eq_some_iff.mp hE
    refine r_iast hx hb hK hH hS hL7 dX10_know_96 (fun H locs hH hS => ?_)
    have hZ := Option.some.inj hE
    subst hZ
    exact W.vret hx hb hr (fun t ht hW => ⟨rfl, by rw [ht]; exact hH, hS.F ht⟩) hS.2.2 dX10_know_97
  · rw [if_neg c4] at hE
    refine lv_aload_n hx hb dX10_know_59 rfl (lv_at hl 0 rfl) ?_
    obtain ⟨v8, hv8, hE⟩ := Option.bind_eq_some_iff.mp hE
    refine r_gR 18 (C := RX10) (T := TX10) (N := 26) (ci := 9) hx hb hts (by decide +kernel) hown hK hH hv8 rfl (by decide) (hts (.fieldLink RX10 44 "KindStreetsModel" "before" "[I") (by decide +kernel)) (fun _ h9 => h9) dX10_know_60 ?_
    refine lv_bipush (v := 34) hx hb dX10_know_63 (by decide) ?_
    refine lv_aload_n hx hb dX10_know_65 rfl (lv_at hl 0 rfl) ?_
    obtain ⟨v9, hv9, hE⟩ := Option.bind_eq_some_iff.mp hE
    refine r_gR 17 (C := RX10) (T := TX10) (N := 26) (ci := 9) hx hb hts (by decide +kernel) hown hK hH hv9 rfl (by decide) (hts (.fieldLink RX10 41 "KindStreetsModel" "known" "[I") (by decide +kernel)) (fun _ h9 => h9) dX10_know_66 ?_
    refine lv_iconst (v := 0) hx hb dX10_know_69 (by decide) ?_
    obtain ⟨v10, hv10, hE⟩ := Option.bind_eq_some_iff.mp hE
    refine r_iald hx hb hK hH hv10 dX10_know_70 ?_
    refine lv_imul hx hb dX10_know_71 ?_
    refine lv_iload_n hx hb dX10_know_72 rfl (lv_at hl 1 rfl) ?_
    refine lv_iadd hx hb dX10_know_73 ?_
    refine lv_aload_n hx hb dX10_know_74 rfl (lv_at hl 0 rfl) ?_
    obtain ⟨v11, hv11, hE⟩ := Option.bind_eq_some_iff.mp hE
    refine r_gR 16 (C := RX10) (T := TX10) (N := 26) (ci := 9) hx hb hts (by decide +kernel) hown hK hH hv11 rfl (by decide) (hts (.fieldLink RX10 38 "KindStreetsModel" "now" "[I") (by decide +kernel)) (fun _ h9 => h9) dX10_know_75 ?_
    refine lv_iload_n hx hb dX10_know_78 rfl (lv_at hl 1 rfl) ?_
    obtain ⟨v12, hv12, hE⟩ := Option.bind_eq_some_iff.mp hE
    refine r_iald hx hb hK hH hv12 dX10_know_79 ?_
    obtain ⟨L13, hL13, hE⟩ := Option.bind_eq_some_iff.mp hE
    refine r_iast hx hb hK hH hS hL13 dX10_know_80 (fun H locs hH hS => ?_)
    refine lv_iinc (v := (x1 + 1)) (lv' := [(1, .int (x1 + 1)), (0, .ref (b0 + a0))]) hx hb dX10_know_81 hl (k := 1) rfl rfl (by decide) rfl (fun ls hl => ?_)
    refine lv_goto (tgt := 53) hx hb dX10_know_84 (by decide) ?_
    exact hk53 _ _ _ hE _ _ _ hH hS (lv_sub hl [1, 0] rfl)
theorem sX10_know_b53 {b0 : Nat} {D : va_G} {cA : Nat → ClassId} {p : Program} {l : Launch} {ev : Env} {s : State} {m : MethodId} {args : Array Value} {below : List Frame} {meth : Method} {c : Code} {F : Nat} {z : HL} (hC : Cx D cA p s m args meth c cX10_know 2 RX10 wsX10_know none) : ∀ (n : Nat) (a0 : Nat) (x1 : Int32) (L : HL), fX10_know_b53 F n a0 x1 L = some z → WB b0 D cA p l ev (RM 0 0 0) s m args below meth c 2 0 0 (MQ below (Qk b0 D cA none z) args s 0 0 (Ab b0)) 53 [(0, .ref (b0 + a0)), (1, .int x1)] [] L := by
  intro n
  induction n with
  | zero => intro a0 x1 L hE; cases hE
  | succ n ih => intro a0 x1 L hE; exact sX10_know_b53c (F := F) hC ih hE
def fX10_know_b51 (F : Nat) (a0 : Nat) (L : HL) : Option HL := fX10_know_b53 F F a0 0 L
set_option maxHeartbeats 4000000 in
set_option maxRecDepth 100000 in
theorem sX10_know_b51 {b0 : Nat} {D : va_G} {cA : Nat → ClassId} {p : Program} {l : Launch} {ev : Env} {s : State} {m : MethodId} {args : Array Value} {below : List Frame} {meth : Method} {c : Code} {F : Nat} {z : HL} {a0 : Nat} {L : HL} (hC : Cx D cA p s m args meth c cX10_know 2 RX10 wsX10_know none) (hE : fX10_know_b51 F a0 L = some z) : WB b0 D cA p l ev (RM 0 0 0) s m args below meth c 2 0 0 (MQ below (Qk b0 D cA none z) args s 0 0 (Ab b0)) 51 [(0, .ref (b0 + a0))] [] L := by
  obtain ⟨hx, hb, hml, hown, hts, hK, hr, hlocks⟩ := id hC
  intro H locs ls hH hS hl
  unfold fX10_know_b51 at hE
  refine lv_iconst (v := 0) hx hb dX10_know_51 (by decide) ?_
  refine lv_istore_n (lv' := [(1, .int 0), (0, .ref (b0 + a0))]) hx hb dX10_know_52 rfl hl (by decide) rfl (fun ls hl => ?_)
  exact sX10_know_b53 (F := F) hC F _ _ _ hE _ _ _ hH hS (lv_sub hl [1, 0] rfl)
def fX10_know_b13c (F : Nat) (k13 : Nat → Int32 → HL → Option HL) (a0 : Nat) (x1 : Int32) (L : HL) : Option HL := if 306 ≤ x1 then ((o_gR L a0 9 17).bind fun v15 => (o_aI L v15 0 0).bind fun v16 => (o_sI L v15 0 0 (v16 - 1)).bind fun L17 => fX10_know_b51 F a0 L17) else ((o_gR L a0 9 18).bind fun v18 => (o_gR L a0 9 18).bind fun v19 => (o_aI L v19 0 (34 + x1)).bind fun v20 => (o_sI L v18 0 x1 v20).bind fun L21 => k13 a0 (x1 + 1) L21)
def fX10_know_b13 (F : Nat) : Nat → Nat → Int32 → HL → Option HL
  | 0 => fun _ _ _ => none
  | n + 1 => fun a0 x1 L => fX10_know_b13c F (fX10_know_b13 F n) a0 x1 L
set_option maxHeartbeats 4000000 in
set_option maxRecDepth 100000 in
theorem sX10_know_b13c {b0 : Nat} {D : va_G} {cA : Nat → ClassId} {p : Program} {l : Launch} {ev : Env} {s : State} {m : MethodId} {args : Array Value} {below : List Frame} {meth : Method} {c : Code} {F : Nat} {z : HL} {k13 : Nat → Int32 → HL → Option HL} {a0 : Nat} {x1 : Int32} {L : HL} (hC : Cx D cA p s m args meth c cX10_know 2 RX10 wsX10_know none) (hk13 : ∀ (a0' : Nat) (x1' : Int32) (L' : HL), k13 a0' x1' L' = some z → WB b0 D cA p l ev (RM 0 0 0) s m args below meth c 2 0 0 (MQ below (Qk b0 D cA none z) args s 0 0 (Ab b0)) 13 [(0, .ref (b0 + a0')), (1, .int x1')] [] L') (hE : fX10_know_b13c F k13 a0 x1 L = some z) : WB b0 D cA p l ev (RM 0 0 0) s m args below meth c 2 0 0 (MQ below (Qk b0 D cA none z) args s 0 0 (Ab b0)) 13 [(0, .ref (b0 + a0)), (1, .int x1)] [] L := by
  obtain ⟨hx, hb, hml, hown, hts, hK, hr, hlocks⟩ := id hC
  intro H locs ls hH hS hl
  unfold fX10_know_b13c at hE
  refine lv_iload_n hx hb dX10_know_13 rfl (lv_at hl 1 rfl) ?_
  refine lv_sipush (v := 306) hx hb dX10_know_14 (by decide) ?_
  refine lv_icmp_ge (tgt := 41) hx hb dX10_know_17 (by decide) (fun c14 => ?_) (fun c14 => ?_)
  · rw [if_pos c14] at hE
    refine lv_aload_n hx hb dX10_know_41 rfl (lv_at hl 0 rfl) ?_
    obtain ⟨v15, hv15, hE⟩ := Option.bind_eq_some_iff.mp hE
    refine r_gR 17 (C := RX10) (T := TX10) (N := 26) (ci := 9) hx hb hts (by decide +kernel) hown hK hH hv15 rfl (by decide) (hts (.fieldLink RX10 41 "KindStreetsModel" "known" "[I") (by decide +kernel)) (fun _ h9 => h9) dX10_know_42 ?_
    refine lv_iconst (v := 0) hx hb dX10_know_45 (by decide) ?_
    refine lv_dup2_11 hx hb dX10_know_46 rfl rfl ?_
    obtain ⟨v16, hv16, hE⟩ := Option.bind_eq_some_iff.mp hE
    refine r_iald hx hb hK hH hv16 dX10_know_47 ?_
    refine lv_iconst (v := 1) hx hb dX10_know_48 (by decide) ?_
    refine lv_isub hx hb dX10_know_49 ?_
    obtain ⟨L17, hL17, hE⟩ := Option.bind_eq_some_iff.mp hE
    refine r_iast hx hb hK hH hS hL17 dX10_know_50 (fun H locs hH hS => ?_)
    exact sX10_know_b51 (F := F) hC hE _ _ _ hH hS (lv_sub hl [0] rfl)
  · rw [if_neg c14] at hE
    refine lv_aload_n hx hb dX10_know_20 rfl (lv_at hl 0 rfl) ?_
    obtain ⟨v18, hv18, hE⟩ := Option.bind_eq_some_iff.mp hE
    refine r_gR 18 (C := RX10) (T := TX10) (N := 26) (ci := 9) hx hb hts (by decide +kernel) hown hK hH hv18 rfl (by decide) (hts (.fieldLink RX10 44 "KindStreetsModel" "before" "[I") (by decide +kernel)) (fun _ h9 => h9) dX10_know_21 ?_
    refine lv_iload_n hx hb dX10_know_24 rfl (lv_at hl 1 rfl) ?_
    refine lv_aload_n hx hb dX10_know_25 rfl (lv_at hl 0 rfl) ?_
    obtain ⟨v19, hv19, hE⟩ := Option.bind_eq_some_iff.mp hE
    refine r_gR 18 (C := RX10) (T := TX10) (N := 26) (ci := 9) hx hb hts (by decide +kernel) hown hK hH hv19 rfl (by decide) (hts (.fieldLink RX10 44 "KindStreetsModel" "before" "[I") (by decide +kernel)) (fun _ h9 => h9) dX10_know_26 ?_
    refine lv_bipush (v := 34) hx hb dX10_know_29 (by decide) ?_
    refine lv_iload_n hx hb dX10_know_31 rfl (lv_at hl 1 rfl) ?_
    refine lv_iadd hx hb dX10_know_32 ?_
    obtain ⟨v20, hv20, hE⟩ := Option.bind_eq_some_iff.mp hE
    refine r_iald hx hb hK hH hv20 dX10_know_33 ?_
    obtain ⟨L21, hL21, hE⟩ := Option.bind_eq_some_iff.mp hE
    refine r_iast hx hb hK hH hS hL21 dX10_know_34 (fun H locs hH hS => ?_)
    refine lv_iinc (v := (x1 + 1)) (lv' := [(1, .int (x1 + 1)), (0, .ref (b0 + a0))]) hx hb dX10_know_35 hl (k := 1) rfl rfl (by decide) rfl (fun ls hl => ?_)
    refine lv_goto (tgt := 13) hx hb dX10_know_38 (by decide) ?_
    exact hk13 _ _ _ hE _ _ _ hH hS (lv_sub hl [1, 0] rfl)
theorem sX10_know_b13 {b0 : Nat} {D : va_G} {cA : Nat → ClassId} {p : Program} {l : Launch} {ev : Env} {s : State} {m : MethodId} {args : Array Value} {below : List Frame} {meth : Method} {c : Code} {F : Nat} {z : HL} (hC : Cx D cA p s m args meth c cX10_know 2 RX10 wsX10_know none) : ∀ (n : Nat) (a0 : Nat) (x1 : Int32) (L : HL), fX10_know_b13 F n a0 x1 L = some z → WB b0 D cA p l ev (RM 0 0 0) s m args below meth c 2 0 0 (MQ below (Qk b0 D cA none z) args s 0 0 (Ab b0)) 13 [(0, .ref (b0 + a0)), (1, .int x1)] [] L := by
  intro n
  induction n with
  | zero => intro a0 x1 L hE; cases hE
  | succ n ih => intro a0 x1 L hE; exact sX10_know_b13c (F := F) hC ih hE
def fX10_know (F : Nat) (L : HL) (a0 : Nat) : Option HL := (o_ob L a0 9).bind fun _ => (o_gR L a0 9 17).bind fun v1 => (o_aI L v1 0 0).bind fun v2 => if v2 = 10 then (fX10_know_b13 F F a0 0 L) else (fX10_know_b51 F a0 L)
theorem oX10_know {F : Nat} {L : HL} {a0 : Nat} {z : HL} (hE : fX10_know F L a0 = some z) : o_ob L a0 9 = some () := by
  obtain ⟨_, h, _⟩ := Option.bind_eq_some_iff.mp hE
  exact h
set_option maxHeartbeats 4000000 in
set_option maxRecDepth 100000 in
theorem sX10_know (l : Launch) (b0 : Nat) (D : va_G) (cA : Nat → ClassId) {F : Nat} {L : HL} {a0 : Nat} {z : HL} (hE : fX10_know F L a0 = some z) : Met l yX10_know wsX10_know (RM 0 0 0) (Pk b0 D cA [.ref (b0 + a0)] L) (Qk b0 D cA none z) 0 0 (Ab b0) := by
  refine Met.ofW (cc := cX10_know) (maxL := 2) (ret := none) (by decide) rfl ?_
  intro p ev s m args below meth c s₁ B hml hv
  obtain ⟨rfl, hH, hK⟩ := hv
  have hx := B.exec
  have hb := B.bytes
  have hr := B.returns
  have hts := atoms_spec (ws := wsX10_know) B.pre
  have hown : s.vm.findClass RX10 = some m.cls := findClass_of_methodNamed B.named
  have hlocks := B.notSynchronized
  have hC : Cx D cA p s m _ meth c cX10_know 2 RX10 wsX10_know none := ⟨hx, hb, hml, hown, hts, hK, hr, hlocks⟩
  have hS : va_S (Ab b0) s.heap s.heap [] := va_S.rf
  have hl := lv_entry ([.ref (b0 + a0)]) (n := 2) (Nat.le_of_ble_eq_true rfl)
  rw [lg_entry_eq]
  generalize (lg_sl ([.ref (b0 + a0)]) ++ List.replicate (2 - (lg_sl ([.ref (b0 + a0)])).length) Slot.unset).toArray = ls at hl ⊢
  have hl : lv_has ls 2 [(0, .ref (b0 + a0))] := hl
  unfold fX10_know at hE
  obtain ⟨_, _, hE⟩ := Option.bind_eq_some_iff.mp hE
  refine lv_aload_n hx hb dX10_know_0 rfl (lv_at hl 0 rfl) ?_
  obtain ⟨v1, hv1, hE⟩ := Option.bind_eq_some_iff.mp hE
  refine r_gR 17 (C := RX10) (T := TX10) (N := 26) (ci := 9) hx hb hts (by decide +kernel) hown hK hH hv1 rfl (by decide) (hts (.fieldLink RX10 41 "KindStreetsModel" "known" "[I") (by decide +kernel)) (fun _ h9 => h9) dX10_know_1 ?_
  refine lv_iconst (v := 0) hx hb dX10_know_4 (by decide) ?_
  obtain ⟨v2, hv2, hE⟩ := Option.bind_eq_some_iff.mp hE
  refine r_iald hx hb hK hH hv2 dX10_know_5 ?_
  refine lv_bipush (v := 10) hx hb dX10_know_6 (by decide) ?_
  refine lv_icmp_ne (tgt := 51) hx hb dX10_know_8 (by decide) (fun c3 => ?_) (fun c3 => ?_)
  · rw [if_neg c3] at hE
    exact sX10_know_b51 (F := F) hC hE _ _ _ hH hS (lv_sub hl [0] rfl)
  · rw [if_pos c3] at hE
    refine lv_iconst (v := 0) hx hb dX10_know_11 (by decide) ?_
    refine lv_istore_n (lv' := [(1, .int 0), (0, .ref (b0 + a0))]) hx hb dX10_know_12 rfl hl (by decide) rfl (fun ls hl => ?_)
    exact sX10_know_b13 (F := F) hC F _ _ _ hE _ _ _ hH hS (lv_sub hl [1, 0] rfl)
-- X10_does
def fX10_does_b27 (F : Nat)  (L : HL) : Option (Int32 × HL) := some ((-1), L)
set_option maxHeartbeats 4000000 in
set_option maxRecDepth 100000 in
theorem sX10_does_b27 {b0 : Nat} {D : va_G} {cA : Nat → ClassId} {p : Program} {l : Launch} {ev : Env} {s : State} {m : MethodId} {args : Array Value} {below : List Frame} {meth : Method} {c : Code} {F : Nat} {z : (Int32 × HL)}  {L : HL} (hC : Cx D cA p s m args meth c cX10_does 7 RX10 wsX10_does (some .int)) (hE : fX10_does_b27 F  L = some z) : WB b0 D cA p l ev (RM 2 0 0) s m args below meth c 7 0 0 (MQ below (Qk b0 D cA (some (.int z.1)) z.2) args s 0 0 (Ab b0)) 27 [] [] L := by
  obtain ⟨hx, hb, hml, hown, hts, hK, hr, hlocks⟩ := id hC
  intro H locs ls hH hS hl
  unfold fX10_does_b27 at hE
  refine lv_iconst (v := (-1)) hx hb dX10_does_27 (by decide) ?_
  have hZ := Option.some.inj hE
  subst hZ
  exact W.iret (v := (-1)) hx hb hr (fun t ht hW => ⟨rfl, by rw [ht]; exact hH, hS.F ht⟩) hS.2.2 dX10_does_28
def fX10_does_b119 (F : Nat) (a0 : Nat) (x4 : Int32) (L : HL) : Option (Int32 × HL) := (fX10_widthOf F L a0 x4).bind fun z18 => some (z18.1, z18.2)
set_option maxHeartbeats 4000000 in
set_option maxRecDepth 100000 in
theorem sX10_does_b119 {b0 : Nat} {D : va_G} {cA : Nat → ClassId} {p : Program} {l : Launch} {ev : Env} {s : State} {m : MethodId} {args : Array Value} {below : List Frame} {meth : Method} {c : Code} {F : Nat} {z : (Int32 × HL)} {a0 : Nat} {x4 : Int32} {L : HL} (hC : Cx D cA p s m args meth c cX10_does 7 RX10 wsX10_does (some .int)) (hE : fX10_does_b119 F a0 x4 L = some z) : WB b0 D cA p l ev (RM 2 0 0) s m args below meth c 7 0 0 (MQ below (Qk b0 D cA (some (.int z.1)) z.2) args s 0 0 (Ab b0)) 119 [(0, .ref (b0 + a0)), (4, .int x4)] [] L := by
  obtain ⟨hx, hb, hml, hown, hts, hK, hr, hlocks⟩ := id hC
  intro H locs ls hH hS hl
  unfold fX10_does_b119 at hE
  refine lv_aload_n hx hb dX10_does_119 rfl (lv_at hl 0 rfl) ?_
  refine lv_iload hx hb dX10_does_120 (lv_at hl 1 rfl) ?_
  obtain ⟨z18, hz18, hE⟩ := Option.bind_eq_some_iff.mp hE
  refine r_callI (va_runV (As := [.int x4]) (rest := []) ⟨hx, hb, hml, hown, hts⟩ (sX10_widthOf l b0 D cA hz18) (cwV 1 hts gX10_does_X10_widthOf rfl rfl rfl (by decide +kernel) (rm_ok (by decide) (by decide))) (pre_V (ci := 9) hK hH (oX10_widthOf hz18) rfl) rfl rfl hl.1 rfl (lv_room (Nat.le_of_ble_eq_true rfl)) dX10_does_122 ⟨Nat.zero_le _, Nat.zero_le _⟩) hS (fun H locs hH hS => ?_)
  have hZ := Option.some.inj hE
  subst hZ
  exact W.iret (v := z18.1) hx hb hr (fun t ht hW => ⟨rfl, by rw [ht]; exact hH, hS.F ht⟩) hS.2.2 dX10_does_125
def fX10_does_b94 (F : Nat) (a0 : Nat) (x2 : Int32) (x4 : Int32) (x6 : Int32) (L : HL) : Option (Int32 × HL) := (o_gR L a0 9 16).bind fun v15 => (o_aI L v15 0 (x6 + x4)).bind fun v16 => if x2 ≤ v16 then (fX10_does_b119 F a0 x4 L) else ((o_gR L a0 9 16).bind fun v19 => (o_sI L v19 0 (x6 + x4) x2).bind fun L20 => fX10_does_b119 F a0 x4 L20)
set_option maxHeartbeats 4000000 in
set_option maxRecDepth 100000 in
theorem sX10_does_b94 {b0 : Nat} {D : va_G} {cA : Nat → ClassId} {p : Program} {l : Launch} {ev : Env} {s : State} {m : MethodId} {args : Array Value} {below : List Frame} {meth : Method} {c : Code} {F : Nat} {z : (Int32 × HL)} {a0 : Nat} {x2 : Int32} {x4 : Int32} {x6 : Int32} {L : HL} (hC : Cx D cA p s m args meth c cX10_does 7 RX10 wsX10_does (some .int)) (hE : fX10_does_b94 F a0 x2 x4 x6 L = some z) : WB b0 D cA p l ev (RM 2 0 0) s m args below meth c 7 0 0 (MQ below (Qk b0 D cA (some (.int z.1)) z.2) args s 0 0 (Ab b0)) 94 [(0, .ref (b0 + a0)), (2, .int x2), (4, .int x4), (6, .int x6)] [] L := by
  obtain ⟨hx, hb, hml, hown, hts, hK, hr, hlocks⟩ := id hC
  intro H locs ls hH hS hl
  unfold fX10_does_b94 at hE
  refine lv_aload_n hx hb dX10_does_94 rfl (lv_at hl 0 rfl) ?_
  obtain ⟨v15, hv15, hE⟩ := Option.bind_eq_some_iff.mp hE
  refine r_gR 16 (C := RX10) (T := TX10) (N := 26) (ci := 9) hx hb hts (by decide +kernel) hown hK hH hv15 rfl (by decide) (hts (.fieldLink RX10 38 "KindStreetsModel" "now" "[I") (by decide +kernel)) (fun _ h9 => h9) dX10_does_95 ?_
  refine lv_iload hx hb dX10_does_98 (lv_at hl 3 rfl) ?_
  refine lv_iload hx hb dX10_does_100 (lv_at hl 2 rfl) ?_
  refine lv_iadd hx hb dX10_does_102 ?_
  obtain ⟨v16, hv16, hE⟩ := Option.bind_eq_some_iff.mp hE
  refine r_iald hx hb hK hH hv16 dX10_does_103 ?_
  refine lv_iload_n hx hb dX10_does_104 rfl (lv_at hl 1 rfl) ?_
  refine lv_icmp_ge (tgt := 119) hx hb dX10_does_105 (by decide) (fun c17 => ?_) (fun c17 => ?_)
  · rw [if_pos c17] at hE
    exact sX10_does_b119 (F := F) hC hE _ _ _ hH hS (lv_sub hl [0, 2] rfl)
  · rw [if_neg c17] at hE
    refine lv_aload_n hx hb dX10_does_108 rfl (lv_at hl 0 rfl) ?_
    obtain ⟨v19, hv19, hE⟩ := Option.bind_eq_some_iff.mp hE
    refine r_gR 16 (C := RX10) (T := TX10) (N := 26) (ci := 9) hx hb hts (by decide +kernel) hown hK hH hv19 rfl (by decide) (hts (.fieldLink RX10 38 "KindStreetsModel" "now" "[I") (by decide +kernel)) (fun _ h9 => h9) dX10_does_109 ?_
    refine lv_iload hx hb dX10_does_112 (lv_at hl 3 rfl) ?_
    refine lv_iload hx hb dX10_does_114 (lv_at hl 2 rfl) ?_
    refine lv_iadd hx hb dX10_does_116 ?_
    refine lv_iload_n hx hb dX10_does_117 rfl (lv_at hl 1 rfl) ?_
    obtain ⟨L20, hL20, hE⟩ := Option.bind_eq_some_iff.mp hE
    refine r_iast hx hb hK hH hS hL20 dX10_does_118 (fun H locs hH hS => ?_)
    exact sX10_does_b119 (F := F) hC hE _ _ _ hH hS (lv_sub hl [0, 2] rfl)
def fX10_does_b83 (F : Nat) (a0 : Nat) (x2 : Int32) (x3 : Int32) (x4 : Int32) (x5 : Int32) (y0 : Int32) (L : HL) : Option (Int32 × HL) := if x5 = 0 then (if x3 = 0 then (fX10_does_b94 F a0 x2 x4 y0 L) else (fX10_does_b119 F a0 x4 L)) else (fX10_does_b94 F a0 x2 x4 y0 L)
set_option maxHeartbeats 4000000 in
set_option maxRecDepth 100000 in
theorem sX10_does_b83 {b0 : Nat} {D : va_G} {cA : Nat → ClassId} {p : Program} {l : Launch} {ev : Env} {s : State} {m : MethodId} {args : Array Value} {below : List Frame} {meth : Method} {c : Code} {F : Nat} {z : (Int32 × HL)} {a0 : Nat} {x2 : Int32} {x3 : Int32} {x4 : Int32} {x5 : Int32} {y0 : Int32} {L : HL} (hC : Cx D cA p s m args meth c cX10_does 7 RX10 wsX10_does (some .int)) (hE : fX10_does_b83 F a0 x2 x3 x4 x5 y0 L = some z) : WB b0 D cA p l ev (RM 2 0 0) s m args below meth c 7 0 0 (MQ below (Qk b0 D cA (some (.int z.1)) z.2) args s 0 0 (Ab b0)) 83 [(0, .ref (b0 + a0)), (2, .int x2), (3, .int x3), (4, .int x4), (5, .int x5)] [.int y0] L := by
  obtain ⟨hx, hb, hml, hown, hts, hK, hr, hlocks⟩ := id hC
  intro H locs ls hH hS hl
  unfold fX10_does_b83 at hE
  refine lv_istore (lv' := [(6, .int y0), (0, .ref (b0 + a0)), (2, .int x2), (3, .int x3), (4, .int x4), (5, .int x5)]) hx hb dX10_does_83 hl (by decide) rfl (fun ls hl => ?_)
  refine lv_iload hx hb dX10_does_85 (lv_at hl 5 rfl) ?_
  refine lv_if_ne (tgt := 94) hx hb dX10_does_87 (by decide) (fun c14 => ?_) (fun c14 => ?_)
  · rw [if_neg c14] at hE
    exact sX10_does_b94 (F := F) hC hE _ _ _ hH hS (lv_sub hl [1, 2, 4, 0] rfl)
  · rw [if_pos c14] at hE
    refine lv_iload_n hx hb dX10_does_90 rfl (lv_at hl 3 rfl) ?_
    refine lv_if_ne (tgt := 119) hx hb dX10_does_91 (by decide) (fun c21 => ?_) (fun c21 => ?_)
    · rw [if_neg c21] at hE
      exact sX10_does_b119 (F := F) hC hE _ _ _ hH hS (lv_sub hl [1, 4] rfl)
    · rw [if_pos c21] at hE
      exact sX10_does_b94 (F := F) hC hE _ _ _ hH hS (lv_sub hl [1, 2, 4, 0] rfl)
def fX10_does_b61 (F : Nat) (a0 : Nat) (x2 : Int32) (x3 : Int32) (x4 : Int32) (y0 : Int32) (L : HL) : Option (Int32 × HL) := if y0 = 0 then (fX10_does_b83 F a0 x2 x3 x4 y0 10 L) else (if x3 = 0 then (fX10_does_b83 F a0 x2 x3 x4 y0 1 L) else (fX10_does_b83 F a0 x2 x3 x4 y0 19 L))
set_option maxHeartbeats 4000000 in
set_option maxRecDepth 100000 in
theorem sX10_does_b61 {b0 : Nat} {D : va_G} {cA : Nat → ClassId} {p : Program} {l : Launch} {ev : Env} {s : State} {m : MethodId} {args : Array Value} {below : List Frame} {meth : Method} {c : Code} {F : Nat} {z : (Int32 × HL)} {a0 : Nat} {x2 : Int32} {x3 : Int32} {x4 : Int32} {y0 : Int32} {L : HL} (hC : Cx D cA p s m args meth c cX10_does 7 RX10 wsX10_does (some .int)) (hE : fX10_does_b61 F a0 x2 x3 x4 y0 L = some z) : WB b0 D cA p l ev (RM 2 0 0) s m args below meth c 7 0 0 (MQ below (Qk b0 D cA (some (.int z.1)) z.2) args s 0 0 (Ab b0)) 61 [(0, .ref (b0 + a0)), (2, .int x2), (3, .int x3), (4, .int x4)] [.int y0] L := by
  obtain ⟨hx, hb, hml, hown, hts, hK, hr, hlocks⟩ := id hC
  intro H locs ls hH hS hl
  unfold fX10_does_b61 at hE
  refine lv_istore (lv' := [(5, .int y0), (0, .ref (b0 + a0)), (2, .int x2), (3, .int x3), (4, .int x4)]) hx hb dX10_does_61 hl (by decide) rfl (fun ls hl => ?_)
  refine lv_iload hx hb dX10_does_63 (lv_at hl 0 rfl) ?_
  refine lv_if_eq (tgt := 81) hx hb dX10_does_65 (by decide) (fun c13 => ?_) (fun c13 => ?_)
  · rw [if_pos c13] at hE
    refine lv_bipush (v := 10) hx hb dX10_does_81 (by decide) ?_
    exact sX10_does_b83 (F := F) hC hE _ _ _ hH hS (lv_sub hl [1, 2, 3, 4, 0] rfl)
  · rw [if_neg c13] at hE
    refine lv_iload_n hx hb dX10_does_68 rfl (lv_at hl 3 rfl) ?_
    refine lv_if_ne (tgt := 76) hx hb dX10_does_69 (by decide) (fun c22 => ?_) (fun c22 => ?_)
    · rw [if_neg c22] at hE
      refine lv_bipush (v := 19) hx hb dX10_does_76 (by decide) ?_
      refine lv_goto (tgt := 83) hx hb dX10_does_78 (by decide) ?_
      exact sX10_does_b83 (F := F) hC hE _ _ _ hH hS (lv_sub hl [1, 2, 3, 4, 0] rfl)
    · rw [if_pos c22] at hE
      refine lv_iconst (v := 1) hx hb dX10_does_72 (by decide) ?_
      refine lv_goto (tgt := 83) hx hb dX10_does_73 (by decide) ?_
      exact sX10_does_b83 (F := F) hC hE _ _ _ hH hS (lv_sub hl [1, 2, 3, 4, 0] rfl)
def fX10_does (F : Nat) (L : HL) (a0 : Nat) (x1 : Int32) (x2 : Int32) (x3 : Int32) : Option (Int32 × HL) := (o_ob L a0 9).bind fun _ => (fX10_isPerson F L a0 x1).bind fun z1 => if z1.1 = 0 then (fX10_does_b27 F z1.2) else ((fX10_in F z1.2 x2 1 9).bind fun z3 => if z3.1 = 0 then (fX10_does_b27 F z3.2) else ((fX10_in F z3.2 x3 0 1).bind fun z5 => if z5.1 = 0 then (fX10_does_b27 F z5.2) else ((fX10_know F z5.2 a0).bind fun z7 => (o_gR z7 a0 9 16).bind fun v8 => (o_aI z7 v8 0 (28 + x1)).bind fun v9 => (fX10_witnesses F z7 a0 x1).bind fun z10 => (fX10_bitsOf F z10.2 z10.1).bind fun z11 => if z11.1 < 2 then (fX10_does_b61 F a0 x2 x3 v9 0 z11.2) else (fX10_does_b61 F a0 x2 x3 v9 1 z11.2))))
theorem oX10_does {F : Nat} {L : HL} {a0 : Nat} {x1 : Int32} {x2 : Int32} {x3 : Int32} {z : (Int32 × HL)} (hE : fX10_does F L a0 x1 x2 x3 = some z) : o_ob L a0 9 = some () := by
  obtain ⟨_, h, _⟩ := Option.bind_eq_some_iff.mp hE
  exact h
set_option maxHeartbeats 4000000 in
set_option maxRecDepth 100000 in
theorem sX10_does (l : Launch) (b0 : Nat) (D : va_G) (cA : Nat → ClassId) {F : Nat} {L : HL} {a0 : Nat} {x1 : Int32} {x2 : Int32} {x3 : Int32} {z : (Int32 × HL)} (hE : fX10_does F L a0 x1 x2 x3 = some z) : Met l yX10_does wsX10_does (RM 2 0 0) (Pk b0 D cA [.ref (b0 + a0), .int x1, .int x2, .int x3] L) (Qk b0 D cA (some (.int z.1)) z.2) 0 0 (Ab b0) := by
  refine Met.ofW (cc := cX10_does) (maxL := 7) (ret := (some .int)) (by decide) rfl ?_
  intro p ev s m args below meth c s₁ B hml hv
  obtain ⟨rfl, hH, hK⟩ := hv
  have hx := B.exec
  have hb := B.bytes
  have hr := B.returns
  have hts := atoms_spec (ws := wsX10_does) B.pre
  have hown : s.vm.findClass RX10 = some m.cls := findClass_of_methodNamed B.named
  have hlocks := B.notSynchronized
  have hC : Cx D cA p s m _ meth c cX10_does 7 RX10 wsX10_does (some .int) := ⟨hx, hb, hml, hown, hts, hK, hr, hlocks⟩
  have hS : va_S (Ab b0) s.heap s.heap [] := va_S.rf
  have hl := lv_entry ([.ref (b0 + a0), .int x1, .int x2, .int x3]) (n := 7) (Nat.le_of_ble_eq_true rfl)
  rw [lg_entry_eq]
  generalize (lg_sl ([.ref (b0 + a0), .int x1, .int x2, .int x3]) ++ List.replicate (7 - (lg_sl ([.ref (b0 + a0), .int x1, .int x2, .int x3])).length) Slot.unset).toArray = ls at hl ⊢
  have hl : lv_has ls 7 [(0, .ref (b0 + a0)), (1, .int x1), (2, .int x2), (3, .int x3)] := hl
  unfold fX10_does at hE
  obtain ⟨_, _, hE⟩ := Option.bind_eq_some_iff.mp hE
  refine lv_aload_n hx hb dX10_does_0 rfl (lv_at hl 0 rfl) ?_
  refine lv_iload_n hx hb dX10_does_1 rfl (lv_at hl 1 rfl) ?_
  obtain ⟨z1, hz1, hE⟩ := Option.bind_eq_some_iff.mp hE
  refine r_callI (va_runV (As := [.int x1]) (rest := []) ⟨hx, hb, hml, hown, hts⟩ (sX10_isPerson l b0 D cA hz1) (cwV 1 hts gX10_does_X10_isPerson rfl rfl rfl (by decide +kernel) (rm_ok (by decide) (by decide))) (pre_V (ci := 9) hK hH (oX10_isPerson hz1) rfl) rfl rfl hl.1 rfl (lv_room (Nat.le_of_ble_eq_true rfl)) dX10_does_2 ⟨Nat.zero_le _, Nat.zero_le _⟩) hS (fun H locs hH hS => ?_)
  refine lv_if_eq (tgt := 27) hx hb dX10_does_5 (by decide) (fun c2 => ?_) (fun c2 => ?_)
  · rw [if_pos c2] at hE
    exact sX10_does_b27 (F := F) hC hE _ _ _ hH hS (lv_sub hl [] rfl)
  · rw [if_neg c2] at hE
    refine lv_iload_n hx hb dX10_does_8 rfl (lv_at hl 2 rfl) ?_
    refine lv_iconst (v := 1) hx hb dX10_does_9 (by decide) ?_
    refine lv_bipush (v := 9) hx hb dX10_does_10 (by decide) ?_
    obtain ⟨z3, hz3, hE⟩ := Option.bind_eq_some_iff.mp hE
    refine r_callI (va_runS (As := [.int x2, .int 1, .int 9]) (rest := []) ⟨hx, hb, hml, hown, hts⟩ (sX10_in l b0 D cA hz3) (va_cwS 3 hts gX10_does_X10_in rfl rfl rfl (by decide +kernel) (rm_ok (by decide) (by decide))) (pre_S hK hH) rfl rfl hl.1 rfl (lv_room (Nat.le_of_ble_eq_true rfl)) dX10_does_12 ⟨Nat.zero_le _, Nat.zero_le _⟩) hS (fun H locs hH hS => ?_)
    refine lv_if_eq (tgt := 27) hx hb dX10_does_15 (by decide) (fun c4 => ?_) (fun c4 => ?_)
    · rw [if_pos c4] at hE
      exact sX10_does_b27 (F := F) hC hE _ _ _ hH hS (lv_sub hl [] rfl)
    · rw [if_neg c4] at hE
      refine lv_iload_n hx hb dX10_does_18 rfl (lv_at hl 3 rfl) ?_
      refine lv_iconst (v := 0) hx hb dX10_does_19 (by decide) ?_
      refine lv_iconst (v := 1) hx hb dX10_does_20 (by decide) ?_
      obtain ⟨z5, hz5, hE⟩ := Option.bind_eq_some_iff.mp hE
      refine r_callI (va_runS (As := [.int x3, .int 0, .int 1]) (rest := []) ⟨hx, hb, hml, hown, hts⟩ (sX10_in l b0 D cA hz5) (va_cwS 3 hts gX10_does_X10_in rfl rfl rfl (by decide +kernel) (rm_ok (by decide) (by decide))) (pre_S hK hH) rfl rfl hl.1 rfl (lv_room (Nat.le_of_ble_eq_true rfl)) dX10_does_21 ⟨Nat.zero_le _, Nat.zero_le _⟩) hS (fun H locs hH hS => ?_)
      refine lv_if_ne (tgt := 29) hx hb dX10_does_24 (by decide) (fun c6 => ?_) (fun c6 => ?_)
      · rw [if_neg c6] at hE
        refine lv_aload_n hx hb dX10_does_29 rfl (lv_at hl 0 rfl) ?_
        obtain ⟨z7, hz7, hE⟩ := Option.bind_eq_some_iff.mp hE
        refine r_callV (va_runV (As := []) (rest := []) ⟨hx, hb, hml, hown, hts⟩ (sX10_know l b0 D cA hz7) (cwV 0 hts gX10_does_X10_know rfl rfl rfl (by decide +kernel) (rm_ok (by decide) (by decide))) (pre_V (ci := 9) hK hH (oX10_know hz7) rfl) rfl rfl hl.1 rfl (lv_room (Nat.le_of_ble_eq_true rfl)) dX10_does_30 ⟨Nat.zero_le _, Nat.zero_le _⟩) hS (fun H locs hH hS => ?_)
        refine lv_aload_n hx hb dX10_does_33 rfl (lv_at hl 0 rfl) ?_
        obtain ⟨v8, hv8, hE⟩ := Option.bind_eq_some_iff.mp hE
        refine r_gR 16 (C := RX10) (T := TX10) (N := 26) (ci := 9) hx hb hts (by decide +kernel) hown hK hH hv8 rfl (by decide) (hts (.fieldLink RX10 38 "KindStreetsModel" "now" "[I") (by decide +kernel)) (fun _ h9 => h9) dX10_does_34 ?_
        refine lv_bipush (v := 28) hx hb dX10_does_37 (by decide) ?_
        refine lv_iload_n hx hb dX10_does_39 rfl (lv_at hl 1 rfl) ?_
        refine lv_iadd hx hb dX10_does_40 ?_
        obtain ⟨v9, hv9, hE⟩ := Option.bind_eq_some_iff.mp hE
        refine r_iald hx hb hK hH hv9 dX10_does_41 ?_
        refine lv_istore (lv' := [(4, .int v9), (0, .ref (b0 + a0)), (1, .int x1), (2, .int x2), (3, .int x3)]) hx hb dX10_does_42 hl (by decide) rfl (fun ls hl => ?_)
        refine lv_aload_n hx hb dX10_does_44 rfl (lv_at hl 1 rfl) ?_
        refine lv_iload_n hx hb dX10_does_45 rfl (lv_at hl 2 rfl) ?_
        obtain ⟨z10, hz10, hE⟩ := Option.bind_eq_some_iff.mp hE
        refine r_callI (va_runV (As := [.int x1]) (rest := []) ⟨hx, hb, hml, hown, hts⟩ (sX10_witnesses l b0 D cA hz10) (cwV 1 hts gX10_does_X10_witnesses rfl rfl rfl (by decide +kernel) (rm_ok (by decide) (by decide))) (pre_V (ci := 9) hK hH (oX10_witnesses hz10) rfl) rfl rfl hl.1 rfl (lv_room (Nat.le_of_ble_eq_true rfl)) dX10_does_46 ⟨Nat.zero_le _, Nat.zero_le _⟩) hS (fun H locs hH hS => ?_)
        obtain ⟨z11, hz11, hE⟩ := Option.bind_eq_some_iff.mp hE
        refine r_callI (va_runS (As := [.int z10.1]) (rest := []) ⟨hx, hb, hml, hown, hts⟩ (sX10_bitsOf l b0 D cA hz11) (va_cwS 1 hts gX10_does_X10_bitsOf rfl rfl rfl (by decide +kernel) (rm_ok (by decide) (by decide))) (pre_S hK hH) rfl rfl hl.1 rfl (lv_room (Nat.le_of_ble_eq_true rfl)) dX10_does_49 ⟨Nat.zero_le _, Nat.zero_le _⟩) hS (fun H locs hH hS => ?_)
        refine lv_iconst (v := 2) hx hb dX10_does_52 (by decide) ?_
        refine lv_icmp_lt (tgt := 60) hx hb dX10_does_53 (by decide) (fun c12 => ?_) (fun c12 => ?_)
        · rw [if_pos c12] at hE
          refine lv_iconst (v := 0) hx hb dX10_does_60 (by decide) ?_
          exact sX10_does_b61 (F := F) hC hE _ _ _ hH hS (lv_sub hl [1, 3, 4, 0] rfl)
        · rw [if_neg c12] at hE
          refine lv_iconst (v := 1) hx hb dX10_does_56 (by decide) ?_
          refine lv_goto (tgt := 61) hx hb dX10_does_57 (by decide) ?_
          exact sX10_does_b61 (F := F) hC hE _ _ _ hH hS (lv_sub hl [1, 3, 4, 0] rfl)
      · rw [if_pos c6] at hE
        exact sX10_does_b27 (F := F) hC hE _ _ _ hH hS (lv_sub hl [] rfl)
-- X10_wills
def fX10_wills_b62 (F : Nat) (a0 : Nat) (x1 : Int32) (x2 : Int32) (y0 : Int32) (y1 : Int32) (y2 : Nat) (L : HL) : Option (Int32 × HL) := (o_sI L y2 0 y1 y0).bind fun L13 => (o_gR L13 a0 9 16).bind fun v14 => (o_sI L13 v14 0 (10 + x1) 0).bind fun L15 => some (x2, L15)
set_option maxHeartbeats 4000000 in
set_option maxRecDepth 100000 in
theorem sX10_wills_b62 {b0 : Nat} {D : va_G} {cA : Nat → ClassId} {p : Program} {l : Launch} {ev : Env} {s : State} {m : MethodId} {args : Array Value} {below : List Frame} {meth : Method} {c : Code} {F : Nat} {z : (Int32 × HL)} {a0 : Nat} {x1 : Int32} {x2 : Int32} {y0 : Int32} {y1 : Int32} {y2 : Nat} {L : HL} (hC : Cx D cA p s m args meth c cX10_wills 3 RX10 wsX10_wills (some .int)) (hE : fX10_wills_b62 F a0 x1 x2 y0 y1 y2 L = some z) : WB b0 D cA p l ev (RM 2 0 0) s m args below meth c 3 0 0 (MQ below (Qk b0 D cA (some (.int z.1)) z.2) args s 0 0 (Ab b0)) 62 [(0, .ref (b0 + a0)), (1, .int x1), (2, .int x2)] [.int y0, .int y1, .ref (b0 + y2)] L := by
  obtain ⟨hx, hb, hml, hown, hts, hK, hr, hlocks⟩ := id hC
  intro H locs ls hH hS hl
  unfold fX10_wills_b62 at hE
  obtain ⟨L13, hL13, hE⟩ := Option.bind_eq_some_iff.mp hE
  refine r_iast hx hb hK hH hS hL13 dX10_wills_62 (fun H locs hH hS => ?_)
  refine lv_aload_n hx hb dX10_wills_63 rfl (lv_at hl 0 rfl) ?_
  obtain ⟨v14, hv14, hE⟩ := Option.bind_eq_some_iff.mp hE
  refine r_gR 16 (C := RX10) (T := TX10) (N := 26) (ci := 9) hx hb hts (by decide +kernel) hown hK hH hv14 rfl (by decide) (hts (.fieldLink RX10 38 "KindStreetsModel" "now" "[I") (by decide +kernel)) (fun _ h9 => h9) dX10_wills_64 ?_
  refine lv_bipush (v := 10) hx hb dX10_wills_67 (by decide) ?_
  refine lv_iload_n hx hb dX10_wills_69 rfl (lv_at hl 1 rfl) ?_
  refine lv_iadd hx hb dX10_wills_70 ?_
  refine lv_iconst (v := 0) hx hb dX10_wills_71 (by decide) ?_
  obtain ⟨L15, hL15, hE⟩ := Option.bind_eq_some_iff.mp hE
  refine r_iast hx hb hK hH hS hL15 dX10_wills_72 (fun H locs hH hS => ?_)
  refine lv_iload_n hx hb dX10_wills_73 rfl (lv_at hl 2 rfl) ?_
  have hZ := Option.some.inj hE
  subst hZ
  exact W.iret (v := x2) hx hb hr (fun t ht hW => ⟨rfl, by rw [ht]; exact hH, hS.F ht⟩) hS.2.2 dX10_wills_74
def fX10_wills (F : Nat) (L : HL) (a0 : Nat) (x1 : Int32) : Option (Int32 × HL) := (o_ob L a0 9).bind fun _ => (fX10_isStreet F L a0 x1).bind fun z1 => if z1.1 = 0 then (some ((-1), z1.2)) else ((o_gR z1.2 a0 9 16).bind fun v3 => (o_aI z1.2 v3 0 (10 + x1)).bind fun v4 => if v4 = 0 then (some ((-2), z1.2)) else ((fX10_know F z1.2 a0).bind fun z6 => (o_gR z6 a0 9 16).bind fun v7 => (o_gR z6 a0 9 16).bind fun v8 => (o_aI z6 v8 0 (1 + x1)).bind fun v9 => if v4 ≤ v9 then ((o_gR z6 a0 9 16).bind fun v11 => (o_aI z6 v11 0 (1 + x1)).bind fun v12 => fX10_wills_b62 F a0 x1 v4 v12 (1 + x1) v7 z6) else (fX10_wills_b62 F a0 x1 v4 v4 (1 + x1) v7 z6)))
theorem oX10_wills {F : Nat} {L : HL} {a0 : Nat} {x1 : Int32} {z : (Int32 × HL)} (hE : fX10_wills F L a0 x1 = some z) : o_ob L a0 9 = some () := by
  obtain ⟨_, h, _⟩ := Option.bind_eq_some_iff.mp hE
  exact h
set_option maxHeartbeats 4000000 in
set_option maxRecDepth 100000 in
theorem sX10_wills (l : Launch) (b0 : Nat) (D : va_G) (cA : Nat → ClassId) {F : Nat} {L : HL} {a0 : Nat} {x1 : Int32} {z : (Int32 × HL)} (hE : fX10_wills F L a0 x1 = some z) : Met l yX10_wills wsX10_wills (RM 2 0 0) (Pk b0 D cA [.ref (b0 + a0), .int x1] L) (Qk b0 D cA (some (.int z.1)) z.2) 0 0 (Ab b0) := by
  refine Met.ofW (cc := cX10_wills) (maxL := 3) (ret := (some .int)) (by decide) rfl ?_
  intro p ev s m args below meth c s₁ B hml hv
  obtain ⟨rfl, hH, hK⟩ := hv
  have hx := B.exec
  have hb := B.bytes
  have hr := B.returns
  have hts := atoms_spec (ws := wsX10_wills) B.pre
  have hown : s.vm.findClass RX10 = some m.cls := findClass_of_methodNamed B.named
  have hlocks := B.notSynchronized
  have hC : Cx D cA p s m _ meth c cX10_wills 3 RX10 wsX10_wills (some .int) := ⟨hx, hb, hml, hown, hts, hK, hr, hlocks⟩
  have hS : va_S (Ab b0) s.heap s.heap [] := va_S.rf
  have hl := lv_entry ([.ref (b0 + a0), .int x1]) (n := 3) (Nat.le_of_ble_eq_true rfl)
  rw [lg_entry_eq]
  generalize (lg_sl ([.ref (b0 + a0), .int x1]) ++ List.replicate (3 - (lg_sl ([.ref (b0 + a0), .int x1])).length) Slot.unset).toArray = ls at hl ⊢
  have hl : lv_has ls 3 [(0, .ref (b0 + a0)), (1, .int x1)] := hl
  unfold fX10_wills at hE
  obtain ⟨_, _, hE⟩ := Option.bind_eq_some_iff.mp hE
  refine lv_aload_n hx hb dX10_wills_0 rfl (lv_at hl 0 rfl) ?_
  refine lv_iload_n hx hb dX10_wills_1 rfl (lv_at hl 1 rfl) ?_
  obtain ⟨z1, hz1, hE⟩ := Option.bind_eq_some_iff.mp hE
  refine r_callI (va_runV (As := [.int x1]) (rest := []) ⟨hx, hb, hml, hown, hts⟩ (sX10_isStreet l b0 D cA hz1) (cwV 1 hts gX10_wills_X10_isStreet rfl rfl rfl (by decide +kernel) (rm_ok (by decide) (by decide))) (pre_V (ci := 9) hK hH (oX10_isStreet hz1) rfl) rfl rfl hl.1 rfl (lv_room (Nat.le_of_ble_eq_true rfl)) dX10_wills_2 ⟨Nat.zero_le _, Nat.zero_le _⟩) hS (fun H locs hH hS => ?_)
  refine lv_if_ne (tgt := 10) hx hb dX10_wills_5 (by decide) (fun c2 => ?_) (fun c2 => ?_)
  · rw [if_neg c2] at hE
    refine lv_aload_n hx hb dX10_wills_10 rfl (lv_at hl 0 rfl) ?_
    obtain ⟨v3, hv3, hE⟩ := Option.bind_eq_some_iff.mp hE
    refine r_gR 16 (C := RX10) (T := TX10) (N := 26) (ci := 9) hx hb hts (by decide +kernel) hown hK hH hv3 rfl (by decide) (hts (.fieldLink RX10 38 "KindStreetsModel" "now" "[I") (by decide +kernel)) (fun _ h9 => h9) dX10_wills_11 ?_
    refine lv_bipush (v := 10) hx hb dX10_wills_14 (by decide) ?_
    refine lv_iload_n hx hb dX10_wills_16 rfl (lv_at hl 1 rfl) ?_
    refine lv_iadd hx hb dX10_wills_17 ?_
    obtain ⟨v4, hv4, hE⟩ := Option.bind_eq_some_iff.mp hE
    refine r_iald hx hb hK hH hv4 dX10_wills_18 ?_
    refine lv_istore_n (lv' := [(2, .int v4), (0, .ref (b0 + a0)), (1, .int x1)]) hx hb dX10_wills_19 rfl hl (by decide) rfl (fun ls hl => ?_)
    refine lv_iload_n hx hb dX10_wills_20 rfl (lv_at hl 0 rfl) ?_
    refine lv_if_ne (tgt := 27) hx hb dX10_wills_21 (by decide) (fun c5 => ?_) (fun c5 => ?_)
    · rw [if_neg c5] at hE
      refine lv_aload_n hx hb dX10_wills_27 rfl (lv_at hl 1 rfl) ?_
      obtain ⟨z6, hz6, hE⟩ := Option.bind_eq_some_iff.mp hE
      refine r_callV (va_runV (As := []) (rest := []) ⟨hx, hb, hml, hown, hts⟩ (sX10_know l b0 D cA hz6) (cwV 0 hts gX10_wills_X10_know rfl rfl rfl (by decide +kernel) (rm_ok (by decide) (by decide))) (pre_V (ci := 9) hK hH (oX10_know hz6) rfl) rfl rfl hl.1 rfl (lv_room (Nat.le_of_ble_eq_true rfl)) dX10_wills_28 ⟨Nat.zero_le _, Nat.zero_le _⟩) hS (fun H locs hH hS => ?_)
      refine lv_aload_n hx hb dX10_wills_31 rfl (lv_at hl 1 rfl) ?_
      obtain ⟨v7, hv7, hE⟩ := Option.bind_eq_some_iff.mp hE
      refine r_gR 16 (C := RX10) (T := TX10) (N := 26) (ci := 9) hx hb hts (by decide +kernel) hown hK hH hv7 rfl (by decide) (hts (.fieldLink RX10 38 "KindStreetsModel" "now" "[I") (by decide +kernel)) (fun _ h9 => h9) dX10_wills_32 ?_
      refine lv_iconst (v := 1) hx hb dX10_wills_35 (by decide) ?_
      refine lv_iload_n hx hb dX10_wills_36 rfl (lv_at hl 2 rfl) ?_
      refine lv_iadd hx hb dX10_wills_37 ?_
      refine lv_iload_n hx hb dX10_wills_38 rfl (lv_at hl 0 rfl) ?_
      refine lv_aload_n hx hb dX10_wills_39 rfl (lv_at hl 1 rfl) ?_
      obtain ⟨v8, hv8, hE⟩ := Option.bind_eq_some_iff.mp hE
      refine r_gR 16 (C := RX10) (T := TX10) (N := 26) (ci := 9) hx hb hts (by decide +kernel) hown hK hH hv8 rfl (by decide) (hts (.fieldLink RX10 38 "KindStreetsModel" "now" "[I") (by decide +kernel)) (fun _ h9 => h9) dX10_wills_40 ?_
      refine lv_iconst (v := 1) hx hb dX10_wills_43 (by decide) ?_
      refine lv_iload_n hx hb dX10_wills_44 rfl (lv_at hl 2 rfl) ?_
      refine lv_iadd hx hb dX10_wills_45 ?_
      obtain ⟨v9, hv9, hE⟩ := Option.bind_eq_some_iff.mp hE
      refine r_iald hx hb hK hH hv9 dX10_wills_46 ?_
      refine lv_icmp_le (tgt := 54) hx hb dX10_wills_47 (by decide) (fun c10 => ?_) (fun c10 => ?_)
      · rw [if_pos c10] at hE
        refine lv_aload_n hx hb dX10_wills_54 rfl (lv_at hl 1 rfl) ?_
        obtain ⟨v11, hv11, hE⟩ := Option.bind_eq_some_iff.mp hE
        refine r_gR 16 (C := RX10) (T := TX10) (N := 26) (ci := 9) hx hb hts (by decide +kernel) hown hK hH hv11 rfl (by decide) (hts (.fieldLink RX10 38 "KindStreetsModel" "now" "[I") (by decide +kernel)) (fun _ h9 => h9) dX10_wills_55 ?_
        refine lv_iconst (v := 1) hx hb dX10_wills_58 (by decide) ?_
        refine lv_iload_n hx hb dX10_wills_59 rfl (lv_at hl 2 rfl) ?_
        refine lv_iadd hx hb dX10_wills_60 ?_
        obtain ⟨v12, hv12, hE⟩ := Option.bind_eq_some_iff.mp hE
        refine r_iald hx hb hK hH hv12 dX10_wills_61 ?_
        exact sX10_wills_b62 (F := F) hC hE _ _ _ hH hS (lv_sub hl [1, 2, 0] rfl)
      · rw [if_neg c10] at hE
        refine lv_iload_n hx hb dX10_wills_50 rfl (lv_at hl 0 rfl) ?_
        refine lv_goto (tgt := 62) hx hb dX10_wills_51 (by decide) ?_
        exact sX10_wills_b62 (F := F) hC hE _ _ _ hH hS (lv_sub hl [1, 2, 0] rfl)
    · rw [if_pos c5] at hE
      refine lv_bipush (v := (-2)) hx hb dX10_wills_24 (by decide) ?_
      have hZ := Option.some.inj hE
      subst hZ
      exact W.iret (v := (-2)) hx hb hr (fun t ht hW => ⟨rfl, by rw [ht]; exact hH, hS.F ht⟩) hS.2.2 dX10_wills_26
  · rw [if_pos c2] at hE
    refine lv_iconst (v := (-1)) hx hb dX10_wills_8 (by decide) ?_
    have hZ := Option.some.inj hE
    subst hZ
    exact W.iret (v := (-1)) hx hb hr (fun t ht hW => ⟨rfl, by rw [ht]; exact hH, hS.F ht⟩) hS.2.2 dX10_wills_9
-- X10_moves
def fX10_moves_b16 (F : Nat)  (L : HL) : Option (Int32 × HL) := some ((-1), L)
set_option maxHeartbeats 4000000 in
set_option maxRecDepth 100000 in
theorem sX10_moves_b16 {b0 : Nat} {D : va_G} {cA : Nat → ClassId} {p : Program} {l : Launch} {ev : Env} {s : State} {m : MethodId} {args : Array Value} {below : List Frame} {meth : Method} {c : Code} {F : Nat} {z : (Int32 × HL)}  {L : HL} (hC : Cx D cA p s m args meth c cX10_moves 4 RX10 wsX10_moves (some .int)) (hE : fX10_moves_b16 F  L = some z) : WB b0 D cA p l ev (RM 2 0 0) s m args below meth c 4 0 0 (MQ below (Qk b0 D cA (some (.int z.1)) z.2) args s 0 0 (Ab b0)) 16 [] [] L := by
  obtain ⟨hx, hb, hml, hown, hts, hK, hr, hlocks⟩ := id hC
  intro H locs ls hH hS hl
  unfold fX10_moves_b16 at hE
  refine lv_iconst (v := (-1)) hx hb dX10_moves_16 (by decide) ?_
  have hZ := Option.some.inj hE
  subst hZ
  exact W.iret (v := (-1)) hx hb hr (fun t ht hW => ⟨rfl, by rw [ht]; exact hH, hS.F ht⟩) hS.2.2 dX10_moves_17
def fX10_moves (F : Nat) (L : HL) (a0 : Nat) (x1 : Int32) (x2 : Int32) : Option (Int32 × HL) := (o_ob L a0 9).bind fun _ => (fX10_isPerson F L a0 x1).bind fun z1 => if z1.1 = 0 then (fX10_moves_b16 F z1.2) else ((fX10_isStreet F z1.2 a0 x2).bind fun z3 => if z3.1 = 0 then (fX10_moves_b16 F z3.2) else ((o_gR z3.2 a0 9 16).bind fun v5 => (o_aI z3.2 v5 0 (28 + x1)).bind fun v6 => if v6 = x2 then (some ((-2), z3.2)) else ((fX10_know F z3.2 a0).bind fun z8 => (o_gR z8 a0 9 16).bind fun v9 => (o_sI z8 v9 0 (28 + x1) x2).bind fun L10 => some (v6, L10))))
theorem oX10_moves {F : Nat} {L : HL} {a0 : Nat} {x1 : Int32} {x2 : Int32} {z : (Int32 × HL)} (hE : fX10_moves F L a0 x1 x2 = some z) : o_ob L a0 9 = some () := by
  obtain ⟨_, h, _⟩ := Option.bind_eq_some_iff.mp hE
  exact h
set_option maxHeartbeats 4000000 in
set_option maxRecDepth 100000 in
theorem sX10_moves (l : Launch) (b0 : Nat) (D : va_G) (cA : Nat → ClassId) {F : Nat} {L : HL} {a0 : Nat} {x1 : Int32} {x2 : Int32} {z : (Int32 × HL)} (hE : fX10_moves F L a0 x1 x2 = some z) : Met l yX10_moves wsX10_moves (RM 2 0 0) (Pk b0 D cA [.ref (b0 + a0), .int x1, .int x2] L) (Qk b0 D cA (some (.int z.1)) z.2) 0 0 (Ab b0) := by
  refine Met.ofW (cc := cX10_moves) (maxL := 4) (ret := (some .int)) (by decide) rfl ?_
  intro p ev s m args below meth c s₁ B hml hv
  obtain ⟨rfl, hH, hK⟩ := hv
  have hx := B.exec
  have hb := B.bytes
  have hr := B.returns
  have hts := atoms_spec (ws := wsX10_moves) B.pre
  have hown : s.vm.findClass RX10 = some m.cls := findClass_of_methodNamed B.named
  have hlocks := B.notSynchronized
  have hC : Cx D cA p s m _ meth c cX10_moves 4 RX10 wsX10_moves (some .int) := ⟨hx, hb, hml, hown, hts, hK, hr, hlocks⟩
  have hS : va_S (Ab b0) s.heap s.heap [] := va_S.rf
  have hl := lv_entry ([.ref (b0 + a0), .int x1, .int x2]) (n := 4) (Nat.le_of_ble_eq_true rfl)
  rw [lg_entry_eq]
  generalize (lg_sl ([.ref (b0 + a0), .int x1, .int x2]) ++ List.replicate (4 - (lg_sl ([.ref (b0 + a0), .int x1, .int x2])).length) Slot.unset).toArray = ls at hl ⊢
  have hl : lv_has ls 4 [(0, .ref (b0 + a0)), (1, .int x1), (2, .int x2)] := hl
  unfold fX10_moves at hE
  obtain ⟨_, _, hE⟩ := Option.bind_eq_some_iff.mp hE
  refine lv_aload_n hx hb dX10_moves_0 rfl (lv_at hl 0 rfl) ?_
  refine lv_iload_n hx hb dX10_moves_1 rfl (lv_at hl 1 rfl) ?_
  obtain ⟨z1, hz1, hE⟩ := Option.bind_eq_some_iff.mp hE
  refine r_callI (va_runV (As := [.int x1]) (rest := []) ⟨hx, hb, hml, hown, hts⟩ (sX10_isPerson l b0 D cA hz1) (cwV 1 hts gX10_moves_X10_isPerson rfl rfl rfl (by decide +kernel) (rm_ok (by decide) (by decide))) (pre_V (ci := 9) hK hH (oX10_isPerson hz1) rfl) rfl rfl hl.1 rfl (lv_room (Nat.le_of_ble_eq_true rfl)) dX10_moves_2 ⟨Nat.zero_le _, Nat.zero_le _⟩) hS (fun H locs hH hS => ?_)
  refine lv_if_eq (tgt := 16) hx hb dX10_moves_5 (by decide) (fun c2 => ?_) (fun c2 => ?_)
  · rw [if_pos c2] at hE
    exact sX10_moves_b16 (F := F) hC hE _ _ _ hH hS (lv_sub hl [] rfl)
  · rw [if_neg c2] at hE
    refine lv_aload_n hx hb dX10_moves_8 rfl (lv_at hl 0 rfl) ?_
    refine lv_iload_n hx hb dX10_moves_9 rfl (lv_at hl 2 rfl) ?_
    obtain ⟨z3, hz3, hE⟩ := Option.bind_eq_some_iff.mp hE
    refine r_callI (va_runV (As := [.int x2]) (rest := []) ⟨hx, hb, hml, hown, hts⟩ (sX10_isStreet l b0 D cA hz3) (cwV 1 hts gX10_moves_X10_isStreet rfl rfl rfl (by decide +kernel) (rm_ok (by decide) (by decide))) (pre_V (ci := 9) hK hH (oX10_isStreet hz3) rfl) rfl rfl hl.1 rfl (lv_room (Nat.le_of_ble_eq_true rfl)) dX10_moves_10 ⟨Nat.zero_le _, Nat.zero_le _⟩) hS (fun H locs hH hS => ?_)
    refine lv_if_ne (tgt := 18) hx hb dX10_moves_13 (by decide) (fun c4 => ?_) (fun c4 => ?_)
    · rw [if_neg c4] at hE
      refine lv_aload_n hx hb dX10_moves_18 rfl (lv_at hl 0 rfl) ?_
      obtain ⟨v5, hv5, hE⟩ := Option.bind_eq_some_iff.mp hE
      refine r_gR 16 (C := RX10) (T := TX10) (N := 26) (ci := 9) hx hb hts (by decide +kernel) hown hK hH hv5 rfl (by decide) (hts (.fieldLink RX10 38 "KindStreetsModel" "now" "[I") (by decide +kernel)) (fun _ h9 => h9) dX10_moves_19 ?_
      refine lv_bipush (v := 28) hx hb dX10_moves_22 (by decide) ?_
      refine lv_iload_n hx hb dX10_moves_24 rfl (lv_at hl 1 rfl) ?_
      refine lv_iadd hx hb dX10_moves_25 ?_
      obtain ⟨v6, hv6, hE⟩ := Option.bind_eq_some_iff.mp hE
      refine r_iald hx hb hK hH hv6 dX10_moves_26 ?_
      refine lv_istore_n (lv' := [(3, .int v6), (0, .ref (b0 + a0)), (1, .int x1), (2, .int x2)]) hx hb dX10_moves_27 rfl hl (by decide) rfl (fun ls hl => ?_)
      refine lv_iload_n hx hb dX10_moves_28 rfl (lv_at hl 0 rfl) ?_
      refine lv_iload_n hx hb dX10_moves_29 rfl (lv_at hl 3 rfl) ?_
      refine lv_icmp_ne (tgt := 36) hx hb dX10_moves_30 (by decide) (fun c7 => ?_) (fun c7 => ?_)
      · rw [if_neg c7] at hE
        refine lv_aload_n hx hb dX10_moves_36 rfl (lv_at hl 1 rfl) ?_
        obtain ⟨z8, hz8, hE⟩ := Option.bind_eq_some_iff.mp hE
        refine r_callV (va_runV (As := []) (rest := []) ⟨hx, hb, hml, hown, hts⟩ (sX10_know l b0 D cA hz8) (cwV 0 hts gX10_moves_X10_know rfl rfl rfl (by decide +kernel) (rm_ok (by decide) (by decide))) (pre_V (ci := 9) hK hH (oX10_know hz8) rfl) rfl rfl hl.1 rfl (lv_room (Nat.le_of_ble_eq_true rfl)) dX10_moves_37 ⟨Nat.zero_le _, Nat.zero_le _⟩) hS (fun H locs hH hS => ?_)
        refine lv_aload_n hx hb dX10_moves_40 rfl (lv_at hl 1 rfl) ?_
        obtain ⟨v9, hv9, hE⟩ := Option.bind_eq_some_iff.mp hE
        refine r_gR 16 (C := RX10) (T := TX10) (N := 26) (ci := 9) hx hb hts (by decide +kernel) hown hK hH hv9 rfl (by decide) (hts (.fieldLink RX10 38 "KindStreetsModel" "now" "[I") (by decide +kernel)) (fun _ h9 => h9) dX10_moves_41 ?_
        refine lv_bipush (v := 28) hx hb dX10_moves_44 (by decide) ?_
        refine lv_iload_n hx hb dX10_moves_46 rfl (lv_at hl 2 rfl) ?_
        refine lv_iadd hx hb dX10_moves_47 ?_
        refine lv_iload_n hx hb dX10_moves_48 rfl (lv_at hl 3 rfl) ?_
        obtain ⟨L10, hL10, hE⟩ := Option.bind_eq_some_iff.mp hE
        refine r_iast hx hb hK hH hS hL10 dX10_moves_49 (fun H locs hH hS => ?_)
        refine lv_iload_n hx hb dX10_moves_50 rfl (lv_at hl 0 rfl) ?_
        have hZ := Option.some.inj hE
        subst hZ
        exact W.iret (v := v6) hx hb hr (fun t ht hW => ⟨rfl, by rw [ht]; exact hH, hS.F ht⟩) hS.2.2 dX10_moves_51
      · rw [if_pos c7] at hE
        refine lv_bipush (v := (-2)) hx hb dX10_moves_33 (by decide) ?_
        have hZ := Option.some.inj hE
        subst hZ
        exact W.iret (v := (-2)) hx hb hr (fun t ht hW => ⟨rfl, by rw [ht]; exact hH, hS.F ht⟩) hS.2.2 dX10_moves_35
    · rw [if_pos c4] at hE
      exact sX10_moves_b16 (F := F) hC hE _ _ _ hH hS (lv_sub hl [] rfl)
-- X10_night
def fX10_night (F : Nat) (L : HL) (a0 : Nat) (x1 : Int32) : Option (Int32 × HL) := (o_ob L a0 9).bind fun _ => (fX10_in F L x1 0 1).bind fun z1 => if z1.1 = 0 then (some ((-1), z1.2)) else ((o_gR z1.2 a0 9 16).bind fun v3 => (o_aI z1.2 v3 0 0).bind fun v4 => if v4 = x1 then (some ((-2), z1.2)) else ((fX10_know F z1.2 a0).bind fun z6 => (o_gR z6 a0 9 16).bind fun v7 => (o_sI z6 v7 0 0 x1).bind fun L8 => (fX10_allWidths F L8 a0).bind fun z9 => some (z9.1, z9.2)))
theorem oX10_night {F : Nat} {L : HL} {a0 : Nat} {x1 : Int32} {z : (Int32 × HL)} (hE : fX10_night F L a0 x1 = some z) : o_ob L a0 9 = some () := by
  obtain ⟨_, h, _⟩ := Option.bind_eq_some_iff.mp hE
  exact h
set_option maxHeartbeats 4000000 in
set_option maxRecDepth 100000 in
theorem sX10_night (l : Launch) (b0 : Nat) (D : va_G) (cA : Nat → ClassId) {F : Nat} {L : HL} {a0 : Nat} {x1 : Int32} {z : (Int32 × HL)} (hE : fX10_night F L a0 x1 = some z) : Met l yX10_night wsX10_night (RM 2 0 0) (Pk b0 D cA [.ref (b0 + a0), .int x1] L) (Qk b0 D cA (some (.int z.1)) z.2) 0 0 (Ab b0) := by
  refine Met.ofW (cc := cX10_night) (maxL := 2) (ret := (some .int)) (by decide) rfl ?_
  intro p ev s m args below meth c s₁ B hml hv
  obtain ⟨rfl, hH, hK⟩ := hv
  have hx := B.exec
  have hb := B.bytes
  have hr := B.returns
  have hts := atoms_spec (ws := wsX10_night) B.pre
  have hown : s.vm.findClass RX10 = some m.cls := findClass_of_methodNamed B.named
  have hlocks := B.notSynchronized
  have hC : Cx D cA p s m _ meth c cX10_night 2 RX10 wsX10_night (some .int) := ⟨hx, hb, hml, hown, hts, hK, hr, hlocks⟩
  have hS : va_S (Ab b0) s.heap s.heap [] := va_S.rf
  have hl := lv_entry ([.ref (b0 + a0), .int x1]) (n := 2) (Nat.le_of_ble_eq_true rfl)
  rw [lg_entry_eq]
  generalize (lg_sl ([.ref (b0 + a0), .int x1]) ++ List.replicate (2 - (lg_sl ([.ref (b0 + a0), .int x1])).length) Slot.unset).toArray = ls at hl ⊢
  have hl : lv_has ls 2 [(0, .ref (b0 + a0)), (1, .int x1)] := hl
  unfold fX10_night at hE
  obtain ⟨_, _, hE⟩ := Option.bind_eq_some_iff.mp hE
  refine lv_iload_n hx hb dX10_night_0 rfl (lv_at hl 1 rfl) ?_
  refine lv_iconst (v := 0) hx hb dX10_night_1 (by decide) ?_
  refine lv_iconst (v := 1) hx hb dX10_night_2 (by decide) ?_
  obtain ⟨z1, hz1, hE⟩ := Option.bind_eq_some_iff.mp hE
  refine r_callI (va_runS (As := [.int x1, .int 0, .int 1]) (rest := []) ⟨hx, hb, hml, hown, hts⟩ (sX10_in l b0 D cA hz1) (va_cwS 3 hts gX10_night_X10_in rfl rfl rfl (by decide +kernel) (rm_ok (by decide) (by decide))) (pre_S hK hH) rfl rfl hl.1 rfl (lv_room (Nat.le_of_ble_eq_true rfl)) dX10_night_3 ⟨Nat.zero_le _, Nat.zero_le _⟩) hS (fun H locs hH hS => ?_)
  refine lv_if_ne (tgt := 11) hx hb dX10_night_6 (by decide) (fun c2 => ?_) (fun c2 => ?_)
  · rw [if_neg c2] at hE
    refine lv_aload_n hx hb dX10_night_11 rfl (lv_at hl 0 rfl) ?_
    obtain ⟨v3, hv3, hE⟩ := Option.bind_eq_some_iff.mp hE
    refine r_gR 16 (C := RX10) (T := TX10) (N := 26) (ci := 9) hx hb hts (by decide +kernel) hown hK hH hv3 rfl (by decide) (hts (.fieldLink RX10 38 "KindStreetsModel" "now" "[I") (by decide +kernel)) (fun _ h9 => h9) dX10_night_12 ?_
    refine lv_iconst (v := 0) hx hb dX10_night_15 (by decide) ?_
    obtain ⟨v4, hv4, hE⟩ := Option.bind_eq_some_iff.mp hE
    refine r_iald hx hb hK hH hv4 dX10_night_16 ?_
    refine lv_iload_n hx hb dX10_night_17 rfl (lv_at hl 1 rfl) ?_
    refine lv_icmp_ne (tgt := 24) hx hb dX10_night_18 (by decide) (fun c5 => ?_) (fun c5 => ?_)
    · rw [if_neg c5] at hE
      refine lv_aload_n hx hb dX10_night_24 rfl (lv_at hl 0 rfl) ?_
      obtain ⟨z6, hz6, hE⟩ := Option.bind_eq_some_iff.mp hE
      refine r_callV (va_runV (As := []) (rest := []) ⟨hx, hb, hml, hown, hts⟩ (sX10_know l b0 D cA hz6) (cwV 0 hts gX10_night_X10_know rfl rfl rfl (by decide +kernel) (rm_ok (by decide) (by decide))) (pre_V (ci := 9) hK hH (oX10_know hz6) rfl) rfl rfl hl.1 rfl (lv_room (Nat.le_of_ble_eq_true rfl)) dX10_night_25 ⟨Nat.zero_le _, Nat.zero_le _⟩) hS (fun H locs hH hS => ?_)
      refine lv_aload_n hx hb dX10_night_28 rfl (lv_at hl 0 rfl) ?_
      obtain ⟨v7, hv7, hE⟩ := Option.bind_eq_some_iff.mp hE
      refine r_gR 16 (C := RX10) (T := TX10) (N := 26) (ci := 9) hx hb hts (by decide +kernel) hown hK hH hv7 rfl (by decide) (hts (.fieldLink RX10 38 "KindStreetsModel" "now" "[I") (by decide +kernel)) (fun _ h9 => h9) dX10_night_29 ?_
      refine lv_iconst (v := 0) hx hb dX10_night_32 (by decide) ?_
      refine lv_iload_n hx hb dX10_night_33 rfl (lv_at hl 1 rfl) ?_
      obtain ⟨L8, hL8, hE⟩ := Option.bind_eq_some_iff.mp hE
      refine r_iast hx hb hK hH hS hL8 dX10_night_34 (fun H locs hH hS => ?_)
      refine lv_aload_n hx hb dX10_night_35 rfl (lv_at hl 0 rfl) ?_
      obtain ⟨z9, hz9, hE⟩ := Option.bind_eq_some_iff.mp hE
      refine r_callI (va_runV (As := []) (rest := []) ⟨hx, hb, hml, hown, hts⟩ (sX10_allWidths l b0 D cA hz9) (cwV 0 hts gX10_night_X10_allWidths rfl rfl rfl (by decide +kernel) (rm_ok (by decide) (by decide))) (pre_V (ci := 9) hK hH (oX10_allWidths hz9) rfl) rfl rfl hl.1 rfl (lv_room (Nat.le_of_ble_eq_true rfl)) dX10_night_36 ⟨Nat.zero_le _, Nat.zero_le _⟩) hS (fun H locs hH hS => ?_)
      have hZ := Option.some.inj hE
      subst hZ
      exact W.iret (v := z9.1) hx hb hr (fun t ht hW => ⟨rfl, by rw [ht]; exact hH, hS.F ht⟩) hS.2.2 dX10_night_39
    · rw [if_pos c5] at hE
      refine lv_bipush (v := (-2)) hx hb dX10_night_21 (by decide) ?_
      have hZ := Option.some.inj hE
      subst hZ
      exact W.iret (v := (-2)) hx hb hr (fun t ht hW => ⟨rfl, by rw [ht]; exact hH, hS.F ht⟩) hS.2.2 dX10_night_23
  · rw [if_pos c2] at hE
    refine lv_iconst (v := (-1)) hx hb dX10_night_9 (by decide) ?_
    have hZ := Option.some.inj hE
    subst hZ
    exact W.iret (v := (-1)) hx hb hr (fun t ht hW => ⟨rfl, by rw [ht]; exact hH, hS.F ht⟩) hS.2.2 dX10_night_10
-- X10_undo
def fX10_undo_b24c (F : Nat) (k24 : Nat → Int32 → HL → Option (Int32 × HL)) (a0 : Nat) (x1 : Int32) (L : HL) : Option (Int32 × HL) := if 34 ≤ x1 then ((o_gR L a0 9 17).bind fun v8 => (o_aI L v8 0 0).bind fun v9 => some (v9, L)) else ((o_gR L a0 9 16).bind fun v10 => (o_gR L a0 9 18).bind fun v11 => (o_gR L a0 9 17).bind fun v12 => (o_aI L v12 0 0).bind fun v13 => (o_aI L v11 0 ((34 * v13) + x1)).bind fun v14 => (o_sI L v10 0 x1 v14).bind fun L15 => k24 a0 (x1 + 1) L15)
def fX10_undo_b24 (F : Nat) : Nat → Nat → Int32 → HL → Option (Int32 × HL)
  | 0 => fun _ _ _ => none
  | n + 1 => fun a0 x1 L => fX10_undo_b24c F (fX10_undo_b24 F n) a0 x1 L
set_option maxHeartbeats 4000000 in
set_option maxRecDepth 100000 in
theorem sX10_undo_b24c {b0 : Nat} {D : va_G} {cA : Nat → ClassId} {p : Program} {l : Launch} {ev : Env} {s : State} {m : MethodId} {args : Array Value} {below : List Frame} {meth : Method} {c : Code} {F : Nat} {z : (Int32 × HL)} {k24 : Nat → Int32 → HL → Option (Int32 × HL)} {a0 : Nat} {x1 : Int32} {L : HL} (hC : Cx D cA p s m args meth c cX10_undo 2 RX10 wsX10_undo (some .int)) (hk24 : ∀ (a0' : Nat) (x1' : Int32) (L' : HL), k24 a0' x1' L' = some z → WB b0 D cA p l ev (RM 0 0 0) s m args below meth c 2 0 0 (MQ below (Qk b0 D cA (some (.int z.1)) z.2) args s 0 0 (Ab b0)) 24 [(0, .ref (b0 + a0')), (1, .int x1')] [] L') (hE : fX10_undo_b24c F k24 a0 x1 L = some z) : WB b0 D cA p l ev (RM 0 0 0) s m args below meth c 2 0 0 (MQ below (Qk b0 D cA (some (.int z.1)) z.2) args s 0 0 (Ab b0)) 24 [(0, .ref (b0 + a0)), (1, .int x1)] [] L := by
  obtain ⟨hx, hb, hml, hown, hts, hK, hr, hlocks⟩ := id hC
  intro H locs ls hH hS hl
  unfold fX10_undo_b24c at hE
  refine lv_iload_n hx hb dX10_undo_24 rfl (lv_at hl 1 rfl) ?_
  refine lv_bipush (v := 34) hx hb dX10_undo_25 (by decide) ?_
  refine lv_icmp_ge (tgt := 58) hx hb dX10_undo_27 (by decide) (fun c7 => ?_) (fun c7 => ?_)
  · rw [if_pos c7] at hE
    refine lv_aload_n hx hb dX10_undo_58 rfl (lv_at hl 0 rfl) ?_
    obtain ⟨v8, hv8, hE⟩ := Option.bind_eq_some_iff.mp hE
    refine r_gR 17 (C := RX10) (T := TX10) (N := 26) (ci := 9) hx hb hts (by decide +kernel) hown hK hH hv8 rfl (by decide) (hts (.fieldLink RX10 41 "KindStreetsModel" "known" "[I") (by decide +kernel)) (fun _ h9 => h9) dX10_undo_59 ?_
    refine lv_iconst (v := 0) hx hb dX10_undo_62 (by decide) ?_
    obtain ⟨v9, hv9, hE⟩ := Option.bind_eq_some_iff.mp hE
    refine r_iald hx hb hK hH hv9 dX10_undo_63 ?_
    have hZ := Option.some.inj hE
    subst hZ
    exact W.iret (v := v9) hx hb hr (fun t ht hW => ⟨rfl, by rw [ht]; exact hH, hS.F ht⟩) hS.2.2 dX10_undo_64
  · rw [if_neg c7] at hE
    refine lv_aload_n hx hb dX10_undo_30 rfl (lv_at hl 0 rfl) ?_
    obtain ⟨v10, hv10, hE⟩ := Option.bind_eq_some_iff.mp hE
    refine r_gR 16 (C := RX10) (T := TX10) (N := 26) (ci := 9) hx hb hts (by decide +kernel) hown hK hH hv10 rfl (by decide) (hts (.fieldLink RX10 38 "KindStreetsModel" "now" "[I") (by decide +kernel)) (fun _ h9 => h9) dX10_undo_31 ?_
    refine lv_iload_n hx hb dX10_undo_34 rfl (lv_at hl 1 rfl) ?_
    refine lv_aload_n hx hb dX10_undo_35 rfl (lv_at hl 0 rfl) ?_
    obtain ⟨v11, hv11, hE⟩ := Option.bind_eq_some_iff.mp hE
    refine r_gR 18 (C := RX10) (T := TX10) (N := 26) (ci := 9) hx hb hts (by decide +kernel) hown hK hH hv11 rfl (by decide) (hts (.fieldLink RX10 44 "KindStreetsModel" "before" "[I") (by decide +kernel)) (fun _ h9 => h9) dX10_undo_36 ?_
    refine lv_bipush (v := 34) hx hb dX10_undo_39 (by decide) ?_
    refine lv_aload_n hx hb dX10_undo_41 rfl (lv_at hl 0 rfl) ?_
    obtain ⟨v12, hv12, hE⟩ := Option.bind_eq_some_iff.mp hE
    refine r_gR 17 (C := RX10) (T := TX10) (N := 26) (ci := 9) hx hb hts (by decide +kernel) hown hK hH hv12 rfl (by decide) (hts (.fieldLink RX10 41 "KindStreetsModel" "known" "[I") (by decide +kernel)) (fun _ h9 => h9) dX10_undo_42 ?_
    refine lv_iconst (v := 0) hx hb dX10_undo_45 (by decide) ?_
    obtain ⟨v13, hv13, hE⟩ := Option.bind_eq_some_iff.mp hE
    refine r_iald hx hb hK hH hv13 dX10_undo_46 ?_
    refine lv_imul hx hb dX10_undo_47 ?_
    refine lv_iload_n hx hb dX10_undo_48 rfl (lv_at hl 1 rfl) ?_
    refine lv_iadd hx hb dX10_undo_49 ?_
    obtain ⟨v14, hv14, hE⟩ := Option.bind_eq_some_iff.mp hE
    refine r_iald hx hb hK hH hv14 dX10_undo_50 ?_
    obtain ⟨L15, hL15, hE⟩ := Option.bind_eq_some_iff.mp hE
    refine r_iast hx hb hK hH hS hL15 dX10_undo_51 (fun H locs hH hS => ?_)
    refine lv_iinc (v := (x1 + 1)) (lv' := [(1, .int (x1 + 1)), (0, .ref (b0 + a0))]) hx hb dX10_undo_52 hl (k := 1) rfl rfl (by decide) rfl (fun ls hl => ?_)
    refine lv_goto (tgt := 24) hx hb dX10_undo_55 (by decide) ?_
    exact hk24 _ _ _ hE _ _ _ hH hS (lv_sub hl [1, 0] rfl)
theorem sX10_undo_b24 {b0 : Nat} {D : va_G} {cA : Nat → ClassId} {p : Program} {l : Launch} {ev : Env} {s : State} {m : MethodId} {args : Array Value} {below : List Frame} {meth : Method} {c : Code} {F : Nat} {z : (Int32 × HL)} (hC : Cx D cA p s m args meth c cX10_undo 2 RX10 wsX10_undo (some .int)) : ∀ (n : Nat) (a0 : Nat) (x1 : Int32) (L : HL), fX10_undo_b24 F n a0 x1 L = some z → WB b0 D cA p l ev (RM 0 0 0) s m args below meth c 2 0 0 (MQ below (Qk b0 D cA (some (.int z.1)) z.2) args s 0 0 (Ab b0)) 24 [(0, .ref (b0 + a0)), (1, .int x1)] [] L := by
  intro n
  induction n with
  | zero => intro a0 x1 L hE; cases hE
  | succ n ih => intro a0 x1 L hE; exact sX10_undo_b24c (F := F) hC ih hE
def fX10_undo (F : Nat) (L : HL) (a0 : Nat) : Option (Int32 × HL) := (o_ob L a0 9).bind fun _ => (o_gR L a0 9 17).bind fun v1 => (o_aI L v1 0 0).bind fun v2 => if v2 = 0 then (some ((-2), L)) else ((o_gR L a0 9 17).bind fun v4 => (o_aI L v4 0 0).bind fun v5 => (o_sI L v4 0 0 (v5 - 1)).bind fun L6 => fX10_undo_b24 F F a0 0 L6)
theorem oX10_undo {F : Nat} {L : HL} {a0 : Nat} {z : (Int32 × HL)} (hE : fX10_undo F L a0 = some z) : o_ob L a0 9 = some () := by
  obtain ⟨_, h, _⟩ := Option.bind_eq_some_iff.mp hE
  exact h
set_option maxHeartbeats 4000000 in
set_option maxRecDepth 100000 in
theorem sX10_undo (l : Launch) (b0 : Nat) (D : va_G) (cA : Nat → ClassId) {F : Nat} {L : HL} {a0 : Nat} {z : (Int32 × HL)} (hE : fX10_undo F L a0 = some z) : Met l yX10_undo wsX10_undo (RM 0 0 0) (Pk b0 D cA [.ref (b0 + a0)] L) (Qk b0 D cA (some (.int z.1)) z.2) 0 0 (Ab b0) := by
  refine Met.ofW (cc := cX10_undo) (maxL := 2) (ret := (some .int)) (by decide) rfl ?_
  intro p ev s m args below meth c s₁ B hml hv
  obtain ⟨rfl, hH, hK⟩ := hv
  have hx := B.exec
  have hb := B.bytes
  have hr := B.returns
  have hts := atoms_spec (ws := wsX10_undo) B.pre
  have hown : s.vm.findClass RX10 = some m.cls := findClass_of_methodNamed B.named
  have hlocks := B.notSynchronized
  have hC : Cx D cA p s m _ meth c cX10_undo 2 RX10 wsX10_undo (some .int) := ⟨hx, hb, hml, hown, hts, hK, hr, hlocks⟩
  have hS : va_S (Ab b0) s.heap s.heap [] := va_S.rf
  have hl := lv_entry ([.ref (b0 + a0)]) (n := 2) (Nat.le_of_ble_eq_true rfl)
  rw [lg_entry_eq]
  generalize (lg_sl ([.ref (b0 + a0)]) ++ List.replicate (2 - (lg_sl ([.ref (b0 + a0)])).length) Slot.unset).toArray = ls at hl ⊢
  have hl : lv_has ls 2 [(0, .ref (b0 + a0))] := hl
  unfold fX10_undo at hE
  obtain ⟨_, _, hE⟩ := Option.bind_eq_some_iff.mp hE
  refine lv_aload_n hx hb dX10_undo_0 rfl (lv_at hl 0 rfl) ?_
  obtain ⟨v1, hv1, hE⟩ := Option.bind_eq_some_iff.mp hE
  refine r_gR 17 (C := RX10) (T := TX10) (N := 26) (ci := 9) hx hb hts (by decide +kernel) hown hK hH hv1 rfl (by decide) (hts (.fieldLink RX10 41 "KindStreetsModel" "known" "[I") (by decide +kernel)) (fun _ h9 => h9) dX10_undo_1 ?_
  refine lv_iconst (v := 0) hx hb dX10_undo_4 (by decide) ?_
  obtain ⟨v2, hv2, hE⟩ := Option.bind_eq_some_iff.mp hE
  refine r_iald hx hb hK hH hv2 dX10_undo_5 ?_
  refine lv_if_ne (tgt := 12) hx hb dX10_undo_6 (by decide) (fun c3 => ?_) (fun c3 => ?_)
  · rw [if_neg c3] at hE
    refine lv_aload_n hx hb dX10_undo_12 rfl (lv_at hl 0 rfl) ?_
    obtain ⟨v4, hv4, hE⟩ := Option.bind_eq_some_iff.mp hE
    refine r_gR 17 (C := RX10) (T := TX10) (N := 26) (ci := 9) hx hb hts (by decide +kernel) hown hK hH hv4 rfl (by decide) (hts (.fieldLink RX10 41 "KindStreetsModel" "known" "[I") (by decide +kernel)) (fun _ h9 => h9) dX10_undo_13 ?_
    refine lv_iconst (v := 0) hx hb dX10_undo_16 (by decide) ?_
    refine lv_dup2_11 hx hb dX10_undo_17 rfl rfl ?_
    obtain ⟨v5, hv5, hE⟩ := Option.bind_eq_some_iff.mp hE
    refine r_iald hx hb hK hH hv5 dX10_undo_18 ?_
    refine lv_iconst (v := 1) hx hb dX10_undo_19 (by decide) ?_
    refine lv_isub hx hb dX10_undo_20 ?_
    obtain ⟨L6, hL6, hE⟩ := Option.bind_eq_some_iff.mp hE
    refine r_iast hx hb hK hH hS hL6 dX10_undo_21 (fun H locs hH hS => ?_)
    refine lv_iconst (v := 0) hx hb dX10_undo_22 (by decide) ?_
    refine lv_istore_n (lv' := [(1, .int 0), (0, .ref (b0 + a0))]) hx hb dX10_undo_23 rfl hl (by decide) rfl (fun ls hl => ?_)
    exact sX10_undo_b24 (F := F) hC F _ _ _ hE _ _ _ hH hS (lv_sub hl [1, 0] rfl)
  · rw [if_pos c3] at hE
    refine lv_bipush (v := (-2)) hx hb dX10_undo_9 (by decide) ?_
    have hZ := Option.some.inj hE
    subst hZ
    exact W.iret (v := (-2)) hx hb hr (fun t ht hW => ⟨rfl, by rw [ht]; exact hH, hS.F ht⟩) hS.2.2 dX10_undo_11
-- X10_now
def fX10_now_b70 (F : Nat) (k42 : Nat → Int32 → Int32 → HL → Option (Int32 × HL)) (a0 : Nat) (x3 : Int32) (y0 : Int32) (y1 : Int32) (L : HL) : Option (Int32 × HL) := k42 a0 (y1 + y0) (x3 + 1) L
set_option maxHeartbeats 4000000 in
set_option maxRecDepth 100000 in
theorem sX10_now_b70 {b0 : Nat} {D : va_G} {cA : Nat → ClassId} {p : Program} {l : Launch} {ev : Env} {s : State} {m : MethodId} {args : Array Value} {below : List Frame} {meth : Method} {c : Code} {F : Nat} {z : (Int32 × HL)} {k42 : Nat → Int32 → Int32 → HL → Option (Int32 × HL)} {a0 : Nat} {x3 : Int32} {y0 : Int32} {y1 : Int32} {L : HL} (hC : Cx D cA p s m args meth c cX10_now 4 RX10 wsX10_now (some .int)) (hk42 : ∀ (a0' : Nat) (x2' : Int32) (x3' : Int32) (L' : HL), k42 a0' x2' x3' L' = some z → WB b0 D cA p l ev (RM 2 0 0) s m args below meth c 4 0 0 (MQ below (Qk b0 D cA (some (.int z.1)) z.2) args s 0 0 (Ab b0)) 42 [(0, .ref (b0 + a0')), (2, .int x2'), (3, .int x3')] [] L') (hE : fX10_now_b70 F k42 a0 x3 y0 y1 L = some z) : WB b0 D cA p l ev (RM 2 0 0) s m args below meth c 4 0 0 (MQ below (Qk b0 D cA (some (.int z.1)) z.2) args s 0 0 (Ab b0)) 70 [(0, .ref (b0 + a0)), (3, .int x3)] [.int y0, .int y1] L := by
  obtain ⟨hx, hb, hml, hown, hts, hK, hr, hlocks⟩ := id hC
  intro H locs ls hH hS hl
  unfold fX10_now_b70 at hE
  refine lv_iadd hx hb dX10_now_70 ?_
  refine lv_istore_n (lv' := [(2, .int (y1 + y0)), (0, .ref (b0 + a0)), (3, .int x3)]) hx hb dX10_now_71 rfl hl (by decide) rfl (fun ls hl => ?_)
  refine lv_iinc (v := (x3 + 1)) (lv' := [(3, .int (x3 + 1)), (2, .int (y1 + y0)), (0, .ref (b0 + a0))]) hx hb dX10_now_72 hl (k := 2) rfl rfl (by decide) rfl (fun ls hl => ?_)
  refine lv_goto (tgt := 42) hx hb dX10_now_75 (by decide) ?_
  exact hk42 _ _ _ _ hE _ _ _ hH hS (lv_sub hl [2, 1, 0] rfl)
def fX10_now_b42c (F : Nat) (k42 : Nat → Int32 → Int32 → HL → Option (Int32 × HL)) (a0 : Nat) (x2 : Int32) (x3 : Int32) (L : HL) : Option (Int32 × HL) := (o_gR L a0 9 3).bind fun v7 => (o_aI L v7 0 0).bind fun v8 => if v8 ≤ x3 then (some (x2, L)) else ((o_gR L a0 9 16).bind fun v10 => (o_aI L v10 0 (10 + x3)).bind fun v11 => if v11 ≤ 0 then (fX10_now_b70 F k42 a0 x3 0 x2 L) else (fX10_now_b70 F k42 a0 x3 1 x2 L))
def fX10_now_b42 (F : Nat) : Nat → Nat → Int32 → Int32 → HL → Option (Int32 × HL)
  | 0 => fun _ _ _ _ => none
  | n + 1 => fun a0 x2 x3 L => fX10_now_b42c F (fX10_now_b42 F n) a0 x2 x3 L
set_option maxHeartbeats 4000000 in
set_option maxRecDepth 100000 in
theorem sX10_now_b42c {b0 : Nat} {D : va_G} {cA : Nat → ClassId} {p : Program} {l : Launch} {ev : Env} {s : State} {m : MethodId} {args : Array Value} {below : List Frame} {meth : Method} {c : Code} {F : Nat} {z : (Int32 × HL)} {k42 : Nat → Int32 → Int32 → HL → Option (Int32 × HL)} {a0 : Nat} {x2 : Int32} {x3 : Int32} {L : HL} (hC : Cx D cA p s m args meth c cX10_now 4 RX10 wsX10_now (some .int)) (hk42 : ∀ (a0' : Nat) (x2' : Int32) (x3' : Int32) (L' : HL), k42 a0' x2' x3' L' = some z → WB b0 D cA p l ev (RM 2 0 0) s m args below meth c 4 0 0 (MQ below (Qk b0 D cA (some (.int z.1)) z.2) args s 0 0 (Ab b0)) 42 [(0, .ref (b0 + a0')), (2, .int x2'), (3, .int x3')] [] L') (hE : fX10_now_b42c F k42 a0 x2 x3 L = some z) : WB b0 D cA p l ev (RM 2 0 0) s m args below meth c 4 0 0 (MQ below (Qk b0 D cA (some (.int z.1)) z.2) args s 0 0 (Ab b0)) 42 [(0, .ref (b0 + a0)), (2, .int x2), (3, .int x3)] [] L := by
  obtain ⟨hx, hb, hml, hown, hts, hK, hr, hlocks⟩ := id hC
  intro H locs ls hH hS hl
  unfold fX10_now_b42c at hE
  refine lv_iload_n hx hb dX10_now_42 rfl (lv_at hl 2 rfl) ?_
  refine lv_aload_n hx hb dX10_now_43 rfl (lv_at hl 0 rfl) ?_
  obtain ⟨v7, hv7, hE⟩ := Option.bind_eq_some_iff.mp hE
  refine r_gR 3 (C := RX10) (T := TX10) (N := 26) (ci := 9) hx hb hts (by decide +kernel) hown hK hH hv7 rfl (by decide) (hts (.fieldLink RX10 17 "KindStreetsModel" "streets" "[I") (by decide +kernel)) (fun _ h9 => h9) dX10_now_44 ?_
  refine lv_iconst (v := 0) hx hb dX10_now_47 (by decide) ?_
  obtain ⟨v8, hv8, hE⟩ := Option.bind_eq_some_iff.mp hE
  refine r_iald hx hb hK hH hv8 dX10_now_48 ?_
  refine lv_icmp_ge (tgt := 78) hx hb dX10_now_49 (by decide) (fun c9 => ?_) (fun c9 => ?_)
  · rw [if_pos c9] at hE
    refine lv_iload_n hx hb dX10_now_78 rfl (lv_at hl 1 rfl) ?_
    have hZ := Option.some.inj hE
    subst hZ
    exact W.iret (v := x2) hx hb hr (fun t ht hW => ⟨rfl, by rw [ht]; exact hH, hS.F ht⟩) hS.2.2 dX10_now_79
  · rw [if_neg c9] at hE
    refine lv_iload_n hx hb dX10_now_52 rfl (lv_at hl 1 rfl) ?_
    refine lv_aload_n hx hb dX10_now_53 rfl (lv_at hl 0 rfl) ?_
    obtain ⟨v10, hv10, hE⟩ := Option.bind_eq_some_iff.mp hE
    refine r_gR 16 (C := RX10) (T := TX10) (N := 26) (ci := 9) hx hb hts (by decide +kernel) hown hK hH hv10 rfl (by decide) (hts (.fieldLink RX10 38 "KindStreetsModel" "now" "[I") (by decide +kernel)) (fun _ h9 => h9) dX10_now_54 ?_
    refine lv_bipush (v := 10) hx hb dX10_now_57 (by decide) ?_
    refine lv_iload_n hx hb dX10_now_59 rfl (lv_at hl 2 rfl) ?_
    refine lv_iadd hx hb dX10_now_60 ?_
    obtain ⟨v11, hv11, hE⟩ := Option.bind_eq_some_iff.mp hE
    refine r_iald hx hb hK hH hv11 dX10_now_61 ?_
    refine lv_if_le (tgt := 69) hx hb dX10_now_62 (by decide) (fun c12 => ?_) (fun c12 => ?_)
    · rw [if_pos c12] at hE
      refine lv_iconst (v := 0) hx hb dX10_now_69 (by decide) ?_
      exact sX10_now_b70 (F := F) hC hk42 hE _ _ _ hH hS (lv_sub hl [0, 2] rfl)
    · rw [if_neg c12] at hE
      refine lv_iconst (v := 1) hx hb dX10_now_65 (by decide) ?_
      refine lv_goto (tgt := 70) hx hb dX10_now_66 (by decide) ?_
      exact sX10_now_b70 (F := F) hC hk42 hE _ _ _ hH hS (lv_sub hl [0, 2] rfl)
theorem sX10_now_b42 {b0 : Nat} {D : va_G} {cA : Nat → ClassId} {p : Program} {l : Launch} {ev : Env} {s : State} {m : MethodId} {args : Array Value} {below : List Frame} {meth : Method} {c : Code} {F : Nat} {z : (Int32 × HL)} (hC : Cx D cA p s m args meth c cX10_now 4 RX10 wsX10_now (some .int)) : ∀ (n : Nat) (a0 : Nat) (x2 : Int32) (x3 : Int32) (L : HL), fX10_now_b42 F n a0 x2 x3 L = some z → WB b0 D cA p l ev (RM 2 0 0) s m args below meth c 4 0 0 (MQ below (Qk b0 D cA (some (.int z.1)) z.2) args s 0 0 (Ab b0)) 42 [(0, .ref (b0 + a0)), (2, .int x2), (3, .int x3)] [] L := by
  intro n
  induction n with
  | zero => intro a0 x2 x3 L hE; cases hE
  | succ n ih => intro a0 x2 x3 L hE; exact sX10_now_b42c (F := F) hC ih hE
def fX10_now (F : Nat) (L : HL) (a0 : Nat) (x1 : Int32) : Option (Int32 × HL) := (o_ob L a0 9).bind fun _ => if x1 = 0 then ((o_gR L a0 9 16).bind fun v2 => (o_aI L v2 0 0).bind fun v3 => some (v3, L)) else if x1 = 1 then ((fX10_allWidths F L a0).bind fun z5 => some (z5.1, z5.2)) else if x1 = 2 then (fX10_now_b42 F F a0 0 0 L) else some ((-1), L)
theorem oX10_now {F : Nat} {L : HL} {a0 : Nat} {x1 : Int32} {z : (Int32 × HL)} (hE : fX10_now F L a0 x1 = some z) : o_ob L a0 9 = some () := by
  obtain ⟨_, h, _⟩ := Option.bind_eq_some_iff.mp hE
  exact h
set_option maxHeartbeats 4000000 in
set_option maxRecDepth 100000 in
theorem sX10_now (l : Launch) (b0 : Nat) (D : va_G) (cA : Nat → ClassId) {F : Nat} {L : HL} {a0 : Nat} {x1 : Int32} {z : (Int32 × HL)} (hE : fX10_now F L a0 x1 = some z) : Met l yX10_now wsX10_now (RM 2 0 0) (Pk b0 D cA [.ref (b0 + a0), .int x1] L) (Qk b0 D cA (some (.int z.1)) z.2) 0 0 (Ab b0) := by
  refine Met.ofW (cc := cX10_now) (maxL := 4) (ret := (some .int)) (by decide) rfl ?_
  intro p ev s m args below meth c s₁ B hml hv
  obtain ⟨rfl, hH, hK⟩ := hv
  have hx := B.exec
  have hb := B.bytes
  have hr := B.returns
  have hts := atoms_spec (ws := wsX10_now) B.pre
  have hown : s.vm.findClass RX10 = some m.cls := findClass_of_methodNamed B.named
  have hlocks := B.notSynchronized
  have hC : Cx D cA p s m _ meth c cX10_now 4 RX10 wsX10_now (some .int) := ⟨hx, hb, hml, hown, hts, hK, hr, hlocks⟩
  have hS : va_S (Ab b0) s.heap s.heap [] := va_S.rf
  have hl := lv_entry ([.ref (b0 + a0), .int x1]) (n := 4) (Nat.le_of_ble_eq_true rfl)
  rw [lg_entry_eq]
  generalize (lg_sl ([.ref (b0 + a0), .int x1]) ++ List.replicate (4 - (lg_sl ([.ref (b0 + a0), .int x1])).length) Slot.unset).toArray = ls at hl ⊢
  have hl : lv_has ls 4 [(0, .ref (b0 + a0)), (1, .int x1)] := hl
  unfold fX10_now at hE
  obtain ⟨_, _, hE⟩ := Option.bind_eq_some_iff.mp hE
  refine lv_iconst (v := 0) hx hb dX10_now_0 (by decide) ?_
  refine lv_istore_n (lv' := [(2, .int 0), (0, .ref (b0 + a0)), (1, .int x1)]) hx hb dX10_now_1 rfl hl (by decide) rfl (fun ls hl => ?_)
  refine lv_iload_n hx hb dX10_now_2 rfl (lv_at hl 2 rfl) ?_
  by_cases c1 : x1 = 0
  · rw [if_pos c1] at hE
    refine lv_tableIn (tgt := 28) (off := 25) hx hb dX10_now_3 (by rw [c1]; decide) (by rw [c1]; decide) (by rw [c1]; rfl) (by decide) ?_
    refine lv_aload_n hx hb dX10_now_28 rfl (lv_at hl 1 rfl) ?_
    obtain ⟨v2, hv2, hE⟩ := Option.bind_eq_some_iff.mp hE
    refine r_gR 16 (C := RX10) (T := TX10) (N := 26) (ci := 9) hx hb hts (by decide +kernel) hown hK hH hv2 rfl (by decide) (hts (.fieldLink RX10 38 "KindStreetsModel" "now" "[I") (by decide +kernel)) (fun _ h9 => h9) dX10_now_29 ?_
    refine lv_iconst (v := 0) hx hb dX10_now_32 (by decide) ?_
    obtain ⟨v3, hv3, hE⟩ := Option.bind_eq_some_iff.mp hE
    refine r_iald hx hb hK hH hv3 dX10_now_33 ?_
    have hZ := Option.some.inj hE
    subst hZ
    exact W.iret (v := v3) hx hb hr (fun t ht hW => ⟨rfl, by rw [ht]; exact hH, hS.F ht⟩) hS.2.2 dX10_now_34
  rw [if_neg c1] at hE
  by_cases c4 : x1 = 1
  · rw [if_pos c4] at hE
    refine lv_tableIn (tgt := 35) (off := 32) hx hb dX10_now_3 (by rw [c4]; decide) (by rw [c4]; decide) (by rw [c4]; rfl) (by decide) ?_
    refine lv_aload_n hx hb dX10_now_35 rfl (lv_at hl 1 rfl) ?_
    obtain ⟨z5, hz5, hE⟩ := Option.bind_eq_some_iff.mp hE
    refine r_callI (va_runV (As := []) (rest := []) ⟨hx, hb, hml, hown, hts⟩ (sX10_allWidths l b0 D cA hz5) (cwV 0 hts gX10_now_X10_allWidths rfl rfl rfl (by decide +kernel) (rm_ok (by decide) (by decide))) (pre_V (ci := 9) hK hH (oX10_allWidths hz5) rfl) rfl rfl hl.1 rfl (lv_room (Nat.le_of_ble_eq_true rfl)) dX10_now_36 ⟨Nat.zero_le _, Nat.zero_le _⟩) hS (fun H locs hH hS => ?_)
    have hZ := Option.some.inj hE
    subst hZ
    exact W.iret (v := z5.1) hx hb hr (fun t ht hW => ⟨rfl, by rw [ht]; exact hH, hS.F ht⟩) hS.2.2 dX10_now_39
  rw [if_neg c4] at hE
  by_cases c6 : x1 = 2
  · rw [if_pos c6] at hE
    refine lv_tableIn (tgt := 40) (off := 37) hx hb dX10_now_3 (by rw [c6]; decide) (by rw [c6]; decide) (by rw [c6]; rfl) (by decide) ?_
    refine lv_iconst (v := 0) hx hb dX10_now_40 (by decide) ?_
    refine lv_istore_n (lv' := [(3, .int 0), (2, .int 0), (0, .ref (b0 + a0)), (1, .int x1)]) hx hb dX10_now_41 rfl hl (by decide) rfl (fun ls hl => ?_)
    exact sX10_now_b42 (F := F) hC F _ _ _ _ hE _ _ _ hH hS (lv_sub hl [2, 1, 0] rfl)
  rw [if_neg c6] at hE
  refine lv_tableOut (tgt := 80) hx hb dX10_now_3 (by have q0 := sw_ne (k := 0) (by decide) c1; have q1 := sw_ne (k := 1) (by decide) c4; have q2 := sw_ne (k := 2) (by decide) c6; omega) (by decide) ?_
  refine lv_iconst (v := (-1)) hx hb dX10_now_80 (by decide) ?_
  have hZ := Option.some.inj hE
  subst hZ
  exact W.iret (v := (-1)) hx hb hr (fun t ht hW => ⟨rfl, by rw [ht]; exact hH, hS.F ht⟩) hS.2.2 dX10_now_81
-- X10_openBy
def fX10_openBy_b31 (F : Nat) (k4 : Nat → Int32 → Int32 → Int32 → HL → Option (Int32 × HL)) (a0 : Nat) (x1 : Int32) (x3 : Int32) (y0 : Int32) (y1 : Int32) (L : HL) : Option (Int32 × HL) := k4 a0 x1 (y1 ||| y0) (x3 + 1) L
set_option maxHeartbeats 4000000 in
set_option maxRecDepth 100000 in
theorem sX10_openBy_b31 {b0 : Nat} {D : va_G} {cA : Nat → ClassId} {p : Program} {l : Launch} {ev : Env} {s : State} {m : MethodId} {args : Array Value} {below : List Frame} {meth : Method} {c : Code} {F : Nat} {z : (Int32 × HL)} {k4 : Nat → Int32 → Int32 → Int32 → HL → Option (Int32 × HL)} {a0 : Nat} {x1 : Int32} {x3 : Int32} {y0 : Int32} {y1 : Int32} {L : HL} (hC : Cx D cA p s m args meth c cX10_openBy 4 RX10 wsX10_openBy (some .int)) (hk4 : ∀ (a0' : Nat) (x1' : Int32) (x2' : Int32) (x3' : Int32) (L' : HL), k4 a0' x1' x2' x3' L' = some z → WB b0 D cA p l ev (RM 1 0 0) s m args below meth c 4 0 0 (MQ below (Qk b0 D cA (some (.int z.1)) z.2) args s 0 0 (Ab b0)) 4 [(0, .ref (b0 + a0')), (1, .int x1'), (2, .int x2'), (3, .int x3')] [] L') (hE : fX10_openBy_b31 F k4 a0 x1 x3 y0 y1 L = some z) : WB b0 D cA p l ev (RM 1 0 0) s m args below meth c 4 0 0 (MQ below (Qk b0 D cA (some (.int z.1)) z.2) args s 0 0 (Ab b0)) 31 [(0, .ref (b0 + a0)), (1, .int x1), (3, .int x3)] [.int y0, .int y1] L := by
  obtain ⟨hx, hb, hml, hown, hts, hK, hr, hlocks⟩ := id hC
  intro H locs ls hH hS hl
  unfold fX10_openBy_b31 at hE
  refine lv_ior hx hb dX10_openBy_31 ?_
  refine lv_istore_n (lv' := [(2, .int (y1 ||| y0)), (0, .ref (b0 + a0)), (1, .int x1), (3, .int x3)]) hx hb dX10_openBy_32 rfl hl (by decide) rfl (fun ls hl => ?_)
  refine lv_iinc (v := (x3 + 1)) (lv' := [(3, .int (x3 + 1)), (2, .int (y1 ||| y0)), (0, .ref (b0 + a0)), (1, .int x1)]) hx hb dX10_openBy_33 hl (k := 3) rfl rfl (by decide) rfl (fun ls hl => ?_)
  refine lv_goto (tgt := 4) hx hb dX10_openBy_36 (by decide) ?_
  exact hk4 _ _ _ _ _ hE _ _ _ hH hS (lv_sub hl [2, 3, 1, 0] rfl)
def fX10_openBy_b4c (F : Nat) (k4 : Nat → Int32 → Int32 → Int32 → HL → Option (Int32 × HL)) (a0 : Nat) (x1 : Int32) (x2 : Int32) (x3 : Int32) (L : HL) : Option (Int32 × HL) := (o_gR L a0 9 3).bind fun v1 => (o_aI L v1 0 0).bind fun v2 => if v2 ≤ x3 then (some (x2, L)) else ((fX10_widthOf F L a0 x3).bind fun z4 => if z4.1 < x1 then (fX10_openBy_b31 F k4 a0 x1 x3 0 x2 z4.2) else (fX10_openBy_b31 F k4 a0 x1 x3 ((1 : Int32) <<< (x3 &&& 31)) x2 z4.2))
def fX10_openBy_b4 (F : Nat) : Nat → Nat → Int32 → Int32 → Int32 → HL → Option (Int32 × HL)
  | 0 => fun _ _ _ _ _ => none
  | n + 1 => fun a0 x1 x2 x3 L => fX10_openBy_b4c F (fX10_openBy_b4 F n) a0 x1 x2 x3 L
set_option maxHeartbeats 4000000 in
set_option maxRecDepth 100000 in
theorem sX10_openBy_b4c {b0 : Nat} {D : va_G} {cA : Nat → ClassId} {p : Program} {l : Launch} {ev : Env} {s : State} {m : MethodId} {args : Array Value} {below : List Frame} {meth : Method} {c : Code} {F : Nat} {z : (Int32 × HL)} {k4 : Nat → Int32 → Int32 → Int32 → HL → Option (Int32 × HL)} {a0 : Nat} {x1 : Int32} {x2 : Int32} {x3 : Int32} {L : HL} (hC : Cx D cA p s m args meth c cX10_openBy 4 RX10 wsX10_openBy (some .int)) (hk4 : ∀ (a0' : Nat) (x1' : Int32) (x2' : Int32) (x3' : Int32) (L' : HL), k4 a0' x1' x2' x3' L' = some z → WB b0 D cA p l ev (RM 1 0 0) s m args below meth c 4 0 0 (MQ below (Qk b0 D cA (some (.int z.1)) z.2) args s 0 0 (Ab b0)) 4 [(0, .ref (b0 + a0')), (1, .int x1'), (2, .int x2'), (3, .int x3')] [] L') (hE : fX10_openBy_b4c F k4 a0 x1 x2 x3 L = some z) : WB b0 D cA p l ev (RM 1 0 0) s m args below meth c 4 0 0 (MQ below (Qk b0 D cA (some (.int z.1)) z.2) args s 0 0 (Ab b0)) 4 [(0, .ref (b0 + a0)), (1, .int x1), (2, .int x2), (3, .int x3)] [] L := by
  obtain ⟨hx, hb, hml, hown, hts, hK, hr, hlocks⟩ := id hC
  intro H locs ls hH hS hl
  unfold fX10_openBy_b4c at hE
  refine lv_iload_n hx hb dX10_openBy_4 rfl (lv_at hl 3 rfl) ?_
  refine lv_aload_n hx hb dX10_openBy_5 rfl (lv_at hl 0 rfl) ?_
  obtain ⟨v1, hv1, hE⟩ := Option.bind_eq_some_iff.mp hE
  refine r_gR 3 (C := RX10) (T := TX10) (N := 26) (ci := 9) hx hb hts (by decide +kernel) hown hK hH hv1 rfl (by decide) (hts (.fieldLink RX10 17 "KindStreetsModel" "streets" "[I") (by decide +kernel)) (fun _ h9 => h9) dX10_openBy_6 ?_
  refine lv_iconst (v := 0) hx hb dX10_openBy_9 (by decide) ?_
  obtain ⟨v2, hv2, hE⟩ := Option.bind_eq_some_iff.mp hE
  refine r_iald hx hb hK hH hv2 dX10_openBy_10 ?_
  refine lv_icmp_ge (tgt := 39) hx hb dX10_openBy_11 (by decide) (fun c3 => ?_) (fun c3 => ?_)
  · rw [if_pos c3] at hE
    refine lv_iload_n hx hb dX10_openBy_39 rfl (lv_at hl 2 rfl) ?_
    have hZ := Option.some.inj hE
    subst hZ
    exact W.iret (v := x2) hx hb hr (fun t ht hW => ⟨rfl, by rw [ht]; exact hH, hS.F ht⟩) hS.2.2 dX10_openBy_40
  · rw [if_neg c3] at hE
    refine lv_iload_n hx hb dX10_openBy_14 rfl (lv_at hl 2 rfl) ?_
    refine lv_aload_n hx hb dX10_openBy_15 rfl (lv_at hl 0 rfl) ?_
    refine lv_iload_n hx hb dX10_openBy_16 rfl (lv_at hl 3 rfl) ?_
    obtain ⟨z4, hz4, hE⟩ := Option.bind_eq_some_iff.mp hE
    refine r_callI (va_runV (As := [.int x3]) (rest := [.int x2]) ⟨hx, hb, hml, hown, hts⟩ (sX10_widthOf l b0 D cA hz4) (cwV 1 hts gX10_openBy_X10_widthOf rfl rfl rfl (by decide +kernel) (rm_ok (by decide) (by decide))) (pre_V (ci := 9) hK hH (oX10_widthOf hz4) rfl) rfl rfl hl.1 rfl (lv_room (Nat.le_of_ble_eq_true rfl)) dX10_openBy_17 ⟨Nat.zero_le _, Nat.zero_le _⟩) hS (fun H locs hH hS => ?_)
    refine lv_iload_n hx hb dX10_openBy_20 rfl (lv_at hl 1 rfl) ?_
    refine lv_icmp_lt (tgt := 30) hx hb dX10_openBy_21 (by decide) (fun c5 => ?_) (fun c5 => ?_)
    · rw [if_pos c5] at hE
      refine lv_iconst (v := 0) hx hb dX10_openBy_30 (by decide) ?_
      exact sX10_openBy_b31 (F := F) hC hk4 hE _ _ _ hH hS (lv_sub hl [0, 1, 3] rfl)
    · rw [if_neg c5] at hE
      refine lv_iconst (v := 1) hx hb dX10_openBy_24 (by decide) ?_
      refine lv_iload_n hx hb dX10_openBy_25 rfl (lv_at hl 3 rfl) ?_
      refine lv_ishl hx hb dX10_openBy_26 ?_
      refine lv_goto (tgt := 31) hx hb dX10_openBy_27 (by decide) ?_
      exact sX10_openBy_b31 (F := F) hC hk4 hE _ _ _ hH hS (lv_sub hl [0, 1, 3] rfl)
theorem sX10_openBy_b4 {b0 : Nat} {D : va_G} {cA : Nat → ClassId} {p : Program} {l : Launch} {ev : Env} {s : State} {m : MethodId} {args : Array Value} {below : List Frame} {meth : Method} {c : Code} {F : Nat} {z : (Int32 × HL)} (hC : Cx D cA p s m args meth c cX10_openBy 4 RX10 wsX10_openBy (some .int)) : ∀ (n : Nat) (a0 : Nat) (x1 : Int32) (x2 : Int32) (x3 : Int32) (L : HL), fX10_openBy_b4 F n a0 x1 x2 x3 L = some z → WB b0 D cA p l ev (RM 1 0 0) s m args below meth c 4 0 0 (MQ below (Qk b0 D cA (some (.int z.1)) z.2) args s 0 0 (Ab b0)) 4 [(0, .ref (b0 + a0)), (1, .int x1), (2, .int x2), (3, .int x3)] [] L := by
  intro n
  induction n with
  | zero => intro a0 x1 x2 x3 L hE; cases hE
  | succ n ih => intro a0 x1 x2 x3 L hE; exact sX10_openBy_b4c (F := F) hC ih hE
def fX10_openBy (F : Nat) (L : HL) (a0 : Nat) (x1 : Int32) : Option (Int32 × HL) := (o_ob L a0 9).bind fun _ => fX10_openBy_b4 F F a0 x1 0 0 L
theorem oX10_openBy {F : Nat} {L : HL} {a0 : Nat} {x1 : Int32} {z : (Int32 × HL)} (hE : fX10_openBy F L a0 x1 = some z) : o_ob L a0 9 = some () := by
  obtain ⟨_, h, _⟩ := Option.bind_eq_some_iff.mp hE
  exact h
set_option maxHeartbeats 4000000 in
set_option maxRecDepth 100000 in
theorem sX10_openBy (l : Launch) (b0 : Nat) (D : va_G) (cA : Nat → ClassId) {F : Nat} {L : HL} {a0 : Nat} {x1 : Int32} {z : (Int32 × HL)} (hE : fX10_openBy F L a0 x1 = some z) : Met l yX10_openBy wsX10_openBy (RM 1 0 0) (Pk b0 D cA [.ref (b0 + a0), .int x1] L) (Qk b0 D cA (some (.int z.1)) z.2) 0 0 (Ab b0) := by
  refine Met.ofW (cc := cX10_openBy) (maxL := 4) (ret := (some .int)) (by decide) rfl ?_
  intro p ev s m args below meth c s₁ B hml hv
  obtain ⟨rfl, hH, hK⟩ := hv
  have hx := B.exec
  have hb := B.bytes
  have hr := B.returns
  have hts := atoms_spec (ws := wsX10_openBy) B.pre
  have hown : s.vm.findClass RX10 = some m.cls := findClass_of_methodNamed B.named
  have hlocks := B.notSynchronized
  have hC : Cx D cA p s m _ meth c cX10_openBy 4 RX10 wsX10_openBy (some .int) := ⟨hx, hb, hml, hown, hts, hK, hr, hlocks⟩
  have hS : va_S (Ab b0) s.heap s.heap [] := va_S.rf
  have hl := lv_entry ([.ref (b0 + a0), .int x1]) (n := 4) (Nat.le_of_ble_eq_true rfl)
  rw [lg_entry_eq]
  generalize (lg_sl ([.ref (b0 + a0), .int x1]) ++ List.replicate (4 - (lg_sl ([.ref (b0 + a0), .int x1])).length) Slot.unset).toArray = ls at hl ⊢
  have hl : lv_has ls 4 [(0, .ref (b0 + a0)), (1, .int x1)] := hl
  unfold fX10_openBy at hE
  obtain ⟨_, _, hE⟩ := Option.bind_eq_some_iff.mp hE
  refine lv_iconst (v := 0) hx hb dX10_openBy_0 (by decide) ?_
  refine lv_istore_n (lv' := [(2, .int 0), (0, .ref (b0 + a0)), (1, .int x1)]) hx hb dX10_openBy_1 rfl hl (by decide) rfl (fun ls hl => ?_)
  refine lv_iconst (v := 0) hx hb dX10_openBy_2 (by decide) ?_
  refine lv_istore_n (lv' := [(3, .int 0), (2, .int 0), (0, .ref (b0 + a0)), (1, .int x1)]) hx hb dX10_openBy_3 rfl hl (by decide) rfl (fun ls hl => ?_)
  exact sX10_openBy_b4 (F := F) hC F _ _ _ _ _ hE _ _ _ hH hS (lv_sub hl [2, 3, 1, 0] rfl)
-- X10_wayBy
def fX10_wayBy_b121 (F : Nat) (k34 : Nat → Int32 → Int32 → Int32 → Int32 → Int32 → Int32 → HL → Option (Int32 × HL)) (a0 : Nat) (x2 : Int32) (x3 : Int32) (x4 : Int32) (x5 : Int32) (x7 : Int32) (y0 : Int32) (y1 : Int32) (L : HL) : Option (Int32 × HL) := k34 a0 x2 x3 x4 x5 (y1 ||| y0) (x7 + 1) L
set_option maxHeartbeats 4000000 in
set_option maxRecDepth 100000 in
theorem sX10_wayBy_b121 {b0 : Nat} {D : va_G} {cA : Nat → ClassId} {p : Program} {l : Launch} {ev : Env} {s : State} {m : MethodId} {args : Array Value} {below : List Frame} {meth : Method} {c : Code} {F : Nat} {z : (Int32 × HL)} {k34 : Nat → Int32 → Int32 → Int32 → Int32 → Int32 → Int32 → HL → Option (Int32 × HL)} {a0 : Nat} {x2 : Int32} {x3 : Int32} {x4 : Int32} {x5 : Int32} {x7 : Int32} {y0 : Int32} {y1 : Int32} {L : HL} (hC : Cx D cA p s m args meth c cX10_wayBy 9 RX10 wsX10_wayBy (some .int)) (hk34 : ∀ (a0' : Nat) (x2' : Int32) (x3' : Int32) (x4' : Int32) (x5' : Int32) (x6' : Int32) (x7' : Int32) (L' : HL), k34 a0' x2' x3' x4' x5' x6' x7' L' = some z → WB b0 D cA p l ev (RM 1 0 0) s m args below meth c 9 0 0 (MQ below (Qk b0 D cA (some (.int z.1)) z.2) args s 0 0 (Ab b0)) 34 [(0, .ref (b0 + a0')), (2, .int x2'), (3, .int x3'), (4, .int x4'), (5, .int x5'), (6, .int x6'), (7, .int x7')] [] L') (hE : fX10_wayBy_b121 F k34 a0 x2 x3 x4 x5 x7 y0 y1 L = some z) : WB b0 D cA p l ev (RM 1 0 0) s m args below meth c 9 0 0 (MQ below (Qk b0 D cA (some (.int z.1)) z.2) args s 0 0 (Ab b0)) 121 [(0, .ref (b0 + a0)), (2, .int x2), (3, .int x3), (4, .int x4), (5, .int x5), (7, .int x7)] [.int y0, .int y1] L := by
  obtain ⟨hx, hb, hml, hown, hts, hK, hr, hlocks⟩ := id hC
  intro H locs ls hH hS hl
  unfold fX10_wayBy_b121 at hE
  refine lv_ior hx hb dX10_wayBy_121 ?_
  refine lv_istore (lv' := [(6, .int (y1 ||| y0)), (0, .ref (b0 + a0)), (2, .int x2), (3, .int x3), (4, .int x4), (5, .int x5), (7, .int x7)]) hx hb dX10_wayBy_122 hl (by decide) rfl (fun ls hl => ?_)
  refine lv_iinc (v := (x7 + 1)) (lv' := [(7, .int (x7 + 1)), (6, .int (y1 ||| y0)), (0, .ref (b0 + a0)), (2, .int x2), (3, .int x3), (4, .int x4), (5, .int x5)]) hx hb dX10_wayBy_124 hl (k := 6) rfl rfl (by decide) rfl (fun ls hl => ?_)
  refine lv_goto (tgt := 34) hx hb dX10_wayBy_127 (by decide) ?_
  exact hk34 _ _ _ _ _ _ _ _ hE _ _ _ hH hS (lv_sub hl [2, 3, 4, 5, 6, 1, 0] rfl)
def fX10_wayBy_b120 (F : Nat) (k34 : Nat → Int32 → Int32 → Int32 → Int32 → Int32 → Int32 → HL → Option (Int32 × HL)) (a0 : Nat) (x2 : Int32) (x3 : Int32) (x4 : Int32) (x5 : Int32) (x7 : Int32) (y0 : Int32) (L : HL) : Option (Int32 × HL) := fX10_wayBy_b121 F k34 a0 x2 x3 x4 x5 x7 0 y0 L
set_option maxHeartbeats 4000000 in
set_option maxRecDepth 100000 in
theorem sX10_wayBy_b120 {b0 : Nat} {D : va_G} {cA : Nat → ClassId} {p : Program} {l : Launch} {ev : Env} {s : State} {m : MethodId} {args : Array Value} {below : List Frame} {meth : Method} {c : Code} {F : Nat} {z : (Int32 × HL)} {k34 : Nat → Int32 → Int32 → Int32 → Int32 → Int32 → Int32 → HL → Option (Int32 × HL)} {a0 : Nat} {x2 : Int32} {x3 : Int32} {x4 : Int32} {x5 : Int32} {x7 : Int32} {y0 : Int32} {L : HL} (hC : Cx D cA p s m args meth c cX10_wayBy 9 RX10 wsX10_wayBy (some .int)) (hk34 : ∀ (a0' : Nat) (x2' : Int32) (x3' : Int32) (x4' : Int32) (x5' : Int32) (x6' : Int32) (x7' : Int32) (L' : HL), k34 a0' x2' x3' x4' x5' x6' x7' L' = some z → WB b0 D cA p l ev (RM 1 0 0) s m args below meth c 9 0 0 (MQ below (Qk b0 D cA (some (.int z.1)) z.2) args s 0 0 (Ab b0)) 34 [(0, .ref (b0 + a0')), (2, .int x2'), (3, .int x3'), (4, .int x4'), (5, .int x5'), (6, .int x6'), (7, .int x7')] [] L') (hE : fX10_wayBy_b120 F k34 a0 x2 x3 x4 x5 x7 y0 L = some z) : WB b0 D cA p l ev (RM 1 0 0) s m args below meth c 9 0 0 (MQ below (Qk b0 D cA (some (.int z.1)) z.2) args s 0 0 (Ab b0)) 120 [(0, .ref (b0 + a0)), (2, .int x2), (3, .int x3), (4, .int x4), (5, .int x5), (7, .int x7)] [.int y0] L := by
  obtain ⟨hx, hb, hml, hown, hts, hK, hr, hlocks⟩ := id hC
  intro H locs ls hH hS hl
  unfold fX10_wayBy_b120 at hE
  refine lv_iconst (v := 0) hx hb dX10_wayBy_120 (by decide) ?_
  exact sX10_wayBy_b121 (F := F) hC hk34 hE _ _ _ hH hS (lv_sub hl [0, 1, 2, 3, 4, 5] rfl)
def fX10_wayBy_b80 (F : Nat) (k34 : Nat → Int32 → Int32 → Int32 → Int32 → Int32 → Int32 → HL → Option (Int32 × HL)) (a0 : Nat) (x2 : Int32) (x3 : Int32) (x4 : Int32) (x5 : Int32) (x6 : Int32) (x7 : Int32) (y0 : Int32) (L : HL) : Option (Int32 × HL) := (fX10_has F L x3 x7).bind fun z11 => if z11.1 = 0 then (fX10_wayBy_b120 F k34 a0 x2 x3 x4 x5 x7 x6 z11.2) else (if y0 = 0 then (fX10_wayBy_b120 F k34 a0 x2 x3 x4 x5 x7 x6 z11.2) else ((o_gR z11.2 a0 9 4).bind fun v14 => (o_aI z11.2 v14 0 x7).bind fun v15 => (o_gR z11.2 a0 9 5).bind fun v16 => (o_aI z11.2 v16 0 x7).bind fun v17 => fX10_wayBy_b121 F k34 a0 x2 x3 x4 x5 x7 (((1 : Int32) <<< (v15 &&& 31)) ||| ((1 : Int32) <<< (v17 &&& 31))) x6 z11.2))
set_option maxHeartbeats 4000000 in
set_option maxRecDepth 100000 in
theorem sX10_wayBy_b80 {b0 : Nat} {D : va_G} {cA : Nat → ClassId} {p : Program} {l : Launch} {ev : Env} {s : State} {m : MethodId} {args : Array Value} {below : List Frame} {meth : Method} {c : Code} {F : Nat} {z : (Int32 × HL)} {k34 : Nat → Int32 → Int32 → Int32 → Int32 → Int32 → Int32 → HL → Option (Int32 × HL)} {a0 : Nat} {x2 : Int32} {x3 : Int32} {x4 : Int32} {x5 : Int32} {x6 : Int32} {x7 : Int32} {y0 : Int32} {L : HL} (hC : Cx D cA p s m args meth c cX10_wayBy 9 RX10 wsX10_wayBy (some .int)) (hk34 : ∀ (a0' : Nat) (x2' : Int32) (x3' : Int32) (x4' : Int32) (x5' : Int32) (x6' : Int32) (x7' : Int32) (L' : HL), k34 a0' x2' x3' x4' x5' x6' x7' L' = some z → WB b0 D cA p l ev (RM 1 0 0) s m args below meth c 9 0 0 (MQ below (Qk b0 D cA (some (.int z.1)) z.2) args s 0 0 (Ab b0)) 34 [(0, .ref (b0 + a0')), (2, .int x2'), (3, .int x3'), (4, .int x4'), (5, .int x5'), (6, .int x6'), (7, .int x7')] [] L') (hE : fX10_wayBy_b80 F k34 a0 x2 x3 x4 x5 x6 x7 y0 L = some z) : WB b0 D cA p l ev (RM 1 0 0) s m args below meth c 9 0 0 (MQ below (Qk b0 D cA (some (.int z.1)) z.2) args s 0 0 (Ab b0)) 80 [(0, .ref (b0 + a0)), (2, .int x2), (3, .int x3), (4, .int x4), (5, .int x5), (6, .int x6), (7, .int x7)] [.int y0] L := by
  obtain ⟨hx, hb, hml, hown, hts, hK, hr, hlocks⟩ := id hC
  intro H locs ls hH hS hl
  unfold fX10_wayBy_b80 at hE
  refine lv_istore (lv' := [(8, .int y0), (0, .ref (b0 + a0)), (2, .int x2), (3, .int x3), (4, .int x4), (5, .int x5), (6, .int x6), (7, .int x7)]) hx hb dX10_wayBy_80 hl (by decide) rfl (fun ls hl => ?_)
  refine lv_iload hx hb dX10_wayBy_82 (lv_at hl 6 rfl) ?_
  refine lv_iload_n hx hb dX10_wayBy_84 rfl (lv_at hl 3 rfl) ?_
  refine lv_iload hx hb dX10_wayBy_85 (lv_at hl 7 rfl) ?_
  obtain ⟨z11, hz11, hE⟩ := Option.bind_eq_some_iff.mp hE
  refine r_callI (va_runS (As := [.int x3, .int x7]) (rest := [.int x6]) ⟨hx, hb, hml, hown, hts⟩ (sX10_has l b0 D cA hz11) (va_cwS 2 hts gX10_wayBy_X10_has rfl rfl rfl (by decide +kernel) (rm_ok (by decide) (by decide))) (pre_S hK hH) rfl rfl hl.1 rfl (lv_room (Nat.le_of_ble_eq_true rfl)) dX10_wayBy_87 ⟨Nat.zero_le _, Nat.zero_le _⟩) hS (fun H locs hH hS => ?_)
  refine lv_if_eq (tgt := 120) hx hb dX10_wayBy_90 (by decide) (fun c12 => ?_) (fun c12 => ?_)
  · rw [if_pos c12] at hE
    exact sX10_wayBy_b120 (F := F) hC hk34 hE _ _ _ hH hS (lv_sub hl [1, 2, 3, 4, 5, 7] rfl)
  · rw [if_neg c12] at hE
    refine lv_iload hx hb dX10_wayBy_93 (lv_at hl 0 rfl) ?_
    refine lv_if_eq (tgt := 120) hx hb dX10_wayBy_95 (by decide) (fun c13 => ?_) (fun c13 => ?_)
    · rw [if_pos c13] at hE
      exact sX10_wayBy_b120 (F := F) hC hk34 hE _ _ _ hH hS (lv_sub hl [1, 2, 3, 4, 5, 7] rfl)
    · rw [if_neg c13] at hE
      refine lv_iconst (v := 1) hx hb dX10_wayBy_98 (by decide) ?_
      refine lv_aload_n hx hb dX10_wayBy_99 rfl (lv_at hl 1 rfl) ?_
      obtain ⟨v14, hv14, hE⟩ := Option.bind_eq_some_iff.mp hE
      refine r_gR 4 (C := RX10) (T := TX10) (N := 26) (ci := 9) hx hb hts (by decide +kernel) hown hK hH hv14 rfl (by decide) (hts (.fieldLink RX10 20 "KindStreetsModel" "from" "[I") (by decide +kernel)) (fun _ h9 => h9) dX10_wayBy_100 ?_
      refine lv_iload hx hb dX10_wayBy_103 (lv_at hl 7 rfl) ?_
      obtain ⟨v15, hv15, hE⟩ := Option.bind_eq_some_iff.mp hE
      refine r_iald hx hb hK hH hv15 dX10_wayBy_105 ?_
      refine lv_ishl hx hb dX10_wayBy_106 ?_
      refine lv_iconst (v := 1) hx hb dX10_wayBy_107 (by decide) ?_
      refine lv_aload_n hx hb dX10_wayBy_108 rfl (lv_at hl 1 rfl) ?_
      obtain ⟨v16, hv16, hE⟩ := Option.bind_eq_some_iff.mp hE
      refine r_gR 5 (C := RX10) (T := TX10) (N := 26) (ci := 9) hx hb hts (by decide +kernel) hown hK hH hv16 rfl (by decide) (hts (.fieldLink RX10 23 "KindStreetsModel" "to" "[I") (by decide +kernel)) (fun _ h9 => h9) dX10_wayBy_109 ?_
      refine lv_iload hx hb dX10_wayBy_112 (lv_at hl 7 rfl) ?_
      obtain ⟨v17, hv17, hE⟩ := Option.bind_eq_some_iff.mp hE
      refine r_iald hx hb hK hH hv17 dX10_wayBy_114 ?_
      refine lv_ishl hx hb dX10_wayBy_115 ?_
      refine lv_ior hx hb dX10_wayBy_116 ?_
      refine lv_goto (tgt := 121) hx hb dX10_wayBy_117 (by decide) ?_
      exact sX10_wayBy_b121 (F := F) hC hk34 hE _ _ _ hH hS (lv_sub hl [1, 2, 3, 4, 5, 7] rfl)
def fX10_wayBy_b75 (F : Nat) (k34 : Nat → Int32 → Int32 → Int32 → Int32 → Int32 → Int32 → HL → Option (Int32 × HL)) (a0 : Nat) (x2 : Int32) (x3 : Int32) (x4 : Int32) (x5 : Int32) (x6 : Int32) (x7 : Int32) (L : HL) : Option (Int32 × HL) := fX10_wayBy_b80 F k34 a0 x2 x3 x4 x5 x6 x7 1 L
set_option maxHeartbeats 4000000 in
set_option maxRecDepth 100000 in
theorem sX10_wayBy_b75 {b0 : Nat} {D : va_G} {cA : Nat → ClassId} {p : Program} {l : Launch} {ev : Env} {s : State} {m : MethodId} {args : Array Value} {below : List Frame} {meth : Method} {c : Code} {F : Nat} {z : (Int32 × HL)} {k34 : Nat → Int32 → Int32 → Int32 → Int32 → Int32 → Int32 → HL → Option (Int32 × HL)} {a0 : Nat} {x2 : Int32} {x3 : Int32} {x4 : Int32} {x5 : Int32} {x6 : Int32} {x7 : Int32} {L : HL} (hC : Cx D cA p s m args meth c cX10_wayBy 9 RX10 wsX10_wayBy (some .int)) (hk34 : ∀ (a0' : Nat) (x2' : Int32) (x3' : Int32) (x4' : Int32) (x5' : Int32) (x6' : Int32) (x7' : Int32) (L' : HL), k34 a0' x2' x3' x4' x5' x6' x7' L' = some z → WB b0 D cA p l ev (RM 1 0 0) s m args below meth c 9 0 0 (MQ below (Qk b0 D cA (some (.int z.1)) z.2) args s 0 0 (Ab b0)) 34 [(0, .ref (b0 + a0')), (2, .int x2'), (3, .int x3'), (4, .int x4'), (5, .int x5'), (6, .int x6'), (7, .int x7')] [] L') (hE : fX10_wayBy_b75 F k34 a0 x2 x3 x4 x5 x6 x7 L = some z) : WB b0 D cA p l ev (RM 1 0 0) s m args below meth c 9 0 0 (MQ below (Qk b0 D cA (some (.int z.1)) z.2) args s 0 0 (Ab b0)) 75 [(0, .ref (b0 + a0)), (2, .int x2), (3, .int x3), (4, .int x4), (5, .int x5), (6, .int x6), (7, .int x7)] [] L := by
  obtain ⟨hx, hb, hml, hown, hts, hK, hr, hlocks⟩ := id hC
  intro H locs ls hH hS hl
  unfold fX10_wayBy_b75 at hE
  refine lv_iconst (v := 1) hx hb dX10_wayBy_75 (by decide) ?_
  refine lv_goto (tgt := 80) hx hb dX10_wayBy_76 (by decide) ?_
  exact sX10_wayBy_b80 (F := F) hC hk34 hE _ _ _ hH hS (lv_sub hl [0, 1, 2, 3, 4, 5, 6] rfl)
def fX10_wayBy_b34c (F : Nat) (k8 : Nat → Int32 → Int32 → Int32 → Int32 → HL → Option (Int32 × HL)) (k34 : Nat → Int32 → Int32 → Int32 → Int32 → Int32 → Int32 → HL → Option (Int32 × HL)) (a0 : Nat) (x2 : Int32) (x3 : Int32) (x4 : Int32) (x5 : Int32) (x6 : Int32) (x7 : Int32) (L : HL) : Option (Int32 × HL) := (o_gR L a0 9 3).bind fun v4 => (o_aI L v4 0 0).bind fun v5 => if v5 ≤ x7 then (k8 a0 x2 x3 x6 (x5 + 1) L) else ((o_gR L a0 9 4).bind fun v7 => (o_aI L v7 0 x7).bind fun v8 => (fX10_has F L x4 v8).bind fun z9 => if z9.1 = 0 then ((o_gR z9.2 a0 9 5).bind fun v18 => (o_aI z9.2 v18 0 x7).bind fun v19 => (fX10_has F z9.2 x4 v19).bind fun z20 => if z20.1 = 0 then (fX10_wayBy_b80 F k34 a0 x2 x3 x4 x5 x6 x7 0 z20.2) else (fX10_wayBy_b75 F k34 a0 x2 x3 x4 x5 x6 x7 z20.2)) else (fX10_wayBy_b75 F k34 a0 x2 x3 x4 x5 x6 x7 z9.2))
def fX10_wayBy_b34 (F : Nat) (k8 : Nat → Int32 → Int32 → Int32 → Int32 → HL → Option (Int32 × HL)) : Nat → Nat → Int32 → Int32 → Int32 → Int32 → Int32 → Int32 → HL → Option (Int32 × HL)
  | 0 => fun _ _ _ _ _ _ _ _ => none
  | n + 1 => fun a0 x2 x3 x4 x5 x6 x7 L => fX10_wayBy_b34c F k8 (fX10_wayBy_b34 F k8 n) a0 x2 x3 x4 x5 x6 x7 L
set_option maxHeartbeats 4000000 in
set_option maxRecDepth 100000 in
theorem sX10_wayBy_b34c {b0 : Nat} {D : va_G} {cA : Nat → ClassId} {p : Program} {l : Launch} {ev : Env} {s : State} {m : MethodId} {args : Array Value} {below : List Frame} {meth : Method} {c : Code} {F : Nat} {z : (Int32 × HL)} {k8 : Nat → Int32 → Int32 → Int32 → Int32 → HL → Option (Int32 × HL)} {k34 : Nat → Int32 → Int32 → Int32 → Int32 → Int32 → Int32 → HL → Option (Int32 × HL)} {a0 : Nat} {x2 : Int32} {x3 : Int32} {x4 : Int32} {x5 : Int32} {x6 : Int32} {x7 : Int32} {L : HL} (hC : Cx D cA p s m args meth c cX10_wayBy 9 RX10 wsX10_wayBy (some .int)) (hk8 : ∀ (a0' : Nat) (x2' : Int32) (x3' : Int32) (x4' : Int32) (x5' : Int32) (L' : HL), k8 a0' x2' x3' x4' x5' L' = some z → WB b0 D cA p l ev (RM 1 0 0) s m args below meth c 9 0 0 (MQ below (Qk b0 D cA (some (.int z.1)) z.2) args s 0 0 (Ab b0)) 8 [(0, .ref (b0 + a0')), (2, .int x2'), (3, .int x3'), (4, .int x4'), (5, .int x5')] [] L') (hk34 : ∀ (a0' : Nat) (x2' : Int32) (x3' : Int32) (x4' : Int32) (x5' : Int32) (x6' : Int32) (x7' : Int32) (L' : HL), k34 a0' x2' x3' x4' x5' x6' x7' L' = some z → WB b0 D cA p l ev (RM 1 0 0) s m args below meth c 9 0 0 (MQ below (Qk b0 D cA (some (.int z.1)) z.2) args s 0 0 (Ab b0)) 34 [(0, .ref (b0 + a0')), (2, .int x2'), (3, .int x3'), (4, .int x4'), (5, .int x5'), (6, .int x6'), (7, .int x7')] [] L') (hE : fX10_wayBy_b34c F k8 k34 a0 x2 x3 x4 x5 x6 x7 L = some z) : WB b0 D cA p l ev (RM 1 0 0) s m args below meth c 9 0 0 (MQ below (Qk b0 D cA (some (.int z.1)) z.2) args s 0 0 (Ab b0)) 34 [(0, .ref (b0 + a0)), (2, .int x2), (3, .int x3), (4, .int x4), (5, .int x5), (6, .int x6), (7, .int x7)] [] L := by
  obtain ⟨hx, hb, hml, hown, hts, hK, hr, hlocks⟩ := id hC
  intro H locs ls hH hS hl
  unfold fX10_wayBy_b34c at hE
  refine lv_iload hx hb dX10_wayBy_34 (lv_at hl 6 rfl) ?_
  refine lv_aload_n hx hb dX10_wayBy_36 rfl (lv_at hl 0 rfl) ?_
  obtain ⟨v4, hv4, hE⟩ := Option.bind_eq_some_iff.mp hE
  refine r_gR 3 (C := RX10) (T := TX10) (N := 26) (ci := 9) hx hb hts (by decide +kernel) hown hK hH hv4 rfl (by decide) (hts (.fieldLink RX10 17 "KindStreetsModel" "streets" "[I") (by decide +kernel)) (fun _ h9 => h9) dX10_wayBy_37 ?_
  refine lv_iconst (v := 0) hx hb dX10_wayBy_40 (by decide) ?_
  obtain ⟨v5, hv5, hE⟩ := Option.bind_eq_some_iff.mp hE
  refine r_iald hx hb hK hH hv5 dX10_wayBy_41 ?_
  refine lv_icmp_ge (tgt := 130) hx hb dX10_wayBy_42 (by decide) (fun c6 => ?_) (fun c6 => ?_)
  · rw [if_pos c6] at hE
    refine lv_iload hx hb dX10_wayBy_130 (lv_at hl 5 rfl) ?_
    refine lv_istore (lv' := [(4, .int x6), (0, .ref (b0 + a0)), (2, .int x2), (3, .int x3), (5, .int x5), (6, .int x6), (7, .int x7)]) hx hb dX10_wayBy_132 hl (by decide) rfl (fun ls hl => ?_)
    refine lv_iinc (v := (x5 + 1)) (lv' := [(5, .int (x5 + 1)), (4, .int x6), (0, .ref (b0 + a0)), (2, .int x2), (3, .int x3), (6, .int x6), (7, .int x7)]) hx hb dX10_wayBy_134 hl (k := 4) rfl rfl (by decide) rfl (fun ls hl => ?_)
    refine lv_goto (tgt := 8) hx hb dX10_wayBy_137 (by decide) ?_
    exact hk8 _ _ _ _ _ _ hE _ _ _ hH hS (lv_sub hl [2, 3, 4, 1, 0] rfl)
  · rw [if_neg c6] at hE
    refine lv_iload hx hb dX10_wayBy_45 (lv_at hl 3 rfl) ?_
    refine lv_aload_n hx hb dX10_wayBy_47 rfl (lv_at hl 0 rfl) ?_
    obtain ⟨v7, hv7, hE⟩ := Option.bind_eq_some_iff.mp hE
    refine r_gR 4 (C := RX10) (T := TX10) (N := 26) (ci := 9) hx hb hts (by decide +kernel) hown hK hH hv7 rfl (by decide) (hts (.fieldLink RX10 20 "KindStreetsModel" "from" "[I") (by decide +kernel)) (fun _ h9 => h9) dX10_wayBy_48 ?_
    refine lv_iload hx hb dX10_wayBy_51 (lv_at hl 6 rfl) ?_
    obtain ⟨v8, hv8, hE⟩ := Option.bind_eq_some_iff.mp hE
    refine r_iald hx hb hK hH hv8 dX10_wayBy_53 ?_
    obtain ⟨z9, hz9, hE⟩ := Option.bind_eq_some_iff.mp hE
    refine r_callI (va_runS (As := [.int x4, .int v8]) (rest := []) ⟨hx, hb, hml, hown, hts⟩ (sX10_has l b0 D cA hz9) (va_cwS 2 hts gX10_wayBy_X10_has rfl rfl rfl (by decide +kernel) (rm_ok (by decide) (by decide))) (pre_S hK hH) rfl rfl hl.1 rfl (lv_room (Nat.le_of_ble_eq_true rfl)) dX10_wayBy_54 ⟨Nat.zero_le _, Nat.zero_le _⟩) hS (fun H locs hH hS => ?_)
    refine lv_if_ne (tgt := 75) hx hb dX10_wayBy_57 (by decide) (fun c10 => ?_) (fun c10 => ?_)
    · rw [if_neg c10] at hE
      exact sX10_wayBy_b75 (F := F) hC hk34 hE _ _ _ hH hS (lv_sub hl [0, 1, 2, 3, 4, 5, 6] rfl)
    · rw [if_pos c10] at hE
      refine lv_iload hx hb dX10_wayBy_60 (lv_at hl 3 rfl) ?_
      refine lv_aload_n hx hb dX10_wayBy_62 rfl (lv_at hl 0 rfl) ?_
      obtain ⟨v18, hv18, hE⟩ := Option.bind_eq_some_iff.mp hE
      refine r_gR 5 (C := RX10) (T := TX10) (N := 26) (ci := 9) hx hb hts (by decide +kernel) hown hK hH hv18 rfl (by decide) (hts (.fieldLink RX10 23 "KindStreetsModel" "to" "[I") (by decide +kernel)) (fun _ h9 => h9) dX10_wayBy_63 ?_
      refine lv_iload hx hb dX10_wayBy_66 (lv_at hl 6 rfl) ?_
      obtain ⟨v19, hv19, hE⟩ := Option.bind_eq_some_iff.mp hE
      refine r_iald hx hb hK hH hv19 dX10_wayBy_68 ?_
      obtain ⟨z20, hz20, hE⟩ := Option.bind_eq_some_iff.mp hE
      refine r_callI (va_runS (As := [.int x4, .int v19]) (rest := []) ⟨hx, hb, hml, hown, hts⟩ (sX10_has l b0 D cA hz20) (va_cwS 2 hts gX10_wayBy_X10_has rfl rfl rfl (by decide +kernel) (rm_ok (by decide) (by decide))) (pre_S hK hH) rfl rfl hl.1 rfl (lv_room (Nat.le_of_ble_eq_true rfl)) dX10_wayBy_69 ⟨Nat.zero_le _, Nat.zero_le _⟩) hS (fun H locs hH hS => ?_)
      refine lv_if_eq (tgt := 79) hx hb dX10_wayBy_72 (by decide) (fun c21 => ?_) (fun c21 => ?_)
      · rw [if_pos c21] at hE
        refine lv_iconst (v := 0) hx hb dX10_wayBy_79 (by decide) ?_
        exact sX10_wayBy_b80 (F := F) hC hk34 hE _ _ _ hH hS (lv_sub hl [0, 1, 2, 3, 4, 5, 6] rfl)
      · rw [if_neg c21] at hE
        exact sX10_wayBy_b75 (F := F) hC hk34 hE _ _ _ hH hS (lv_sub hl [0, 1, 2, 3, 4, 5, 6] rfl)
theorem sX10_wayBy_b34 {b0 : Nat} {D : va_G} {cA : Nat → ClassId} {p : Program} {l : Launch} {ev : Env} {s : State} {m : MethodId} {args : Array Value} {below : List Frame} {meth : Method} {c : Code} {F : Nat} {z : (Int32 × HL)} {k8 : Nat → Int32 → Int32 → Int32 → Int32 → HL → Option (Int32 × HL)} (hC : Cx D cA p s m args meth c cX10_wayBy 9 RX10 wsX10_wayBy (some .int)) (hk8 : ∀ (a0' : Nat) (x2' : Int32) (x3' : Int32) (x4' : Int32) (x5' : Int32) (L' : HL), k8 a0' x2' x3' x4' x5' L' = some z → WB b0 D cA p l ev (RM 1 0 0) s m args below meth c 9 0 0 (MQ below (Qk b0 D cA (some (.int z.1)) z.2) args s 0 0 (Ab b0)) 8 [(0, .ref (b0 + a0')), (2, .int x2'), (3, .int x3'), (4, .int x4'), (5, .int x5')] [] L') : ∀ (n : Nat) (a0 : Nat) (x2 : Int32) (x3 : Int32) (x4 : Int32) (x5 : Int32) (x6 : Int32) (x7 : Int32) (L : HL), fX10_wayBy_b34 F k8 n a0 x2 x3 x4 x5 x6 x7 L = some z → WB b0 D cA p l ev (RM 1 0 0) s m args below meth c 9 0 0 (MQ below (Qk b0 D cA (some (.int z.1)) z.2) args s 0 0 (Ab b0)) 34 [(0, .ref (b0 + a0)), (2, .int x2), (3, .int x3), (4, .int x4), (5, .int x5), (6, .int x6), (7, .int x7)] [] L := by
  intro n
  induction n with
  | zero => intro a0 x2 x3 x4 x5 x6 x7 L hE; cases hE
  | succ n ih => intro a0 x2 x3 x4 x5 x6 x7 L hE; exact sX10_wayBy_b34c (F := F) hC hk8 ih hE
def fX10_wayBy_b8c (F : Nat) (k8 : Nat → Int32 → Int32 → Int32 → Int32 → HL → Option (Int32 × HL)) (a0 : Nat) (x2 : Int32) (x3 : Int32) (x4 : Int32) (x5 : Int32) (L : HL) : Option (Int32 × HL) := if 8 ≤ x5 then (some ((-9), L)) else ((fX10_has F L x4 x2).bind fun z2 => if z2.1 = 0 then (fX10_wayBy_b34 F k8 F a0 x2 x3 x4 x5 x4 0 z2.2) else (some (x5, z2.2)))
def fX10_wayBy_b8 (F : Nat) : Nat → Nat → Int32 → Int32 → Int32 → Int32 → HL → Option (Int32 × HL)
  | 0 => fun _ _ _ _ _ _ => none
  | n + 1 => fun a0 x2 x3 x4 x5 L => fX10_wayBy_b8c F (fX10_wayBy_b8 F n) a0 x2 x3 x4 x5 L
set_option maxHeartbeats 4000000 in
set_option maxRecDepth 100000 in
theorem sX10_wayBy_b8c {b0 : Nat} {D : va_G} {cA : Nat → ClassId} {p : Program} {l : Launch} {ev : Env} {s : State} {m : MethodId} {args : Array Value} {below : List Frame} {meth : Method} {c : Code} {F : Nat} {z : (Int32 × HL)} {k8 : Nat → Int32 → Int32 → Int32 → Int32 → HL → Option (Int32 × HL)} {a0 : Nat} {x2 : Int32} {x3 : Int32} {x4 : Int32} {x5 : Int32} {L : HL} (hC : Cx D cA p s m args meth c cX10_wayBy 9 RX10 wsX10_wayBy (some .int)) (hk8 : ∀ (a0' : Nat) (x2' : Int32) (x3' : Int32) (x4' : Int32) (x5' : Int32) (L' : HL), k8 a0' x2' x3' x4' x5' L' = some z → WB b0 D cA p l ev (RM 1 0 0) s m args below meth c 9 0 0 (MQ below (Qk b0 D cA (some (.int z.1)) z.2) args s 0 0 (Ab b0)) 8 [(0, .ref (b0 + a0')), (2, .int x2'), (3, .int x3'), (4, .int x4'), (5, .int x5')] [] L') (hE : fX10_wayBy_b8c F k8 a0 x2 x3 x4 x5 L = some z) : WB b0 D cA p l ev (RM 1 0 0) s m args below meth c 9 0 0 (MQ below (Qk b0 D cA (some (.int z.1)) z.2) args s 0 0 (Ab b0)) 8 [(0, .ref (b0 + a0)), (2, .int x2), (3, .int x3), (4, .int x4), (5, .int x5)] [] L := by
  obtain ⟨hx, hb, hml, hown, hts, hK, hr, hlocks⟩ := id hC
  intro H locs ls hH hS hl
  unfold fX10_wayBy_b8c at hE
  refine lv_iload hx hb dX10_wayBy_8 (lv_at hl 4 rfl) ?_
  refine lv_bipush (v := 8) hx hb dX10_wayBy_10 (by decide) ?_
  refine lv_icmp_ge (tgt := 140) hx hb dX10_wayBy_12 (by decide) (fun c1 => ?_) (fun c1 => ?_)
  · rw [if_pos c1] at hE
    refine lv_bipush (v := (-9)) hx hb dX10_wayBy_140 (by decide) ?_
    have hZ := Option.some.inj hE
    subst hZ
    exact W.iret (v := (-9)) hx hb hr (fun t ht hW => ⟨rfl, by rw [ht]; exact hH, hS.F ht⟩) hS.2.2 dX10_wayBy_142
  · rw [if_neg c1] at hE
    refine lv_iload hx hb dX10_wayBy_15 (lv_at hl 3 rfl) ?_
    refine lv_iload_n hx hb dX10_wayBy_17 rfl (lv_at hl 1 rfl) ?_
    obtain ⟨z2, hz2, hE⟩ := Option.bind_eq_some_iff.mp hE
    refine r_callI (va_runS (As := [.int x4, .int x2]) (rest := []) ⟨hx, hb, hml, hown, hts⟩ (sX10_has l b0 D cA hz2) (va_cwS 2 hts gX10_wayBy_X10_has rfl rfl rfl (by decide +kernel) (rm_ok (by decide) (by decide))) (pre_S hK hH) rfl rfl hl.1 rfl (lv_room (Nat.le_of_ble_eq_true rfl)) dX10_wayBy_18 ⟨Nat.zero_le _, Nat.zero_le _⟩) hS (fun H locs hH hS => ?_)
    refine lv_if_eq (tgt := 27) hx hb dX10_wayBy_21 (by decide) (fun c3 => ?_) (fun c3 => ?_)
    · rw [if_pos c3] at hE
      refine lv_iload hx hb dX10_wayBy_27 (lv_at hl 3 rfl) ?_
      refine lv_istore (lv' := [(6, .int x4), (0, .ref (b0 + a0)), (2, .int x2), (3, .int x3), (4, .int x4), (5, .int x5)]) hx hb dX10_wayBy_29 hl (by decide) rfl (fun ls hl => ?_)
      refine lv_iconst (v := 0) hx hb dX10_wayBy_31 (by decide) ?_
      refine lv_istore (lv' := [(7, .int 0), (6, .int x4), (0, .ref (b0 + a0)), (2, .int x2), (3, .int x3), (4, .int x4), (5, .int x5)]) hx hb dX10_wayBy_32 hl (by decide) rfl (fun ls hl => ?_)
      exact sX10_wayBy_b34 (F := F) hC hk8 F _ _ _ _ _ _ _ _ hE _ _ _ hH hS (lv_sub hl [2, 3, 4, 5, 6, 1, 0] rfl)
    · rw [if_neg c3] at hE
      refine lv_iload hx hb dX10_wayBy_24 (lv_at hl 4 rfl) ?_
      have hZ := Option.some.inj hE
      subst hZ
      exact W.iret (v := x5) hx hb hr (fun t ht hW => ⟨rfl, by rw [ht]; exact hH, hS.F ht⟩) hS.2.2 dX10_wayBy_26
theorem sX10_wayBy_b8 {b0 : Nat} {D : va_G} {cA : Nat → ClassId} {p : Program} {l : Launch} {ev : Env} {s : State} {m : MethodId} {args : Array Value} {below : List Frame} {meth : Method} {c : Code} {F : Nat} {z : (Int32 × HL)} (hC : Cx D cA p s m args meth c cX10_wayBy 9 RX10 wsX10_wayBy (some .int)) : ∀ (n : Nat) (a0 : Nat) (x2 : Int32) (x3 : Int32) (x4 : Int32) (x5 : Int32) (L : HL), fX10_wayBy_b8 F n a0 x2 x3 x4 x5 L = some z → WB b0 D cA p l ev (RM 1 0 0) s m args below meth c 9 0 0 (MQ below (Qk b0 D cA (some (.int z.1)) z.2) args s 0 0 (Ab b0)) 8 [(0, .ref (b0 + a0)), (2, .int x2), (3, .int x3), (4, .int x4), (5, .int x5)] [] L := by
  intro n
  induction n with
  | zero => intro a0 x2 x3 x4 x5 L hE; cases hE
  | succ n ih => intro a0 x2 x3 x4 x5 L hE; exact sX10_wayBy_b8c (F := F) hC ih hE
def fX10_wayBy (F : Nat) (L : HL) (a0 : Nat) (x1 : Int32) (x2 : Int32) (x3 : Int32) : Option (Int32 × HL) := (o_ob L a0 9).bind fun _ => fX10_wayBy_b8 F F a0 x2 x3 ((1 : Int32) <<< (x1 &&& 31)) 0 L
theorem oX10_wayBy {F : Nat} {L : HL} {a0 : Nat} {x1 : Int32} {x2 : Int32} {x3 : Int32} {z : (Int32 × HL)} (hE : fX10_wayBy F L a0 x1 x2 x3 = some z) : o_ob L a0 9 = some () := by
  obtain ⟨_, h, _⟩ := Option.bind_eq_some_iff.mp hE
  exact h
set_option maxHeartbeats 4000000 in
set_option maxRecDepth 100000 in
theorem sX10_wayBy (l : Launch) (b0 : Nat) (D : va_G) (cA : Nat → ClassId) {F : Nat} {L : HL} {a0 : Nat} {x1 : Int32} {x2 : Int32} {x3 : Int32} {z : (Int32 × HL)} (hE : fX10_wayBy F L a0 x1 x2 x3 = some z) : Met l yX10_wayBy wsX10_wayBy (RM 1 0 0) (Pk b0 D cA [.ref (b0 + a0), .int x1, .int x2, .int x3] L) (Qk b0 D cA (some (.int z.1)) z.2) 0 0 (Ab b0) := by
  refine Met.ofW (cc := cX10_wayBy) (maxL := 9) (ret := (some .int)) (by decide) rfl ?_
  intro p ev s m args below meth c s₁ B hml hv
  obtain ⟨rfl, hH, hK⟩ := hv
  have hx := B.exec
  have hb := B.bytes
  have hr := B.returns
  have hts := atoms_spec (ws := wsX10_wayBy) B.pre
  have hown : s.vm.findClass RX10 = some m.cls := findClass_of_methodNamed B.named
  have hlocks := B.notSynchronized
  have hC : Cx D cA p s m _ meth c cX10_wayBy 9 RX10 wsX10_wayBy (some .int) := ⟨hx, hb, hml, hown, hts, hK, hr, hlocks⟩
  have hS : va_S (Ab b0) s.heap s.heap [] := va_S.rf
  have hl := lv_entry ([.ref (b0 + a0), .int x1, .int x2, .int x3]) (n := 9) (Nat.le_of_ble_eq_true rfl)
  rw [lg_entry_eq]
  generalize (lg_sl ([.ref (b0 + a0), .int x1, .int x2, .int x3]) ++ List.replicate (9 - (lg_sl ([.ref (b0 + a0), .int x1, .int x2, .int x3])).length) Slot.unset).toArray = ls at hl ⊢
  have hl : lv_has ls 9 [(0, .ref (b0 + a0)), (1, .int x1), (2, .int x2), (3, .int x3)] := hl
  unfold fX10_wayBy at hE
  obtain ⟨_, _, hE⟩ := Option.bind_eq_some_iff.mp hE
  refine lv_iconst (v := 1) hx hb dX10_wayBy_0 (by decide) ?_
  refine lv_iload_n hx hb dX10_wayBy_1 rfl (lv_at hl 1 rfl) ?_
  refine lv_ishl hx hb dX10_wayBy_2 ?_
  refine lv_istore (lv' := [(4, .int ((1 : Int32) <<< (x1 &&& 31))), (0, .ref (b0 + a0)), (1, .int x1), (2, .int x2), (3, .int x3)]) hx hb dX10_wayBy_3 hl (by decide) rfl (fun ls hl => ?_)
  refine lv_iconst (v := 0) hx hb dX10_wayBy_5 (by decide) ?_
  refine lv_istore (lv' := [(5, .int 0), (4, .int ((1 : Int32) <<< (x1 &&& 31))), (0, .ref (b0 + a0)), (1, .int x1), (2, .int x2), (3, .int x3)]) hx hb dX10_wayBy_6 hl (by decide) rfl (fun ls hl => ?_)
  exact sX10_wayBy_b8 (F := F) hC F _ _ _ _ _ _ hE _ _ _ hH hS (lv_sub hl [2, 4, 5, 1, 0] rfl)
-- X10_widest
def fX10_widest_b14c (F : Nat) (k14 : Nat → Int32 → Int32 → Int32 → HL → Option (Int32 × HL)) (a0 : Nat) (x1 : Int32) (x2 : Int32) (x3 : Int32) (L : HL) : Option (Int32 × HL) := if x3 < 1 then (some ((-9), L)) else ((fX10_openBy F L a0 x3).bind fun z4 => (fX10_wayBy F z4.2 a0 x1 x2 z4.1).bind fun z5 => if z5.1 = (-9) then (k14 a0 x1 x2 (x3 + (-1)) z5.2) else (some (x3, z5.2)))
def fX10_widest_b14 (F : Nat) : Nat → Nat → Int32 → Int32 → Int32 → HL → Option (Int32 × HL)
  | 0 => fun _ _ _ _ _ => none
  | n + 1 => fun a0 x1 x2 x3 L => fX10_widest_b14c F (fX10_widest_b14 F n) a0 x1 x2 x3 L
set_option maxHeartbeats 4000000 in
set_option maxRecDepth 100000 in
theorem sX10_widest_b14c {b0 : Nat} {D : va_G} {cA : Nat → ClassId} {p : Program} {l : Launch} {ev : Env} {s : State} {m : MethodId} {args : Array Value} {below : List Frame} {meth : Method} {c : Code} {F : Nat} {z : (Int32 × HL)} {k14 : Nat → Int32 → Int32 → Int32 → HL → Option (Int32 × HL)} {a0 : Nat} {x1 : Int32} {x2 : Int32} {x3 : Int32} {L : HL} (hC : Cx D cA p s m args meth c cX10_widest 4 RX10 wsX10_widest (some .int)) (hk14 : ∀ (a0' : Nat) (x1' : Int32) (x2' : Int32) (x3' : Int32) (L' : HL), k14 a0' x1' x2' x3' L' = some z → WB b0 D cA p l ev (RM 3 0 0) s m args below meth c 4 0 0 (MQ below (Qk b0 D cA (some (.int z.1)) z.2) args s 0 0 (Ab b0)) 14 [(0, .ref (b0 + a0')), (1, .int x1'), (2, .int x2'), (3, .int x3')] [] L') (hE : fX10_widest_b14c F k14 a0 x1 x2 x3 L = some z) : WB b0 D cA p l ev (RM 3 0 0) s m args below meth c 4 0 0 (MQ below (Qk b0 D cA (some (.int z.1)) z.2) args s 0 0 (Ab b0)) 14 [(0, .ref (b0 + a0)), (1, .int x1), (2, .int x2), (3, .int x3)] [] L := by
  obtain ⟨hx, hb, hml, hown, hts, hK, hr, hlocks⟩ := id hC
  intro H locs ls hH hS hl
  unfold fX10_widest_b14c at hE
  refine lv_iload_n hx hb dX10_widest_14 rfl (lv_at hl 3 rfl) ?_
  refine lv_iconst (v := 1) hx hb dX10_widest_15 (by decide) ?_
  refine lv_icmp_lt (tgt := 43) hx hb dX10_widest_16 (by decide) (fun c3 => ?_) (fun c3 => ?_)
  · rw [if_pos c3] at hE
    refine lv_bipush (v := (-9)) hx hb dX10_widest_43 (by decide) ?_
    have hZ := Option.some.inj hE
    subst hZ
    exact W.iret (v := (-9)) hx hb hr (fun t ht hW => ⟨rfl, by rw [ht]; exact hH, hS.F ht⟩) hS.2.2 dX10_widest_45
  · rw [if_neg c3] at hE
    refine lv_aload_n hx hb dX10_widest_19 rfl (lv_at hl 0 rfl) ?_
    refine lv_iload_n hx hb dX10_widest_20 rfl (lv_at hl 1 rfl) ?_
    refine lv_iload_n hx hb dX10_widest_21 rfl (lv_at hl 2 rfl) ?_
    refine lv_aload_n hx hb dX10_widest_22 rfl (lv_at hl 0 rfl) ?_
    refine lv_iload_n hx hb dX10_widest_23 rfl (lv_at hl 3 rfl) ?_
    obtain ⟨z4, hz4, hE⟩ := Option.bind_eq_some_iff.mp hE
    refine r_callI (va_runV (As := [.int x3]) (rest := [.int x2, .int x1, .ref (b0 + a0)]) ⟨hx, hb, hml, hown, hts⟩ (sX10_openBy l b0 D cA hz4) (cwV 1 hts gX10_widest_X10_openBy rfl rfl rfl (by decide +kernel) (rm_ok (by decide) (by decide))) (pre_V (ci := 9) hK hH (oX10_openBy hz4) rfl) rfl rfl hl.1 rfl (lv_room (Nat.le_of_ble_eq_true rfl)) dX10_widest_24 ⟨Nat.zero_le _, Nat.zero_le _⟩) hS (fun H locs hH hS => ?_)
    obtain ⟨z5, hz5, hE⟩ := Option.bind_eq_some_iff.mp hE
    refine r_callI (va_runV (As := [.int x1, .int x2, .int z4.1]) (rest := []) ⟨hx, hb, hml, hown, hts⟩ (sX10_wayBy l b0 D cA hz5) (cwV 3 hts gX10_widest_X10_wayBy rfl rfl rfl (by decide +kernel) (rm_ok (by decide) (by decide))) (pre_V (ci := 9) hK hH (oX10_wayBy hz5) rfl) rfl rfl hl.1 rfl (lv_room (Nat.le_of_ble_eq_true rfl)) dX10_widest_27 ⟨Nat.zero_le _, Nat.zero_le _⟩) hS (fun H locs hH hS => ?_)
    refine lv_bipush (v := (-9)) hx hb dX10_widest_30 (by decide) ?_
    refine lv_icmp_eq (tgt := 37) hx hb dX10_widest_32 (by decide) (fun c6 => ?_) (fun c6 => ?_)
    · rw [if_pos c6] at hE
      refine lv_iinc (v := (x3 + (-1))) (lv' := [(3, .int (x3 + (-1))), (0, .ref (b0 + a0)), (1, .int x1), (2, .int x2)]) hx hb dX10_widest_37 hl (k := 3) rfl rfl (by decide) rfl (fun ls hl => ?_)
      refine lv_goto (tgt := 14) hx hb dX10_widest_40 (by decide) ?_
      exact hk14 _ _ _ _ _ hE _ _ _ hH hS (lv_sub hl [1, 2, 3, 0] rfl)
    · rw [if_neg c6] at hE
      refine lv_iload_n hx hb dX10_widest_35 rfl (lv_at hl 3 rfl) ?_
      have hZ := Option.some.inj hE
      subst hZ
      exact W.iret (v := x3) hx hb hr (fun t ht hW => ⟨rfl, by rw [ht]; exact hH, hS.F ht⟩) hS.2.2 dX10_widest_36
theorem sX10_widest_b14 {b0 : Nat} {D : va_G} {cA : Nat → ClassId} {p : Program} {l : Launch} {ev : Env} {s : State} {m : MethodId} {args : Array Value} {below : List Frame} {meth : Method} {c : Code} {F : Nat} {z : (Int32 × HL)} (hC : Cx D cA p s m args meth c cX10_widest 4 RX10 wsX10_widest (some .int)) : ∀ (n : Nat) (a0 : Nat) (x1 : Int32) (x2 : Int32) (x3 : Int32) (L : HL), fX10_widest_b14 F n a0 x1 x2 x3 L = some z → WB b0 D cA p l ev (RM 3 0 0) s m args below meth c 4 0 0 (MQ below (Qk b0 D cA (some (.int z.1)) z.2) args s 0 0 (Ab b0)) 14 [(0, .ref (b0 + a0)), (1, .int x1), (2, .int x2), (3, .int x3)] [] L := by
  intro n
  induction n with
  | zero => intro a0 x1 x2 x3 L hE; cases hE
  | succ n ih => intro a0 x1 x2 x3 L hE; exact sX10_widest_b14c (F := F) hC ih hE
def fX10_widest (F : Nat) (L : HL) (a0 : Nat) (x1 : Int32) (x2 : Int32) : Option (Int32 × HL) := (o_ob L a0 9).bind fun _ => (fX10_areTwo F L a0 x1 x2).bind fun z1 => if z1.1 = 0 then (some ((-1), z1.2)) else (fX10_widest_b14 F F a0 x1 x2 10 z1.2)
theorem oX10_widest {F : Nat} {L : HL} {a0 : Nat} {x1 : Int32} {x2 : Int32} {z : (Int32 × HL)} (hE : fX10_widest F L a0 x1 x2 = some z) : o_ob L a0 9 = some () := by
  obtain ⟨_, h, _⟩ := Option.bind_eq_some_iff.mp hE
  exact h
set_option maxHeartbeats 4000000 in
set_option maxRecDepth 100000 in
theorem sX10_widest (l : Launch) (b0 : Nat) (D : va_G) (cA : Nat → ClassId) {F : Nat} {L : HL} {a0 : Nat} {x1 : Int32} {x2 : Int32} {z : (Int32 × HL)} (hE : fX10_widest F L a0 x1 x2 = some z) : Met l yX10_widest wsX10_widest (RM 3 0 0) (Pk b0 D cA [.ref (b0 + a0), .int x1, .int x2] L) (Qk b0 D cA (some (.int z.1)) z.2) 0 0 (Ab b0) := by
  refine Met.ofW (cc := cX10_widest) (maxL := 4) (ret := (some .int)) (by decide) rfl ?_
  intro p ev s m args below meth c s₁ B hml hv
  obtain ⟨rfl, hH, hK⟩ := hv
  have hx := B.exec
  have hb := B.bytes
  have hr := B.returns
  have hts := atoms_spec (ws := wsX10_widest) B.pre
  have hown : s.vm.findClass RX10 = some m.cls := findClass_of_methodNamed B.named
  have hlocks := B.notSynchronized
  have hC : Cx D cA p s m _ meth c cX10_widest 4 RX10 wsX10_widest (some .int) := ⟨hx, hb, hml, hown, hts, hK, hr, hlocks⟩
  have hS : va_S (Ab b0) s.heap s.heap [] := va_S.rf
  have hl := lv_entry ([.ref (b0 + a0), .int x1, .int x2]) (n := 4) (Nat.le_of_ble_eq_true rfl)
  rw [lg_entry_eq]
  generalize (lg_sl ([.ref (b0 + a0), .int x1, .int x2]) ++ List.replicate (4 - (lg_sl ([.ref (b0 + a0), .int x1, .int x2])).length) Slot.unset).toArray = ls at hl ⊢
  have hl : lv_has ls 4 [(0, .ref (b0 + a0)), (1, .int x1), (2, .int x2)] := hl
  unfold fX10_widest at hE
  obtain ⟨_, _, hE⟩ := Option.bind_eq_some_iff.mp hE
  refine lv_aload_n hx hb dX10_widest_0 rfl (lv_at hl 0 rfl) ?_
  refine lv_iload_n hx hb dX10_widest_1 rfl (lv_at hl 1 rfl) ?_
  refine lv_iload_n hx hb dX10_widest_2 rfl (lv_at hl 2 rfl) ?_
  obtain ⟨z1, hz1, hE⟩ := Option.bind_eq_some_iff.mp hE
  refine r_callI (va_runV (As := [.int x1, .int x2]) (rest := []) ⟨hx, hb, hml, hown, hts⟩ (sX10_areTwo l b0 D cA hz1) (cwV 2 hts gX10_widest_X10_areTwo rfl rfl rfl (by decide +kernel) (rm_ok (by decide) (by decide))) (pre_V (ci := 9) hK hH (oX10_areTwo hz1) rfl) rfl rfl hl.1 rfl (lv_room (Nat.le_of_ble_eq_true rfl)) dX10_widest_3 ⟨Nat.zero_le _, Nat.zero_le _⟩) hS (fun H locs hH hS => ?_)
  refine lv_if_ne (tgt := 11) hx hb dX10_widest_6 (by decide) (fun c2 => ?_) (fun c2 => ?_)
  · rw [if_neg c2] at hE
    refine lv_bipush (v := 10) hx hb dX10_widest_11 (by decide) ?_
    refine lv_istore_n (lv' := [(3, .int 10), (0, .ref (b0 + a0)), (1, .int x1), (2, .int x2)]) hx hb dX10_widest_13 rfl hl (by decide) rfl (fun ls hl => ?_)
    exact sX10_widest_b14 (F := F) hC F _ _ _ _ _ hE _ _ _ hH hS (lv_sub hl [1, 2, 3, 0] rfl)
  · rw [if_pos c2] at hE
    refine lv_iconst (v := (-1)) hx hb dX10_widest_9 (by decide) ?_
    have hZ := Option.some.inj hE
    subst hZ
    exact W.iret (v := (-1)) hx hb hr (fun t ht hW => ⟨rfl, by rw [ht]; exact hH, hS.F ht⟩) hS.2.2 dX10_widest_10
-- X10_way
def fX10_way_b19 (F : Nat)  (L : HL) : Option (Int32 × HL) := some ((-1), L)
set_option maxHeartbeats 4000000 in
set_option maxRecDepth 100000 in
theorem sX10_way_b19 {b0 : Nat} {D : va_G} {cA : Nat → ClassId} {p : Program} {l : Launch} {ev : Env} {s : State} {m : MethodId} {args : Array Value} {below : List Frame} {meth : Method} {c : Code} {F : Nat} {z : (Int32 × HL)}  {L : HL} (hC : Cx D cA p s m args meth c cX10_way 4 RX10 wsX10_way (some .int)) (hE : fX10_way_b19 F  L = some z) : WB b0 D cA p l ev (RM 3 0 0) s m args below meth c 4 0 0 (MQ below (Qk b0 D cA (some (.int z.1)) z.2) args s 0 0 (Ab b0)) 19 [] [] L := by
  obtain ⟨hx, hb, hml, hown, hts, hK, hr, hlocks⟩ := id hC
  intro H locs ls hH hS hl
  unfold fX10_way_b19 at hE
  refine lv_iconst (v := (-1)) hx hb dX10_way_19 (by decide) ?_
  have hZ := Option.some.inj hE
  subst hZ
  exact W.iret (v := (-1)) hx hb hr (fun t ht hW => ⟨rfl, by rw [ht]; exact hH, hS.F ht⟩) hS.2.2 dX10_way_20
def fX10_way (F : Nat) (L : HL) (a0 : Nat) (x1 : Int32) (x2 : Int32) (x3 : Int32) : Option (Int32 × HL) := (o_ob L a0 9).bind fun _ => (fX10_areTwo F L a0 x1 x2).bind fun z1 => if z1.1 = 0 then (fX10_way_b19 F z1.2) else ((fX10_in F z1.2 x3 1 10).bind fun z3 => if z3.1 = 0 then (fX10_way_b19 F z3.2) else ((fX10_openBy F z3.2 a0 x3).bind fun z5 => (fX10_wayBy F z5.2 a0 x1 x2 z5.1).bind fun z6 => some (z6.1, z6.2)))
theorem oX10_way {F : Nat} {L : HL} {a0 : Nat} {x1 : Int32} {x2 : Int32} {x3 : Int32} {z : (Int32 × HL)} (hE : fX10_way F L a0 x1 x2 x3 = some z) : o_ob L a0 9 = some () := by
  obtain ⟨_, h, _⟩ := Option.bind_eq_some_iff.mp hE
  exact h
set_option maxHeartbeats 4000000 in
set_option maxRecDepth 100000 in
theorem sX10_way (l : Launch) (b0 : Nat) (D : va_G) (cA : Nat → ClassId) {F : Nat} {L : HL} {a0 : Nat} {x1 : Int32} {x2 : Int32} {x3 : Int32} {z : (Int32 × HL)} (hE : fX10_way F L a0 x1 x2 x3 = some z) : Met l yX10_way wsX10_way (RM 3 0 0) (Pk b0 D cA [.ref (b0 + a0), .int x1, .int x2, .int x3] L) (Qk b0 D cA (some (.int z.1)) z.2) 0 0 (Ab b0) := by
  refine Met.ofW (cc := cX10_way) (maxL := 4) (ret := (some .int)) (by decide) rfl ?_
  intro p ev s m args below meth c s₁ B hml hv
  obtain ⟨rfl, hH, hK⟩ := hv
  have hx := B.exec
  have hb := B.bytes
  have hr := B.returns
  have hts := atoms_spec (ws := wsX10_way) B.pre
  have hown : s.vm.findClass RX10 = some m.cls := findClass_of_methodNamed B.named
  have hlocks := B.notSynchronized
  have hC : Cx D cA p s m _ meth c cX10_way 4 RX10 wsX10_way (some .int) := ⟨hx, hb, hml, hown, hts, hK, hr, hlocks⟩
  have hS : va_S (Ab b0) s.heap s.heap [] := va_S.rf
  have hl := lv_entry ([.ref (b0 + a0), .int x1, .int x2, .int x3]) (n := 4) (Nat.le_of_ble_eq_true rfl)
  rw [lg_entry_eq]
  generalize (lg_sl ([.ref (b0 + a0), .int x1, .int x2, .int x3]) ++ List.replicate (4 - (lg_sl ([.ref (b0 + a0), .int x1, .int x2, .int x3])).length) Slot.unset).toArray = ls at hl ⊢
  have hl : lv_has ls 4 [(0, .ref (b0 + a0)), (1, .int x1), (2, .int x2), (3, .int x3)] := hl
  unfold fX10_way at hE
  obtain ⟨_, _, hE⟩ := Option.bind_eq_some_iff.mp hE
  refine lv_aload_n hx hb dX10_way_0 rfl (lv_at hl 0 rfl) ?_
  refine lv_iload_n hx hb dX10_way_1 rfl (lv_at hl 1 rfl) ?_
  refine lv_iload_n hx hb dX10_way_2 rfl (lv_at hl 2 rfl) ?_
  obtain ⟨z1, hz1, hE⟩ := Option.bind_eq_some_iff.mp hE
  refine r_callI (va_runV (As := [.int x1, .int x2]) (rest := []) ⟨hx, hb, hml, hown, hts⟩ (sX10_areTwo l b0 D cA hz1) (cwV 2 hts gX10_way_X10_areTwo rfl rfl rfl (by decide +kernel) (rm_ok (by decide) (by decide))) (pre_V (ci := 9) hK hH (oX10_areTwo hz1) rfl) rfl rfl hl.1 rfl (lv_room (Nat.le_of_ble_eq_true rfl)) dX10_way_3 ⟨Nat.zero_le _, Nat.zero_le _⟩) hS (fun H locs hH hS => ?_)
  refine lv_if_eq (tgt := 19) hx hb dX10_way_6 (by decide) (fun c2 => ?_) (fun c2 => ?_)
  · rw [if_pos c2] at hE
    exact sX10_way_b19 (F := F) hC hE _ _ _ hH hS (lv_sub hl [] rfl)
  · rw [if_neg c2] at hE
    refine lv_iload_n hx hb dX10_way_9 rfl (lv_at hl 3 rfl) ?_
    refine lv_iconst (v := 1) hx hb dX10_way_10 (by decide) ?_
    refine lv_bipush (v := 10) hx hb dX10_way_11 (by decide) ?_
    obtain ⟨z3, hz3, hE⟩ := Option.bind_eq_some_iff.mp hE
    refine r_callI (va_runS (As := [.int x3, .int 1, .int 10]) (rest := []) ⟨hx, hb, hml, hown, hts⟩ (sX10_in l b0 D cA hz3) (va_cwS 3 hts gX10_way_X10_in rfl rfl rfl (by decide +kernel) (rm_ok (by decide) (by decide))) (pre_S hK hH) rfl rfl hl.1 rfl (lv_room (Nat.le_of_ble_eq_true rfl)) dX10_way_13 ⟨Nat.zero_le _, Nat.zero_le _⟩) hS (fun H locs hH hS => ?_)
    refine lv_if_ne (tgt := 21) hx hb dX10_way_16 (by decide) (fun c4 => ?_) (fun c4 => ?_)
    · rw [if_neg c4] at hE
      refine lv_aload_n hx hb dX10_way_21 rfl (lv_at hl 0 rfl) ?_
      refine lv_iload_n hx hb dX10_way_22 rfl (lv_at hl 1 rfl) ?_
      refine lv_iload_n hx hb dX10_way_23 rfl (lv_at hl 2 rfl) ?_
      refine lv_aload_n hx hb dX10_way_24 rfl (lv_at hl 0 rfl) ?_
      refine lv_iload_n hx hb dX10_way_25 rfl (lv_at hl 3 rfl) ?_
      obtain ⟨z5, hz5, hE⟩ := Option.bind_eq_some_iff.mp hE
      refine r_callI (va_runV (As := [.int x3]) (rest := [.int x2, .int x1, .ref (b0 + a0)]) ⟨hx, hb, hml, hown, hts⟩ (sX10_openBy l b0 D cA hz5) (cwV 1 hts gX10_way_X10_openBy rfl rfl rfl (by decide +kernel) (rm_ok (by decide) (by decide))) (pre_V (ci := 9) hK hH (oX10_openBy hz5) rfl) rfl rfl hl.1 rfl (lv_room (Nat.le_of_ble_eq_true rfl)) dX10_way_26 ⟨Nat.zero_le _, Nat.zero_le _⟩) hS (fun H locs hH hS => ?_)
      obtain ⟨z6, hz6, hE⟩ := Option.bind_eq_some_iff.mp hE
      refine r_callI (va_runV (As := [.int x1, .int x2, .int z5.1]) (rest := []) ⟨hx, hb, hml, hown, hts⟩ (sX10_wayBy l b0 D cA hz6) (cwV 3 hts gX10_way_X10_wayBy rfl rfl rfl (by decide +kernel) (rm_ok (by decide) (by decide))) (pre_V (ci := 9) hK hH (oX10_wayBy hz6) rfl) rfl rfl hl.1 rfl (lv_room (Nat.le_of_ble_eq_true rfl)) dX10_way_29 ⟨Nat.zero_le _, Nat.zero_le _⟩) hS (fun H locs hH hS => ?_)
      have hZ := Option.some.inj hE
      subst hZ
      exact W.iret (v := z6.1) hx hb hr (fun t ht hW => ⟨rfl, by rw [ht]; exact hH, hS.F ht⟩) hS.2.2 dX10_way_32
    · rw [if_pos c4] at hE
      exact sX10_way_b19 (F := F) hC hE _ _ _ hH hS (lv_sub hl [] rfl)
-- X10_widthsOf
def fX10_widthsOf_b32 (F : Nat) (k4 : Nat → Int32 → Int32 → Int32 → HL → Option (Int32 × HL)) (a0 : Nat) (x1 : Int32) (x3 : Int32) (y0 : Int32) (y1 : Int32) (L : HL) : Option (Int32 × HL) := k4 a0 x1 (y1 + y0) (x3 + 1) L
set_option maxHeartbeats 4000000 in
set_option maxRecDepth 100000 in
theorem sX10_widthsOf_b32 {b0 : Nat} {D : va_G} {cA : Nat → ClassId} {p : Program} {l : Launch} {ev : Env} {s : State} {m : MethodId} {args : Array Value} {below : List Frame} {meth : Method} {c : Code} {F : Nat} {z : (Int32 × HL)} {k4 : Nat → Int32 → Int32 → Int32 → HL → Option (Int32 × HL)} {a0 : Nat} {x1 : Int32} {x3 : Int32} {y0 : Int32} {y1 : Int32} {L : HL} (hC : Cx D cA p s m args meth c cX10_widthsOf 4 RX10 wsX10_widthsOf (some .int)) (hk4 : ∀ (a0' : Nat) (x1' : Int32) (x2' : Int32) (x3' : Int32) (L' : HL), k4 a0' x1' x2' x3' L' = some z → WB b0 D cA p l ev (RM 1 0 0) s m args below meth c 4 0 0 (MQ below (Qk b0 D cA (some (.int z.1)) z.2) args s 0 0 (Ab b0)) 4 [(0, .ref (b0 + a0')), (1, .int x1'), (2, .int x2'), (3, .int x3')] [] L') (hE : fX10_widthsOf_b32 F k4 a0 x1 x3 y0 y1 L = some z) : WB b0 D cA p l ev (RM 1 0 0) s m args below meth c 4 0 0 (MQ below (Qk b0 D cA (some (.int z.1)) z.2) args s 0 0 (Ab b0)) 32 [(0, .ref (b0 + a0)), (1, .int x1), (3, .int x3)] [.int y0, .int y1] L := by
  obtain ⟨hx, hb, hml, hown, hts, hK, hr, hlocks⟩ := id hC
  intro H locs ls hH hS hl
  unfold fX10_widthsOf_b32 at hE
  refine lv_iadd hx hb dX10_widthsOf_32 ?_
  refine lv_istore_n (lv' := [(2, .int (y1 + y0)), (0, .ref (b0 + a0)), (1, .int x1), (3, .int x3)]) hx hb dX10_widthsOf_33 rfl hl (by decide) rfl (fun ls hl => ?_)
  refine lv_iinc (v := (x3 + 1)) (lv' := [(3, .int (x3 + 1)), (2, .int (y1 + y0)), (0, .ref (b0 + a0)), (1, .int x1)]) hx hb dX10_widthsOf_34 hl (k := 3) rfl rfl (by decide) rfl (fun ls hl => ?_)
  refine lv_goto (tgt := 4) hx hb dX10_widthsOf_37 (by decide) ?_
  exact hk4 _ _ _ _ _ hE _ _ _ hH hS (lv_sub hl [2, 3, 1, 0] rfl)
def fX10_widthsOf_b4c (F : Nat) (k4 : Nat → Int32 → Int32 → Int32 → HL → Option (Int32 × HL)) (a0 : Nat) (x1 : Int32) (x2 : Int32) (x3 : Int32) (L : HL) : Option (Int32 × HL) := (o_gR L a0 9 3).bind fun v1 => (o_aI L v1 0 0).bind fun v2 => if v2 ≤ x3 then (some (x2, L)) else ((fX10_has F L x1 x3).bind fun z4 => if z4.1 = 0 then (fX10_widthsOf_b32 F k4 a0 x1 x3 0 x2 z4.2) else ((fX10_widthOf F z4.2 a0 x3).bind fun z6 => fX10_widthsOf_b32 F k4 a0 x1 x3 z6.1 x2 z6.2))
def fX10_widthsOf_b4 (F : Nat) : Nat → Nat → Int32 → Int32 → Int32 → HL → Option (Int32 × HL)
  | 0 => fun _ _ _ _ _ => none
  | n + 1 => fun a0 x1 x2 x3 L => fX10_widthsOf_b4c F (fX10_widthsOf_b4 F n) a0 x1 x2 x3 L
set_option maxHeartbeats 4000000 in
set_option maxRecDepth 100000 in
theorem sX10_widthsOf_b4c {b0 : Nat} {D : va_G} {cA : Nat → ClassId} {p : Program} {l : Launch} {ev : Env} {s : State} {m : MethodId} {args : Array Value} {below : List Frame} {meth : Method} {c : Code} {F : Nat} {z : (Int32 × HL)} {k4 : Nat → Int32 → Int32 → Int32 → HL → Option (Int32 × HL)} {a0 : Nat} {x1 : Int32} {x2 : Int32} {x3 : Int32} {L : HL} (hC : Cx D cA p s m args meth c cX10_widthsOf 4 RX10 wsX10_widthsOf (some .int)) (hk4 : ∀ (a0' : Nat) (x1' : Int32) (x2' : Int32) (x3' : Int32) (L' : HL), k4 a0' x1' x2' x3' L' = some z → WB b0 D cA p l ev (RM 1 0 0) s m args below meth c 4 0 0 (MQ below (Qk b0 D cA (some (.int z.1)) z.2) args s 0 0 (Ab b0)) 4 [(0, .ref (b0 + a0')), (1, .int x1'), (2, .int x2'), (3, .int x3')] [] L') (hE : fX10_widthsOf_b4c F k4 a0 x1 x2 x3 L = some z) : WB b0 D cA p l ev (RM 1 0 0) s m args below meth c 4 0 0 (MQ below (Qk b0 D cA (some (.int z.1)) z.2) args s 0 0 (Ab b0)) 4 [(0, .ref (b0 + a0)), (1, .int x1), (2, .int x2), (3, .int x3)] [] L := by
  obtain ⟨hx, hb, hml, hown, hts, hK, hr, hlocks⟩ := id hC
  intro H locs ls hH hS hl
  unfold fX10_widthsOf_b4c at hE
  refine lv_iload_n hx hb dX10_widthsOf_4 rfl (lv_at hl 3 rfl) ?_
  refine lv_aload_n hx hb dX10_widthsOf_5 rfl (lv_at hl 0 rfl) ?_
  obtain ⟨v1, hv1, hE⟩ := Option.bind_eq_some_iff.mp hE
  refine r_gR 3 (C := RX10) (T := TX10) (N := 26) (ci := 9) hx hb hts (by decide +kernel) hown hK hH hv1 rfl (by decide) (hts (.fieldLink RX10 17 "KindStreetsModel" "streets" "[I") (by decide +kernel)) (fun _ h9 => h9) dX10_widthsOf_6 ?_
  refine lv_iconst (v := 0) hx hb dX10_widthsOf_9 (by decide) ?_
  obtain ⟨v2, hv2, hE⟩ := Option.bind_eq_some_iff.mp hE
  refine r_iald hx hb hK hH hv2 dX10_widthsOf_10 ?_
  refine lv_icmp_ge (tgt := 40) hx hb dX10_widthsOf_11 (by decide) (fun c3 => ?_) (fun c3 => ?_)
  · rw [if_pos c3] at hE
    refine lv_iload_n hx hb dX10_widthsOf_40 rfl (lv_at hl 2 rfl) ?_
    have hZ := Option.some.inj hE
    subst hZ
    exact W.iret (v := x2) hx hb hr (fun t ht hW => ⟨rfl, by rw [ht]; exact hH, hS.F ht⟩) hS.2.2 dX10_widthsOf_41
  · rw [if_neg c3] at hE
    refine lv_iload_n hx hb dX10_widthsOf_14 rfl (lv_at hl 2 rfl) ?_
    refine lv_iload_n hx hb dX10_widthsOf_15 rfl (lv_at hl 1 rfl) ?_
    refine lv_iload_n hx hb dX10_widthsOf_16 rfl (lv_at hl 3 rfl) ?_
    obtain ⟨z4, hz4, hE⟩ := Option.bind_eq_some_iff.mp hE
    refine r_callI (va_runS (As := [.int x1, .int x3]) (rest := [.int x2]) ⟨hx, hb, hml, hown, hts⟩ (sX10_has l b0 D cA hz4) (va_cwS 2 hts gX10_widthsOf_X10_has rfl rfl rfl (by decide +kernel) (rm_ok (by decide) (by decide))) (pre_S hK hH) rfl rfl hl.1 rfl (lv_room (Nat.le_of_ble_eq_true rfl)) dX10_widthsOf_17 ⟨Nat.zero_le _, Nat.zero_le _⟩) hS (fun H locs hH hS => ?_)
    refine lv_if_eq (tgt := 31) hx hb dX10_widthsOf_20 (by decide) (fun c5 => ?_) (fun c5 => ?_)
    · rw [if_pos c5] at hE
      refine lv_iconst (v := 0) hx hb dX10_widthsOf_31 (by decide) ?_
      exact sX10_widthsOf_b32 (F := F) hC hk4 hE _ _ _ hH hS (lv_sub hl [0, 1, 3] rfl)
    · rw [if_neg c5] at hE
      refine lv_aload_n hx hb dX10_widthsOf_23 rfl (lv_at hl 0 rfl) ?_
      refine lv_iload_n hx hb dX10_widthsOf_24 rfl (lv_at hl 3 rfl) ?_
      obtain ⟨z6, hz6, hE⟩ := Option.bind_eq_some_iff.mp hE
      refine r_callI (va_runV (As := [.int x3]) (rest := [.int x2]) ⟨hx, hb, hml, hown, hts⟩ (sX10_widthOf l b0 D cA hz6) (cwV 1 hts gX10_widthsOf_X10_widthOf rfl rfl rfl (by decide +kernel) (rm_ok (by decide) (by decide))) (pre_V (ci := 9) hK hH (oX10_widthOf hz6) rfl) rfl rfl hl.1 rfl (lv_room (Nat.le_of_ble_eq_true rfl)) dX10_widthsOf_25 ⟨Nat.zero_le _, Nat.zero_le _⟩) hS (fun H locs hH hS => ?_)
      refine lv_goto (tgt := 32) hx hb dX10_widthsOf_28 (by decide) ?_
      exact sX10_widthsOf_b32 (F := F) hC hk4 hE _ _ _ hH hS (lv_sub hl [0, 1, 3] rfl)
theorem sX10_widthsOf_b4 {b0 : Nat} {D : va_G} {cA : Nat → ClassId} {p : Program} {l : Launch} {ev : Env} {s : State} {m : MethodId} {args : Array Value} {below : List Frame} {meth : Method} {c : Code} {F : Nat} {z : (Int32 × HL)} (hC : Cx D cA p s m args meth c cX10_widthsOf 4 RX10 wsX10_widthsOf (some .int)) : ∀ (n : Nat) (a0 : Nat) (x1 : Int32) (x2 : Int32) (x3 : Int32) (L : HL), fX10_widthsOf_b4 F n a0 x1 x2 x3 L = some z → WB b0 D cA p l ev (RM 1 0 0) s m args below meth c 4 0 0 (MQ below (Qk b0 D cA (some (.int z.1)) z.2) args s 0 0 (Ab b0)) 4 [(0, .ref (b0 + a0)), (1, .int x1), (2, .int x2), (3, .int x3)] [] L := by
  intro n
  induction n with
  | zero => intro a0 x1 x2 x3 L hE; cases hE
  | succ n ih => intro a0 x1 x2 x3 L hE; exact sX10_widthsOf_b4c (F := F) hC ih hE
def fX10_widthsOf (F : Nat) (L : HL) (a0 : Nat) (x1 : Int32) : Option (Int32 × HL) := (o_ob L a0 9).bind fun _ => fX10_widthsOf_b4 F F a0 x1 0 0 L
theorem oX10_widthsOf {F : Nat} {L : HL} {a0 : Nat} {x1 : Int32} {z : (Int32 × HL)} (hE : fX10_widthsOf F L a0 x1 = some z) : o_ob L a0 9 = some () := by
  obtain ⟨_, h, _⟩ := Option.bind_eq_some_iff.mp hE
  exact h
set_option maxHeartbeats 4000000 in
set_option maxRecDepth 100000 in
theorem sX10_widthsOf (l : Launch) (b0 : Nat) (D : va_G) (cA : Nat → ClassId) {F : Nat} {L : HL} {a0 : Nat} {x1 : Int32} {z : (Int32 × HL)} (hE : fX10_widthsOf F L a0 x1 = some z) : Met l yX10_widthsOf wsX10_widthsOf (RM 1 0 0) (Pk b0 D cA [.ref (b0 + a0), .int x1] L) (Qk b0 D cA (some (.int z.1)) z.2) 0 0 (Ab b0) := by
  refine Met.ofW (cc := cX10_widthsOf) (maxL := 4) (ret := (some .int)) (by decide) rfl ?_
  intro p ev s m args below meth c s₁ B hml hv
  obtain ⟨rfl, hH, hK⟩ := hv
  have hx := B.exec
  have hb := B.bytes
  have hr := B.returns
  have hts := atoms_spec (ws := wsX10_widthsOf) B.pre
  have hown : s.vm.findClass RX10 = some m.cls := findClass_of_methodNamed B.named
  have hlocks := B.notSynchronized
  have hC : Cx D cA p s m _ meth c cX10_widthsOf 4 RX10 wsX10_widthsOf (some .int) := ⟨hx, hb, hml, hown, hts, hK, hr, hlocks⟩
  have hS : va_S (Ab b0) s.heap s.heap [] := va_S.rf
  have hl := lv_entry ([.ref (b0 + a0), .int x1]) (n := 4) (Nat.le_of_ble_eq_true rfl)
  rw [lg_entry_eq]
  generalize (lg_sl ([.ref (b0 + a0), .int x1]) ++ List.replicate (4 - (lg_sl ([.ref (b0 + a0), .int x1])).length) Slot.unset).toArray = ls at hl ⊢
  have hl : lv_has ls 4 [(0, .ref (b0 + a0)), (1, .int x1)] := hl
  unfold fX10_widthsOf at hE
  obtain ⟨_, _, hE⟩ := Option.bind_eq_some_iff.mp hE
  refine lv_iconst (v := 0) hx hb dX10_widthsOf_0 (by decide) ?_
  refine lv_istore_n (lv' := [(2, .int 0), (0, .ref (b0 + a0)), (1, .int x1)]) hx hb dX10_widthsOf_1 rfl hl (by decide) rfl (fun ls hl => ?_)
  refine lv_iconst (v := 0) hx hb dX10_widthsOf_2 (by decide) ?_
  refine lv_istore_n (lv' := [(3, .int 0), (2, .int 0), (0, .ref (b0 + a0)), (1, .int x1)]) hx hb dX10_widthsOf_3 rfl hl (by decide) rfl (fun ls hl => ?_)
  exact sX10_widthsOf_b4 (F := F) hC F _ _ _ _ _ hE _ _ _ hH hS (lv_sub hl [2, 3, 1, 0] rfl)
-- X10_flow
def fX10_flow_b18 (F : Nat)  (L : HL) : Option (Int32 × HL) := some ((-1), L)
set_option maxHeartbeats 4000000 in
set_option maxRecDepth 100000 in
theorem sX10_flow_b18 {b0 : Nat} {D : va_G} {cA : Nat → ClassId} {p : Program} {l : Launch} {ev : Env} {s : State} {m : MethodId} {args : Array Value} {below : List Frame} {meth : Method} {c : Code} {F : Nat} {z : (Int32 × HL)}  {L : HL} (hC : Cx D cA p s m args meth c cX10_flow 10 RX10 wsX10_flow (some .int)) (hE : fX10_flow_b18 F  L = some z) : WB b0 D cA p l ev (RM 3 0 0) s m args below meth c 10 0 0 (MQ below (Qk b0 D cA (some (.int z.1)) z.2) args s 0 0 (Ab b0)) 18 [] [] L := by
  obtain ⟨hx, hb, hml, hown, hts, hK, hr, hlocks⟩ := id hC
  intro H locs ls hH hS hl
  unfold fX10_flow_b18 at hE
  refine lv_iconst (v := (-1)) hx hb dX10_flow_18 (by decide) ?_
  have hZ := Option.some.inj hE
  subst hZ
  exact W.iret (v := (-1)) hx hb hr (fun t ht hW => ⟨rfl, by rw [ht]; exact hH, hS.F ht⟩) hS.2.2 dX10_flow_19
def fX10_flow_b124 (F : Nat) (k37 : Nat → Int32 → Int32 → Int32 → Int32 → Int32 → Int32 → Int32 → HL → Option (Int32 × HL)) (a0 : Nat) (x1 : Int32) (x2 : Int32) (x3 : Int32) (x4 : Int32) (x5 : Int32) (x6 : Int32) (x7 : Int32) (L : HL) : Option (Int32 × HL) := k37 a0 x1 x2 x3 x4 x5 x6 (x7 + 1) L
set_option maxHeartbeats 4000000 in
set_option maxRecDepth 100000 in
theorem sX10_flow_b124 {b0 : Nat} {D : va_G} {cA : Nat → ClassId} {p : Program} {l : Launch} {ev : Env} {s : State} {m : MethodId} {args : Array Value} {below : List Frame} {meth : Method} {c : Code} {F : Nat} {z : (Int32 × HL)} {k37 : Nat → Int32 → Int32 → Int32 → Int32 → Int32 → Int32 → Int32 → HL → Option (Int32 × HL)} {a0 : Nat} {x1 : Int32} {x2 : Int32} {x3 : Int32} {x4 : Int32} {x5 : Int32} {x6 : Int32} {x7 : Int32} {L : HL} (hC : Cx D cA p s m args meth c cX10_flow 10 RX10 wsX10_flow (some .int)) (hk37 : ∀ (a0' : Nat) (x1' : Int32) (x2' : Int32) (x3' : Int32) (x4' : Int32) (x5' : Int32) (x6' : Int32) (x7' : Int32) (L' : HL), k37 a0' x1' x2' x3' x4' x5' x6' x7' L' = some z → WB b0 D cA p l ev (RM 3 0 0) s m args below meth c 10 0 0 (MQ below (Qk b0 D cA (some (.int z.1)) z.2) args s 0 0 (Ab b0)) 37 [(0, .ref (b0 + a0')), (1, .int x1'), (2, .int x2'), (3, .int x3'), (4, .int x4'), (5, .int x5'), (6, .int x6'), (7, .int x7')] [] L') (hE : fX10_flow_b124 F k37 a0 x1 x2 x3 x4 x5 x6 x7 L = some z) : WB b0 D cA p l ev (RM 3 0 0) s m args below meth c 10 0 0 (MQ below (Qk b0 D cA (some (.int z.1)) z.2) args s 0 0 (Ab b0)) 124 [(0, .ref (b0 + a0)), (1, .int x1), (2, .int x2), (3, .int x3), (4, .int x4), (5, .int x5), (6, .int x6), (7, .int x7)] [] L := by
  obtain ⟨hx, hb, hml, hown, hts, hK, hr, hlocks⟩ := id hC
  intro H locs ls hH hS hl
  unfold fX10_flow_b124 at hE
  refine lv_iinc (v := (x7 + 1)) (lv' := [(7, .int (x7 + 1)), (0, .ref (b0 + a0)), (1, .int x1), (2, .int x2), (3, .int x3), (4, .int x4), (5, .int x5), (6, .int x6)]) hx hb dX10_flow_124 hl (k := 7) rfl rfl (by decide) rfl (fun ls hl => ?_)
  refine lv_goto (tgt := 37) hx hb dX10_flow_127 (by decide) ?_
  exact hk37 _ _ _ _ _ _ _ _ _ hE _ _ _ hH hS (lv_sub hl [1, 2, 3, 4, 5, 6, 7, 0] rfl)
def fX10_flow_b91 (F : Nat) (k37 : Nat → Int32 → Int32 → Int32 → Int32 → Int32 → Int32 → Int32 → HL → Option (Int32 × HL)) (a0 : Nat) (x1 : Int32) (x2 : Int32) (x3 : Int32) (x4 : Int32) (x5 : Int32) (x6 : Int32) (x7 : Int32) (x8 : Int32) (y0 : Int32) (L : HL) : Option (Int32 × HL) := if y0 = 0 then (fX10_flow_b124 F k37 a0 x1 x2 x3 x4 x5 x6 x7 L) else ((fX10_wayBy F L a0 x1 x2 (x4 &&& (x7 ^^^ (-1)))).bind fun z11 => if z11.1 = (-9) then (fX10_flow_b124 F k37 a0 x1 x2 x3 x4 x7 x8 x7 z11.2) else (fX10_flow_b124 F k37 a0 x1 x2 x3 x4 x5 x6 x7 z11.2))
set_option maxHeartbeats 4000000 in
set_option maxRecDepth 100000 in
theorem sX10_flow_b91 {b0 : Nat} {D : va_G} {cA : Nat → ClassId} {p : Program} {l : Launch} {ev : Env} {s : State} {m : MethodId} {args : Array Value} {below : List Frame} {meth : Method} {c : Code} {F : Nat} {z : (Int32 × HL)} {k37 : Nat → Int32 → Int32 → Int32 → Int32 → Int32 → Int32 → Int32 → HL → Option (Int32 × HL)} {a0 : Nat} {x1 : Int32} {x2 : Int32} {x3 : Int32} {x4 : Int32} {x5 : Int32} {x6 : Int32} {x7 : Int32} {x8 : Int32} {y0 : Int32} {L : HL} (hC : Cx D cA p s m args meth c cX10_flow 10 RX10 wsX10_flow (some .int)) (hk37 : ∀ (a0' : Nat) (x1' : Int32) (x2' : Int32) (x3' : Int32) (x4' : Int32) (x5' : Int32) (x6' : Int32) (x7' : Int32) (L' : HL), k37 a0' x1' x2' x3' x4' x5' x6' x7' L' = some z → WB b0 D cA p l ev (RM 3 0 0) s m args below meth c 10 0 0 (MQ below (Qk b0 D cA (some (.int z.1)) z.2) args s 0 0 (Ab b0)) 37 [(0, .ref (b0 + a0')), (1, .int x1'), (2, .int x2'), (3, .int x3'), (4, .int x4'), (5, .int x5'), (6, .int x6'), (7, .int x7')] [] L') (hE : fX10_flow_b91 F k37 a0 x1 x2 x3 x4 x5 x6 x7 x8 y0 L = some z) : WB b0 D cA p l ev (RM 3 0 0) s m args below meth c 10 0 0 (MQ below (Qk b0 D cA (some (.int z.1)) z.2) args s 0 0 (Ab b0)) 91 [(0, .ref (b0 + a0)), (1, .int x1), (2, .int x2), (3, .int x3), (4, .int x4), (5, .int x5), (6, .int x6), (7, .int x7), (8, .int x8)] [.int y0] L := by
  obtain ⟨hx, hb, hml, hown, hts, hK, hr, hlocks⟩ := id hC
  intro H locs ls hH hS hl
  unfold fX10_flow_b91 at hE
  refine lv_istore (lv' := [(9, .int y0), (0, .ref (b0 + a0)), (1, .int x1), (2, .int x2), (3, .int x3), (4, .int x4), (5, .int x5), (6, .int x6), (7, .int x7), (8, .int x8)]) hx hb dX10_flow_91 hl (by decide) rfl (fun ls hl => ?_)
  refine lv_iload hx hb dX10_flow_93 (lv_at hl 0 rfl) ?_
  refine lv_if_eq (tgt := 124) hx hb dX10_flow_95 (by decide) (fun c10 => ?_) (fun c10 => ?_)
  · rw [if_pos c10] at hE
    exact sX10_flow_b124 (F := F) hC hk37 hE _ _ _ hH hS (lv_sub hl [1, 2, 3, 4, 5, 6, 7, 8] rfl)
  · rw [if_neg c10] at hE
    refine lv_aload_n hx hb dX10_flow_98 rfl (lv_at hl 1 rfl) ?_
    refine lv_iload_n hx hb dX10_flow_99 rfl (lv_at hl 2 rfl) ?_
    refine lv_iload_n hx hb dX10_flow_100 rfl (lv_at hl 3 rfl) ?_
    refine lv_iload hx hb dX10_flow_101 (lv_at hl 5 rfl) ?_
    refine lv_iload hx hb dX10_flow_103 (lv_at hl 8 rfl) ?_
    refine lv_iconst (v := (-1)) hx hb dX10_flow_105 (by decide) ?_
    refine lv_ixor hx hb dX10_flow_106 ?_
    refine lv_iand hx hb dX10_flow_107 ?_
    obtain ⟨z11, hz11, hE⟩ := Option.bind_eq_some_iff.mp hE
    refine r_callI (va_runV (As := [.int x1, .int x2, .int (x4 &&& (x7 ^^^ (-1)))]) (rest := []) ⟨hx, hb, hml, hown, hts⟩ (sX10_wayBy l b0 D cA hz11) (cwV 3 hts gX10_flow_X10_wayBy rfl rfl rfl (by decide +kernel) (rm_ok (by decide) (by decide))) (pre_V (ci := 9) hK hH (oX10_wayBy hz11) rfl) rfl rfl hl.1 rfl (lv_room (Nat.le_of_ble_eq_true rfl)) dX10_flow_108 ⟨Nat.zero_le _, Nat.zero_le _⟩) hS (fun H locs hH hS => ?_)
    refine lv_bipush (v := (-9)) hx hb dX10_flow_111 (by decide) ?_
    refine lv_icmp_ne (tgt := 124) hx hb dX10_flow_113 (by decide) (fun c12 => ?_) (fun c12 => ?_)
    · rw [if_neg c12] at hE
      exact sX10_flow_b124 (F := F) hC hk37 hE _ _ _ hH hS (lv_sub hl [1, 2, 3, 4, 5, 6, 7, 8] rfl)
    · rw [if_pos c12] at hE
      refine lv_iload hx hb dX10_flow_116 (lv_at hl 8 rfl) ?_
      refine lv_istore (lv' := [(5, .int x7), (9, .int y0), (0, .ref (b0 + a0)), (1, .int x1), (2, .int x2), (3, .int x3), (4, .int x4), (6, .int x6), (7, .int x7), (8, .int x8)]) hx hb dX10_flow_118 hl (by decide) rfl (fun ls hl => ?_)
      refine lv_iload hx hb dX10_flow_120 (lv_at hl 9 rfl) ?_
      refine lv_istore (lv' := [(6, .int x8), (5, .int x7), (9, .int y0), (0, .ref (b0 + a0)), (1, .int x1), (2, .int x2), (3, .int x3), (4, .int x4), (7, .int x7), (8, .int x8)]) hx hb dX10_flow_122 hl (by decide) rfl (fun ls hl => ?_)
      exact sX10_flow_b124 (F := F) hC hk37 hE _ _ _ hH hS (lv_sub hl [3, 4, 5, 6, 7, 1, 0, 8] rfl)
def fX10_flow_b86 (F : Nat) (k37 : Nat → Int32 → Int32 → Int32 → Int32 → Int32 → Int32 → Int32 → HL → Option (Int32 × HL)) (a0 : Nat) (x1 : Int32) (x2 : Int32) (x3 : Int32) (x4 : Int32) (x5 : Int32) (x6 : Int32) (x7 : Int32) (x8 : Int32) (L : HL) : Option (Int32 × HL) := fX10_flow_b91 F k37 a0 x1 x2 x3 x4 x5 x6 x7 x8 1 L
set_option maxHeartbeats 4000000 in
set_option maxRecDepth 100000 in
theorem sX10_flow_b86 {b0 : Nat} {D : va_G} {cA : Nat → ClassId} {p : Program} {l : Launch} {ev : Env} {s : State} {m : MethodId} {args : Array Value} {below : List Frame} {meth : Method} {c : Code} {F : Nat} {z : (Int32 × HL)} {k37 : Nat → Int32 → Int32 → Int32 → Int32 → Int32 → Int32 → Int32 → HL → Option (Int32 × HL)} {a0 : Nat} {x1 : Int32} {x2 : Int32} {x3 : Int32} {x4 : Int32} {x5 : Int32} {x6 : Int32} {x7 : Int32} {x8 : Int32} {L : HL} (hC : Cx D cA p s m args meth c cX10_flow 10 RX10 wsX10_flow (some .int)) (hk37 : ∀ (a0' : Nat) (x1' : Int32) (x2' : Int32) (x3' : Int32) (x4' : Int32) (x5' : Int32) (x6' : Int32) (x7' : Int32) (L' : HL), k37 a0' x1' x2' x3' x4' x5' x6' x7' L' = some z → WB b0 D cA p l ev (RM 3 0 0) s m args below meth c 10 0 0 (MQ below (Qk b0 D cA (some (.int z.1)) z.2) args s 0 0 (Ab b0)) 37 [(0, .ref (b0 + a0')), (1, .int x1'), (2, .int x2'), (3, .int x3'), (4, .int x4'), (5, .int x5'), (6, .int x6'), (7, .int x7')] [] L') (hE : fX10_flow_b86 F k37 a0 x1 x2 x3 x4 x5 x6 x7 x8 L = some z) : WB b0 D cA p l ev (RM 3 0 0) s m args below meth c 10 0 0 (MQ below (Qk b0 D cA (some (.int z.1)) z.2) args s 0 0 (Ab b0)) 86 [(0, .ref (b0 + a0)), (1, .int x1), (2, .int x2), (3, .int x3), (4, .int x4), (5, .int x5), (6, .int x6), (7, .int x7), (8, .int x8)] [] L := by
  obtain ⟨hx, hb, hml, hown, hts, hK, hr, hlocks⟩ := id hC
  intro H locs ls hH hS hl
  unfold fX10_flow_b86 at hE
  refine lv_iconst (v := 1) hx hb dX10_flow_86 (by decide) ?_
  refine lv_goto (tgt := 91) hx hb dX10_flow_87 (by decide) ?_
  exact sX10_flow_b91 (F := F) hC hk37 hE _ _ _ hH hS (lv_sub hl [0, 1, 2, 3, 4, 5, 6, 7, 8] rfl)
def fX10_flow_b90 (F : Nat) (k37 : Nat → Int32 → Int32 → Int32 → Int32 → Int32 → Int32 → Int32 → HL → Option (Int32 × HL)) (a0 : Nat) (x1 : Int32) (x2 : Int32) (x3 : Int32) (x4 : Int32) (x5 : Int32) (x6 : Int32) (x7 : Int32) (x8 : Int32) (L : HL) : Option (Int32 × HL) := fX10_flow_b91 F k37 a0 x1 x2 x3 x4 x5 x6 x7 x8 0 L
set_option maxHeartbeats 4000000 in
set_option maxRecDepth 100000 in
theorem sX10_flow_b90 {b0 : Nat} {D : va_G} {cA : Nat → ClassId} {p : Program} {l : Launch} {ev : Env} {s : State} {m : MethodId} {args : Array Value} {below : List Frame} {meth : Method} {c : Code} {F : Nat} {z : (Int32 × HL)} {k37 : Nat → Int32 → Int32 → Int32 → Int32 → Int32 → Int32 → Int32 → HL → Option (Int32 × HL)} {a0 : Nat} {x1 : Int32} {x2 : Int32} {x3 : Int32} {x4 : Int32} {x5 : Int32} {x6 : Int32} {x7 : Int32} {x8 : Int32} {L : HL} (hC : Cx D cA p s m args meth c cX10_flow 10 RX10 wsX10_flow (some .int)) (hk37 : ∀ (a0' : Nat) (x1' : Int32) (x2' : Int32) (x3' : Int32) (x4' : Int32) (x5' : Int32) (x6' : Int32) (x7' : Int32) (L' : HL), k37 a0' x1' x2' x3' x4' x5' x6' x7' L' = some z → WB b0 D cA p l ev (RM 3 0 0) s m args below meth c 10 0 0 (MQ below (Qk b0 D cA (some (.int z.1)) z.2) args s 0 0 (Ab b0)) 37 [(0, .ref (b0 + a0')), (1, .int x1'), (2, .int x2'), (3, .int x3'), (4, .int x4'), (5, .int x5'), (6, .int x6'), (7, .int x7')] [] L') (hE : fX10_flow_b90 F k37 a0 x1 x2 x3 x4 x5 x6 x7 x8 L = some z) : WB b0 D cA p l ev (RM 3 0 0) s m args below meth c 10 0 0 (MQ below (Qk b0 D cA (some (.int z.1)) z.2) args s 0 0 (Ab b0)) 90 [(0, .ref (b0 + a0)), (1, .int x1), (2, .int x2), (3, .int x3), (4, .int x4), (5, .int x5), (6, .int x6), (7, .int x7), (8, .int x8)] [] L := by
  obtain ⟨hx, hb, hml, hown, hts, hK, hr, hlocks⟩ := id hC
  intro H locs ls hH hS hl
  unfold fX10_flow_b90 at hE
  refine lv_iconst (v := 0) hx hb dX10_flow_90 (by decide) ?_
  exact sX10_flow_b91 (F := F) hC hk37 hE _ _ _ hH hS (lv_sub hl [0, 1, 2, 3, 4, 5, 6, 7, 8] rfl)
def fX10_flow_b37c (F : Nat) (k37 : Nat → Int32 → Int32 → Int32 → Int32 → Int32 → Int32 → Int32 → HL → Option (Int32 × HL)) (a0 : Nat) (x1 : Int32) (x2 : Int32) (x3 : Int32) (x4 : Int32) (x5 : Int32) (x6 : Int32) (x7 : Int32) (L : HL) : Option (Int32 × HL) := if x4 < x7 then (if x3 = 0 then (some (x6, L)) else (some (x5, L))) else ((fX10_widthsOf F L a0 x7).bind fun z8 => if x5 = (-9) then (fX10_flow_b86 F k37 a0 x1 x2 x3 x4 x5 x6 x7 z8.1 z8.2) else (if z8.1 < x6 then (fX10_flow_b86 F k37 a0 x1 x2 x3 x4 x5 x6 x7 z8.1 z8.2) else (if z8.1 = x6 then ((fX10_bitsOf F z8.2 x7).bind fun z15 => (fX10_bitsOf F z15.2 x5).bind fun z16 => if z16.1 ≤ z15.1 then (fX10_flow_b90 F k37 a0 x1 x2 x3 x4 x5 x6 x7 z8.1 z16.2) else (fX10_flow_b86 F k37 a0 x1 x2 x3 x4 x5 x6 x7 z8.1 z16.2)) else (fX10_flow_b90 F k37 a0 x1 x2 x3 x4 x5 x6 x7 z8.1 z8.2))))
def fX10_flow_b37 (F : Nat) : Nat → Nat → Int32 → Int32 → Int32 → Int32 → Int32 → Int32 → Int32 → HL → Option (Int32 × HL)
  | 0 => fun _ _ _ _ _ _ _ _ _ => none
  | n + 1 => fun a0 x1 x2 x3 x4 x5 x6 x7 L => fX10_flow_b37c F (fX10_flow_b37 F n) a0 x1 x2 x3 x4 x5 x6 x7 L
set_option maxHeartbeats 4000000 in
set_option maxRecDepth 100000 in
theorem sX10_flow_b37c {b0 : Nat} {D : va_G} {cA : Nat → ClassId} {p : Program} {l : Launch} {ev : Env} {s : State} {m : MethodId} {args : Array Value} {below : List Frame} {meth : Method} {c : Code} {F : Nat} {z : (Int32 × HL)} {k37 : Nat → Int32 → Int32 → Int32 → Int32 → Int32 → Int32 → Int32 → HL → Option (Int32 × HL)} {a0 : Nat} {x1 : Int32} {x2 : Int32} {x3 : Int32} {x4 : Int32} {x5 : Int32} {x6 : Int32} {x7 : Int32} {L : HL} (hC : Cx D cA p s m args meth c cX10_flow 10 RX10 wsX10_flow (some .int)) (hk37 : ∀ (a0' : Nat) (x1' : Int32) (x2' : Int32) (x3' : Int32) (x4' : Int32) (x5' : Int32) (x6' : Int32) (x7' : Int32) (L' : HL), k37 a0' x1' x2' x3' x4' x5' x6' x7' L' = some z → WB b0 D cA p l ev (RM 3 0 0) s m args below meth c 10 0 0 (MQ below (Qk b0 D cA (some (.int z.1)) z.2) args s 0 0 (Ab b0)) 37 [(0, .ref (b0 + a0')), (1, .int x1'), (2, .int x2'), (3, .int x3'), (4, .int x4'), (5, .int x5'), (6, .int x6'), (7, .int x7')] [] L') (hE : fX10_flow_b37c F k37 a0 x1 x2 x3 x4 x5 x6 x7 L = some z) : WB b0 D cA p l ev (RM 3 0 0) s m args below meth c 10 0 0 (MQ below (Qk b0 D cA (some (.int z.1)) z.2) args s 0 0 (Ab b0)) 37 [(0, .ref (b0 + a0)), (1, .int x1), (2, .int x2), (3, .int x3), (4, .int x4), (5, .int x5), (6, .int x6), (7, .int x7)] [] L := by
  obtain ⟨hx, hb, hml, hown, hts, hK, hr, hlocks⟩ := id hC
  intro H locs ls hH hS hl
  unfold fX10_flow_b37c at hE
  refine lv_iload hx hb dX10_flow_37 (lv_at hl 7 rfl) ?_
  refine lv_iload hx hb dX10_flow_39 (lv_at hl 4 rfl) ?_
  refine lv_icmp_gt (tgt := 130) hx hb dX10_flow_41 (by decide) (fun c6 => ?_) (fun c6 => ?_)
  · rw [if_pos c6] at hE
    refine lv_iload_n hx hb dX10_flow_130 rfl (lv_at hl 3 rfl) ?_
    refine lv_if_ne (tgt := 139) hx hb dX10_flow_131 (by decide) (fun c7 => ?_) (fun c7 => ?_)
    · rw [if_neg c7] at hE
      refine lv_iload hx hb dX10_flow_139 (lv_at hl 5 rfl) ?_
      have hZ := Option.some.inj hE
      subst hZ
      exact W.iret (v := x5) hx hb hr (fun t ht hW => ⟨rfl, by rw [ht]; exact hH, hS.F ht⟩) hS.2.2 dX10_flow_141
    · rw [if_pos c7] at hE
      refine lv_iload hx hb dX10_flow_134 (lv_at hl 6 rfl) ?_
      refine lv_goto (tgt := 141) hx hb dX10_flow_136 (by decide) ?_
      have hZ := Option.some.inj hE
      subst hZ
      exact W.iret (v := x6) hx hb hr (fun t ht hW => ⟨rfl, by rw [ht]; exact hH, hS.F ht⟩) hS.2.2 dX10_flow_141
  · rw [if_neg c6] at hE
    refine lv_aload_n hx hb dX10_flow_44 rfl (lv_at hl 0 rfl) ?_
    refine lv_iload hx hb dX10_flow_45 (lv_at hl 7 rfl) ?_
    obtain ⟨z8, hz8, hE⟩ := Option.bind_eq_some_iff.mp hE
    refine r_callI (va_runV (As := [.int x7]) (rest := []) ⟨hx, hb, hml, hown, hts⟩ (sX10_widthsOf l b0 D cA hz8) (cwV 1 hts gX10_flow_X10_widthsOf rfl rfl rfl (by decide +kernel) (rm_ok (by decide) (by decide))) (pre_V (ci := 9) hK hH (oX10_widthsOf hz8) rfl) rfl rfl hl.1 rfl (lv_room (Nat.le_of_ble_eq_true rfl)) dX10_flow_47 ⟨Nat.zero_le _, Nat.zero_le _⟩) hS (fun H locs hH hS => ?_)
    refine lv_istore (lv' := [(8, .int z8.1), (0, .ref (b0 + a0)), (1, .int x1), (2, .int x2), (3, .int x3), (4, .int x4), (5, .int x5), (6, .int x6), (7, .int x7)]) hx hb dX10_flow_50 hl (by decide) rfl (fun ls hl => ?_)
    refine lv_iload hx hb dX10_flow_52 (lv_at hl 6 rfl) ?_
    refine lv_bipush (v := (-9)) hx hb dX10_flow_54 (by decide) ?_
    refine lv_icmp_eq (tgt := 86) hx hb dX10_flow_56 (by decide) (fun c9 => ?_) (fun c9 => ?_)
    · rw [if_pos c9] at hE
      exact sX10_flow_b86 (F := F) hC hk37 hE _ _ _ hH hS (lv_sub hl [1, 2, 3, 4, 5, 6, 7, 8, 0] rfl)
    · rw [if_neg c9] at hE
      refine lv_iload hx hb dX10_flow_59 (lv_at hl 0 rfl) ?_
      refine lv_iload hx hb dX10_flow_61 (lv_at hl 7 rfl) ?_
      refine lv_icmp_lt (tgt := 86) hx hb dX10_flow_63 (by decide) (fun c13 => ?_) (fun c13 => ?_)
      · rw [if_pos c13] at hE
        exact sX10_flow_b86 (F := F) hC hk37 hE _ _ _ hH hS (lv_sub hl [1, 2, 3, 4, 5, 6, 7, 8, 0] rfl)
      · rw [if_neg c13] at hE
        refine lv_iload hx hb dX10_flow_66 (lv_at hl 0 rfl) ?_
        refine lv_iload hx hb dX10_flow_68 (lv_at hl 7 rfl) ?_
        refine lv_icmp_ne (tgt := 90) hx hb dX10_flow_70 (by decide) (fun c14 => ?_) (fun c14 => ?_)
        · rw [if_neg c14] at hE
          exact sX10_flow_b90 (F := F) hC hk37 hE _ _ _ hH hS (lv_sub hl [1, 2, 3, 4, 5, 6, 7, 8, 0] rfl)
        · rw [if_pos c14] at hE
          refine lv_iload hx hb dX10_flow_73 (lv_at hl 8 rfl) ?_
          obtain ⟨z15, hz15, hE⟩ := Option.bind_eq_some_iff.mp hE
          refine r_callI (va_runS (As := [.int x7]) (rest := []) ⟨hx, hb, hml, hown, hts⟩ (sX10_bitsOf l b0 D cA hz15) (va_cwS 1 hts gX10_flow_X10_bitsOf rfl rfl rfl (by decide +kernel) (rm_ok (by decide) (by decide))) (pre_S hK hH) rfl rfl hl.1 rfl (lv_room (Nat.le_of_ble_eq_true rfl)) dX10_flow_75 ⟨Nat.zero_le _, Nat.zero_le _⟩) hS (fun H locs hH hS => ?_)
          refine lv_iload hx hb dX10_flow_78 (lv_at hl 6 rfl) ?_
          obtain ⟨z16, hz16, hE⟩ := Option.bind_eq_some_iff.mp hE
          refine r_callI (va_runS (As := [.int x5]) (rest := [.int z15.1]) ⟨hx, hb, hml, hown, hts⟩ (sX10_bitsOf l b0 D cA hz16) (va_cwS 1 hts gX10_flow_X10_bitsOf rfl rfl rfl (by decide +kernel) (rm_ok (by decide) (by decide))) (pre_S hK hH) rfl rfl hl.1 rfl (lv_room (Nat.le_of_ble_eq_true rfl)) dX10_flow_80 ⟨Nat.zero_le _, Nat.zero_le _⟩) hS (fun H locs hH hS => ?_)
          refine lv_icmp_ge (tgt := 90) hx hb dX10_flow_83 (by decide) (fun c17 => ?_) (fun c17 => ?_)
          · rw [if_pos c17] at hE
            exact sX10_flow_b90 (F := F) hC hk37 hE _ _ _ hH hS (lv_sub hl [1, 2, 3, 4, 5, 6, 7, 8, 0] rfl)
          · rw [if_neg c17] at hE
            exact sX10_flow_b86 (F := F) hC hk37 hE _ _ _ hH hS (lv_sub hl [1, 2, 3, 4, 5, 6, 7, 8, 0] rfl)
theorem sX10_flow_b37 {b0 : Nat} {D : va_G} {cA : Nat → ClassId} {p : Program} {l : Launch} {ev : Env} {s : State} {m : MethodId} {args : Array Value} {below : List Frame} {meth : Method} {c : Code} {F : Nat} {z : (Int32 × HL)} (hC : Cx D cA p s m args meth c cX10_flow 10 RX10 wsX10_flow (some .int)) : ∀ (n : Nat) (a0 : Nat) (x1 : Int32) (x2 : Int32) (x3 : Int32) (x4 : Int32) (x5 : Int32) (x6 : Int32) (x7 : Int32) (L : HL), fX10_flow_b37 F n a0 x1 x2 x3 x4 x5 x6 x7 L = some z → WB b0 D cA p l ev (RM 3 0 0) s m args below meth c 10 0 0 (MQ below (Qk b0 D cA (some (.int z.1)) z.2) args s 0 0 (Ab b0)) 37 [(0, .ref (b0 + a0)), (1, .int x1), (2, .int x2), (3, .int x3), (4, .int x4), (5, .int x5), (6, .int x6), (7, .int x7)] [] L := by
  intro n
  induction n with
  | zero => intro a0 x1 x2 x3 x4 x5 x6 x7 L hE; cases hE
  | succ n ih => intro a0 x1 x2 x3 x4 x5 x6 x7 L hE; exact sX10_flow_b37c (F := F) hC ih hE
def fX10_flow (F : Nat) (L : HL) (a0 : Nat) (x1 : Int32) (x2 : Int32) (x3 : Int32) : Option (Int32 × HL) := (o_ob L a0 9).bind fun _ => (fX10_areTwo F L a0 x1 x2).bind fun z1 => if z1.1 = 0 then (fX10_flow_b18 F z1.2) else ((fX10_in F z1.2 x3 0 1).bind fun z3 => if z3.1 = 0 then (fX10_flow_b18 F z3.2) else ((fX10_openBy F z3.2 a0 0).bind fun z5 => fX10_flow_b37 F F a0 x1 x2 x3 z5.1 (-9) 0 0 z5.2))
theorem oX10_flow {F : Nat} {L : HL} {a0 : Nat} {x1 : Int32} {x2 : Int32} {x3 : Int32} {z : (Int32 × HL)} (hE : fX10_flow F L a0 x1 x2 x3 = some z) : o_ob L a0 9 = some () := by
  obtain ⟨_, h, _⟩ := Option.bind_eq_some_iff.mp hE
  exact h
set_option maxHeartbeats 4000000 in
set_option maxRecDepth 100000 in
theorem sX10_flow (l : Launch) (b0 : Nat) (D : va_G) (cA : Nat → ClassId) {F : Nat} {L : HL} {a0 : Nat} {x1 : Int32} {x2 : Int32} {x3 : Int32} {z : (Int32 × HL)} (hE : fX10_flow F L a0 x1 x2 x3 = some z) : Met l yX10_flow wsX10_flow (RM 3 0 0) (Pk b0 D cA [.ref (b0 + a0), .int x1, .int x2, .int x3] L) (Qk b0 D cA (some (.int z.1)) z.2) 0 0 (Ab b0) := by
  refine Met.ofW (cc := cX10_flow) (maxL := 10) (ret := (some .int)) (by decide) rfl ?_
  intro p ev s m args below meth c s₁ B hml hv
  obtain ⟨rfl, hH, hK⟩ := hv
  have hx := B.exec
  have hb := B.bytes
  have hr := B.returns
  have hts := atoms_spec (ws := wsX10_flow) B.pre
  have hown : s.vm.findClass RX10 = some m.cls := findClass_of_methodNamed B.named
  have hlocks := B.notSynchronized
  have hC : Cx D cA p s m _ meth c cX10_flow 10 RX10 wsX10_flow (some .int) := ⟨hx, hb, hml, hown, hts, hK, hr, hlocks⟩
  have hS : va_S (Ab b0) s.heap s.heap [] := va_S.rf
  have hl := lv_entry ([.ref (b0 + a0), .int x1, .int x2, .int x3]) (n := 10) (Nat.le_of_ble_eq_true rfl)
  rw [lg_entry_eq]
  generalize (lg_sl ([.ref (b0 + a0), .int x1, .int x2, .int x3]) ++ List.replicate (10 - (lg_sl ([.ref (b0 + a0), .int x1, .int x2, .int x3])).length) Slot.unset).toArray = ls at hl ⊢
  have hl : lv_has ls 10 [(0, .ref (b0 + a0)), (1, .int x1), (2, .int x2), (3, .int x3)] := hl
  unfold fX10_flow at hE
  obtain ⟨_, _, hE⟩ := Option.bind_eq_some_iff.mp hE
  refine lv_aload_n hx hb dX10_flow_0 rfl (lv_at hl 0 rfl) ?_
  refine lv_iload_n hx hb dX10_flow_1 rfl (lv_at hl 1 rfl) ?_
  refine lv_iload_n hx hb dX10_flow_2 rfl (lv_at hl 2 rfl) ?_
  obtain ⟨z1, hz1, hE⟩ := Option.bind_eq_some_iff.mp hE
  refine r_callI (va_runV (As := [.int x1, .int x2]) (rest := []) ⟨hx, hb, hml, hown, hts⟩ (sX10_areTwo l b0 D cA hz1) (cwV 2 hts gX10_flow_X10_areTwo rfl rfl rfl (by decide +kernel) (rm_ok (by decide) (by decide))) (pre_V (ci := 9) hK hH (oX10_areTwo hz1) rfl) rfl rfl hl.1 rfl (lv_room (Nat.le_of_ble_eq_true rfl)) dX10_flow_3 ⟨Nat.zero_le _, Nat.zero_le _⟩) hS (fun H locs hH hS => ?_)
  refine lv_if_eq (tgt := 18) hx hb dX10_flow_6 (by decide) (fun c2 => ?_) (fun c2 => ?_)
  · rw [if_pos c2] at hE
    exact sX10_flow_b18 (F := F) hC hE _ _ _ hH hS (lv_sub hl [] rfl)
  · rw [if_neg c2] at hE
    refine lv_iload_n hx hb dX10_flow_9 rfl (lv_at hl 3 rfl) ?_
    refine lv_iconst (v := 0) hx hb dX10_flow_10 (by decide) ?_
    refine lv_iconst (v := 1) hx hb dX10_flow_11 (by decide) ?_
    obtain ⟨z3, hz3, hE⟩ := Option.bind_eq_some_iff.mp hE
    refine r_callI (va_runS (As := [.int x3, .int 0, .int 1]) (rest := []) ⟨hx, hb, hml, hown, hts⟩ (sX10_in l b0 D cA hz3) (va_cwS 3 hts gX10_flow_X10_in rfl rfl rfl (by decide +kernel) (rm_ok (by decide) (by decide))) (pre_S hK hH) rfl rfl hl.1 rfl (lv_room (Nat.le_of_ble_eq_true rfl)) dX10_flow_12 ⟨Nat.zero_le _, Nat.zero_le _⟩) hS (fun H locs hH hS => ?_)
    refine lv_if_ne (tgt := 20) hx hb dX10_flow_15 (by decide) (fun c4 => ?_) (fun c4 => ?_)
    · rw [if_neg c4] at hE
      refine lv_aload_n hx hb dX10_flow_20 rfl (lv_at hl 0 rfl) ?_
      refine lv_iconst (v := 0) hx hb dX10_flow_21 (by decide) ?_
      obtain ⟨z5, hz5, hE⟩ := Option.bind_eq_some_iff.mp hE
      refine r_callI (va_runV (As := [.int 0]) (rest := []) ⟨hx, hb, hml, hown, hts⟩ (sX10_openBy l b0 D cA hz5) (cwV 1 hts gX10_flow_X10_openBy rfl rfl rfl (by decide +kernel) (rm_ok (by decide) (by decide))) (pre_V (ci := 9) hK hH (oX10_openBy hz5) rfl) rfl rfl hl.1 rfl (lv_room (Nat.le_of_ble_eq_true rfl)) dX10_flow_22 ⟨Nat.zero_le _, Nat.zero_le _⟩) hS (fun H locs hH hS => ?_)
      refine lv_istore (lv' := [(4, .int z5.1), (0, .ref (b0 + a0)), (1, .int x1), (2, .int x2), (3, .int x3)]) hx hb dX10_flow_25 hl (by decide) rfl (fun ls hl => ?_)
      refine lv_bipush (v := (-9)) hx hb dX10_flow_27 (by decide) ?_
      refine lv_istore (lv' := [(5, .int (-9)), (4, .int z5.1), (0, .ref (b0 + a0)), (1, .int x1), (2, .int x2), (3, .int x3)]) hx hb dX10_flow_29 hl (by decide) rfl (fun ls hl => ?_)
      refine lv_iconst (v := 0) hx hb dX10_flow_31 (by decide) ?_
      refine lv_istore (lv' := [(6, .int 0), (5, .int (-9)), (4, .int z5.1), (0, .ref (b0 + a0)), (1, .int x1), (2, .int x2), (3, .int x3)]) hx hb dX10_flow_32 hl (by decide) rfl (fun ls hl => ?_)
      refine lv_iconst (v := 0) hx hb dX10_flow_34 (by decide) ?_
      refine lv_istore (lv' := [(7, .int 0), (6, .int 0), (5, .int (-9)), (4, .int z5.1), (0, .ref (b0 + a0)), (1, .int x1), (2, .int x2), (3, .int x3)]) hx hb dX10_flow_35 hl (by decide) rfl (fun ls hl => ?_)
      exact sX10_flow_b37 (F := F) hC F _ _ _ _ _ _ _ _ _ hE _ _ _ hH hS (lv_sub hl [4, 5, 6, 7, 3, 2, 1, 0] rfl)
    · rw [if_pos c4] at hE
      exact sX10_flow_b18 (F := F) hC hE _ _ _ hH hS (lv_sub hl [] rfl)
-- X10_need
def fX10_need_b19 (F : Nat)  (L : HL) : Option (Int32 × HL) := some ((-1), L)
set_option maxHeartbeats 4000000 in
set_option maxRecDepth 100000 in
theorem sX10_need_b19 {b0 : Nat} {D : va_G} {cA : Nat → ClassId} {p : Program} {l : Launch} {ev : Env} {s : State} {m : MethodId} {args : Array Value} {below : List Frame} {meth : Method} {c : Code} {F : Nat} {z : (Int32 × HL)}  {L : HL} (hC : Cx D cA p s m args meth c cX10_need 8 RX10 wsX10_need (some .int)) (hE : fX10_need_b19 F  L = some z) : WB b0 D cA p l ev (RM 3 0 0) s m args below meth c 8 0 0 (MQ below (Qk b0 D cA (some (.int z.1)) z.2) args s 0 0 (Ab b0)) 19 [] [] L := by
  obtain ⟨hx, hb, hml, hown, hts, hK, hr, hlocks⟩ := id hC
  intro H locs ls hH hS hl
  unfold fX10_need_b19 at hE
  refine lv_iconst (v := (-1)) hx hb dX10_need_19 (by decide) ?_
  have hZ := Option.some.inj hE
  subst hZ
  exact W.iret (v := (-1)) hx hb hr (fun t ht hW => ⟨rfl, by rw [ht]; exact hH, hS.F ht⟩) hS.2.2 dX10_need_20
def fX10_need_b89 (F : Nat) (k42 : Nat → Int32 → Int32 → Int32 → Int32 → Int32 → Int32 → HL → Option (Int32 × HL)) (a0 : Nat) (x1 : Int32) (x2 : Int32) (x4 : Int32) (x5 : Int32) (x6 : Int32) (x7 : Int32) (L : HL) : Option (Int32 × HL) := k42 a0 x1 x2 x4 x5 x6 (x7 + 1) L
set_option maxHeartbeats 4000000 in
set_option maxRecDepth 100000 in
theorem sX10_need_b89 {b0 : Nat} {D : va_G} {cA : Nat → ClassId} {p : Program} {l : Launch} {ev : Env} {s : State} {m : MethodId} {args : Array Value} {below : List Frame} {meth : Method} {c : Code} {F : Nat} {z : (Int32 × HL)} {k42 : Nat → Int32 → Int32 → Int32 → Int32 → Int32 → Int32 → HL → Option (Int32 × HL)} {a0 : Nat} {x1 : Int32} {x2 : Int32} {x4 : Int32} {x5 : Int32} {x6 : Int32} {x7 : Int32} {L : HL} (hC : Cx D cA p s m args meth c cX10_need 8 RX10 wsX10_need (some .int)) (hk42 : ∀ (a0' : Nat) (x1' : Int32) (x2' : Int32) (x4' : Int32) (x5' : Int32) (x6' : Int32) (x7' : Int32) (L' : HL), k42 a0' x1' x2' x4' x5' x6' x7' L' = some z → WB b0 D cA p l ev (RM 3 0 0) s m args below meth c 8 0 0 (MQ below (Qk b0 D cA (some (.int z.1)) z.2) args s 0 0 (Ab b0)) 42 [(0, .ref (b0 + a0')), (1, .int x1'), (2, .int x2'), (4, .int x4'), (5, .int x5'), (6, .int x6'), (7, .int x7')] [] L') (hE : fX10_need_b89 F k42 a0 x1 x2 x4 x5 x6 x7 L = some z) : WB b0 D cA p l ev (RM 3 0 0) s m args below meth c 8 0 0 (MQ below (Qk b0 D cA (some (.int z.1)) z.2) args s 0 0 (Ab b0)) 89 [(0, .ref (b0 + a0)), (1, .int x1), (2, .int x2), (4, .int x4), (5, .int x5), (6, .int x6), (7, .int x7)] [] L := by
  obtain ⟨hx, hb, hml, hown, hts, hK, hr, hlocks⟩ := id hC
  intro H locs ls hH hS hl
  unfold fX10_need_b89 at hE
  refine lv_iinc (v := (x7 + 1)) (lv' := [(7, .int (x7 + 1)), (0, .ref (b0 + a0)), (1, .int x1), (2, .int x2), (4, .int x4), (5, .int x5), (6, .int x6)]) hx hb dX10_need_89 hl (k := 6) rfl rfl (by decide) rfl (fun ls hl => ?_)
  refine lv_goto (tgt := 42) hx hb dX10_need_92 (by decide) ?_
  exact hk42 _ _ _ _ _ _ _ _ hE _ _ _ hH hS (lv_sub hl [1, 2, 3, 4, 5, 6, 0] rfl)
def fX10_need_b69 (F : Nat) (k42 : Nat → Int32 → Int32 → Int32 → Int32 → Int32 → Int32 → HL → Option (Int32 × HL)) (a0 : Nat) (x1 : Int32) (x2 : Int32) (x4 : Int32) (x5 : Int32) (x6 : Int32) (x7 : Int32) (L : HL) : Option (Int32 × HL) := (fX10_wayBy F L a0 x1 x2 (x4 ||| x7)).bind fun z9 => if z9.1 = (-9) then (fX10_need_b89 F k42 a0 x1 x2 x4 x5 x6 x7 z9.2) else (fX10_need_b89 F k42 a0 x1 x2 x4 x5 x7 x7 z9.2)
set_option maxHeartbeats 4000000 in
set_option maxRecDepth 100000 in
theorem sX10_need_b69 {b0 : Nat} {D : va_G} {cA : Nat → ClassId} {p : Program} {l : Launch} {ev : Env} {s : State} {m : MethodId} {args : Array Value} {below : List Frame} {meth : Method} {c : Code} {F : Nat} {z : (Int32 × HL)} {k42 : Nat → Int32 → Int32 → Int32 → Int32 → Int32 → Int32 → HL → Option (Int32 × HL)} {a0 : Nat} {x1 : Int32} {x2 : Int32} {x4 : Int32} {x5 : Int32} {x6 : Int32} {x7 : Int32} {L : HL} (hC : Cx D cA p s m args meth c cX10_need 8 RX10 wsX10_need (some .int)) (hk42 : ∀ (a0' : Nat) (x1' : Int32) (x2' : Int32) (x4' : Int32) (x5' : Int32) (x6' : Int32) (x7' : Int32) (L' : HL), k42 a0' x1' x2' x4' x5' x6' x7' L' = some z → WB b0 D cA p l ev (RM 3 0 0) s m args below meth c 8 0 0 (MQ below (Qk b0 D cA (some (.int z.1)) z.2) args s 0 0 (Ab b0)) 42 [(0, .ref (b0 + a0')), (1, .int x1'), (2, .int x2'), (4, .int x4'), (5, .int x5'), (6, .int x6'), (7, .int x7')] [] L') (hE : fX10_need_b69 F k42 a0 x1 x2 x4 x5 x6 x7 L = some z) : WB b0 D cA p l ev (RM 3 0 0) s m args below meth c 8 0 0 (MQ below (Qk b0 D cA (some (.int z.1)) z.2) args s 0 0 (Ab b0)) 69 [(0, .ref (b0 + a0)), (1, .int x1), (2, .int x2), (4, .int x4), (5, .int x5), (6, .int x6), (7, .int x7)] [] L := by
  obtain ⟨hx, hb, hml, hown, hts, hK, hr, hlocks⟩ := id hC
  intro H locs ls hH hS hl
  unfold fX10_need_b69 at hE
  refine lv_aload_n hx hb dX10_need_69 rfl (lv_at hl 0 rfl) ?_
  refine lv_iload_n hx hb dX10_need_70 rfl (lv_at hl 1 rfl) ?_
  refine lv_iload_n hx hb dX10_need_71 rfl (lv_at hl 2 rfl) ?_
  refine lv_iload hx hb dX10_need_72 (lv_at hl 3 rfl) ?_
  refine lv_iload hx hb dX10_need_74 (lv_at hl 6 rfl) ?_
  refine lv_ior hx hb dX10_need_76 ?_
  obtain ⟨z9, hz9, hE⟩ := Option.bind_eq_some_iff.mp hE
  refine r_callI (va_runV (As := [.int x1, .int x2, .int (x4 ||| x7)]) (rest := []) ⟨hx, hb, hml, hown, hts⟩ (sX10_wayBy l b0 D cA hz9) (cwV 3 hts gX10_need_X10_wayBy rfl rfl rfl (by decide +kernel) (rm_ok (by decide) (by decide))) (pre_V (ci := 9) hK hH (oX10_wayBy hz9) rfl) rfl rfl hl.1 rfl (lv_room (Nat.le_of_ble_eq_true rfl)) dX10_need_77 ⟨Nat.zero_le _, Nat.zero_le _⟩) hS (fun H locs hH hS => ?_)
  refine lv_bipush (v := (-9)) hx hb dX10_need_80 (by decide) ?_
  refine lv_icmp_eq (tgt := 89) hx hb dX10_need_82 (by decide) (fun c10 => ?_) (fun c10 => ?_)
  · rw [if_pos c10] at hE
    exact sX10_need_b89 (F := F) hC hk42 hE _ _ _ hH hS (lv_sub hl [0, 1, 2, 3, 4, 5, 6] rfl)
  · rw [if_neg c10] at hE
    refine lv_iload hx hb dX10_need_85 (lv_at hl 6 rfl) ?_
    refine lv_istore (lv' := [(6, .int x7), (0, .ref (b0 + a0)), (1, .int x1), (2, .int x2), (4, .int x4), (5, .int x5), (7, .int x7)]) hx hb dX10_need_87 hl (by decide) rfl (fun ls hl => ?_)
    exact sX10_need_b89 (F := F) hC hk42 hE _ _ _ hH hS (lv_sub hl [1, 2, 3, 4, 5, 0, 6] rfl)
def fX10_need_b42c (F : Nat) (k42 : Nat → Int32 → Int32 → Int32 → Int32 → Int32 → Int32 → HL → Option (Int32 × HL)) (a0 : Nat) (x1 : Int32) (x2 : Int32) (x4 : Int32) (x5 : Int32) (x6 : Int32) (x7 : Int32) (L : HL) : Option (Int32 × HL) := if x5 < x7 then (some (x6, L)) else (if x6 = (-9) then (fX10_need_b69 F k42 a0 x1 x2 x4 x5 x6 x7 L) else ((fX10_bitsOf F L x7).bind fun z11 => (fX10_bitsOf F z11.2 x6).bind fun z12 => if z12.1 ≤ z11.1 then (fX10_need_b89 F k42 a0 x1 x2 x4 x5 x6 x7 z12.2) else (fX10_need_b69 F k42 a0 x1 x2 x4 x5 x6 x7 z12.2)))
def fX10_need_b42 (F : Nat) : Nat → Nat → Int32 → Int32 → Int32 → Int32 → Int32 → Int32 → HL → Option (Int32 × HL)
  | 0 => fun _ _ _ _ _ _ _ _ => none
  | n + 1 => fun a0 x1 x2 x4 x5 x6 x7 L => fX10_need_b42c F (fX10_need_b42 F n) a0 x1 x2 x4 x5 x6 x7 L
set_option maxHeartbeats 4000000 in
set_option maxRecDepth 100000 in
theorem sX10_need_b42c {b0 : Nat} {D : va_G} {cA : Nat → ClassId} {p : Program} {l : Launch} {ev : Env} {s : State} {m : MethodId} {args : Array Value} {below : List Frame} {meth : Method} {c : Code} {F : Nat} {z : (Int32 × HL)} {k42 : Nat → Int32 → Int32 → Int32 → Int32 → Int32 → Int32 → HL → Option (Int32 × HL)} {a0 : Nat} {x1 : Int32} {x2 : Int32} {x4 : Int32} {x5 : Int32} {x6 : Int32} {x7 : Int32} {L : HL} (hC : Cx D cA p s m args meth c cX10_need 8 RX10 wsX10_need (some .int)) (hk42 : ∀ (a0' : Nat) (x1' : Int32) (x2' : Int32) (x4' : Int32) (x5' : Int32) (x6' : Int32) (x7' : Int32) (L' : HL), k42 a0' x1' x2' x4' x5' x6' x7' L' = some z → WB b0 D cA p l ev (RM 3 0 0) s m args below meth c 8 0 0 (MQ below (Qk b0 D cA (some (.int z.1)) z.2) args s 0 0 (Ab b0)) 42 [(0, .ref (b0 + a0')), (1, .int x1'), (2, .int x2'), (4, .int x4'), (5, .int x5'), (6, .int x6'), (7, .int x7')] [] L') (hE : fX10_need_b42c F k42 a0 x1 x2 x4 x5 x6 x7 L = some z) : WB b0 D cA p l ev (RM 3 0 0) s m args below meth c 8 0 0 (MQ below (Qk b0 D cA (some (.int z.1)) z.2) args s 0 0 (Ab b0)) 42 [(0, .ref (b0 + a0)), (1, .int x1), (2, .int x2), (4, .int x4), (5, .int x5), (6, .int x6), (7, .int x7)] [] L := by
  obtain ⟨hx, hb, hml, hown, hts, hK, hr, hlocks⟩ := id hC
  intro H locs ls hH hS hl
  unfold fX10_need_b42c at hE
  refine lv_iload hx hb dX10_need_42 (lv_at hl 6 rfl) ?_
  refine lv_iload hx hb dX10_need_44 (lv_at hl 4 rfl) ?_
  refine lv_icmp_gt (tgt := 95) hx hb dX10_need_46 (by decide) (fun c7 => ?_) (fun c7 => ?_)
  · rw [if_pos c7] at hE
    refine lv_iload hx hb dX10_need_95 (lv_at hl 5 rfl) ?_
    have hZ := Option.some.inj hE
    subst hZ
    exact W.iret (v := x6) hx hb hr (fun t ht hW => ⟨rfl, by rw [ht]; exact hH, hS.F ht⟩) hS.2.2 dX10_need_97
  · rw [if_neg c7] at hE
    refine lv_iload hx hb dX10_need_49 (lv_at hl 5 rfl) ?_
    refine lv_bipush (v := (-9)) hx hb dX10_need_51 (by decide) ?_
    refine lv_icmp_eq (tgt := 69) hx hb dX10_need_53 (by decide) (fun c8 => ?_) (fun c8 => ?_)
    · rw [if_pos c8] at hE
      exact sX10_need_b69 (F := F) hC hk42 hE _ _ _ hH hS (lv_sub hl [0, 1, 2, 3, 4, 5, 6] rfl)
    · rw [if_neg c8] at hE
      refine lv_iload hx hb dX10_need_56 (lv_at hl 6 rfl) ?_
      obtain ⟨z11, hz11, hE⟩ := Option.bind_eq_some_iff.mp hE
      refine r_callI (va_runS (As := [.int x7]) (rest := []) ⟨hx, hb, hml, hown, hts⟩ (sX10_bitsOf l b0 D cA hz11) (va_cwS 1 hts gX10_need_X10_bitsOf rfl rfl rfl (by decide +kernel) (rm_ok (by decide) (by decide))) (pre_S hK hH) rfl rfl hl.1 rfl (lv_room (Nat.le_of_ble_eq_true rfl)) dX10_need_58 ⟨Nat.zero_le _, Nat.zero_le _⟩) hS (fun H locs hH hS => ?_)
      refine lv_iload hx hb dX10_need_61 (lv_at hl 5 rfl) ?_
      obtain ⟨z12, hz12, hE⟩ := Option.bind_eq_some_iff.mp hE
      refine r_callI (va_runS (As := [.int x6]) (rest := [.int z11.1]) ⟨hx, hb, hml, hown, hts⟩ (sX10_bitsOf l b0 D cA hz12) (va_cwS 1 hts gX10_need_X10_bitsOf rfl rfl rfl (by decide +kernel) (rm_ok (by decide) (by decide))) (pre_S hK hH) rfl rfl hl.1 rfl (lv_room (Nat.le_of_ble_eq_true rfl)) dX10_need_63 ⟨Nat.zero_le _, Nat.zero_le _⟩) hS (fun H locs hH hS => ?_)
      refine lv_icmp_ge (tgt := 89) hx hb dX10_need_66 (by decide) (fun c13 => ?_) (fun c13 => ?_)
      · rw [if_pos c13] at hE
        exact sX10_need_b89 (F := F) hC hk42 hE _ _ _ hH hS (lv_sub hl [0, 1, 2, 3, 4, 5, 6] rfl)
      · rw [if_neg c13] at hE
        exact sX10_need_b69 (F := F) hC hk42 hE _ _ _ hH hS (lv_sub hl [0, 1, 2, 3, 4, 5, 6] rfl)
theorem sX10_need_b42 {b0 : Nat} {D : va_G} {cA : Nat → ClassId} {p : Program} {l : Launch} {ev : Env} {s : State} {m : MethodId} {args : Array Value} {below : List Frame} {meth : Method} {c : Code} {F : Nat} {z : (Int32 × HL)} (hC : Cx D cA p s m args meth c cX10_need 8 RX10 wsX10_need (some .int)) : ∀ (n : Nat) (a0 : Nat) (x1 : Int32) (x2 : Int32) (x4 : Int32) (x5 : Int32) (x6 : Int32) (x7 : Int32) (L : HL), fX10_need_b42 F n a0 x1 x2 x4 x5 x6 x7 L = some z → WB b0 D cA p l ev (RM 3 0 0) s m args below meth c 8 0 0 (MQ below (Qk b0 D cA (some (.int z.1)) z.2) args s 0 0 (Ab b0)) 42 [(0, .ref (b0 + a0)), (1, .int x1), (2, .int x2), (4, .int x4), (5, .int x5), (6, .int x6), (7, .int x7)] [] L := by
  intro n
  induction n with
  | zero => intro a0 x1 x2 x4 x5 x6 x7 L hE; cases hE
  | succ n ih => intro a0 x1 x2 x4 x5 x6 x7 L hE; exact sX10_need_b42c (F := F) hC ih hE
def fX10_need (F : Nat) (L : HL) (a0 : Nat) (x1 : Int32) (x2 : Int32) (x3 : Int32) : Option (Int32 × HL) := (o_ob L a0 9).bind fun _ => (fX10_areTwo F L a0 x1 x2).bind fun z1 => if z1.1 = 0 then (fX10_need_b19 F z1.2) else ((fX10_in F z1.2 x3 1 10).bind fun z3 => if z3.1 = 0 then (fX10_need_b19 F z3.2) else ((fX10_openBy F z3.2 a0 x3).bind fun z5 => (fX10_openBy F z5.2 a0 0).bind fun z6 => fX10_need_b42 F F a0 x1 x2 z5.1 z6.1 (-9) 0 z6.2))
theorem oX10_need {F : Nat} {L : HL} {a0 : Nat} {x1 : Int32} {x2 : Int32} {x3 : Int32} {z : (Int32 × HL)} (hE : fX10_need F L a0 x1 x2 x3 = some z) : o_ob L a0 9 = some () := by
  obtain ⟨_, h, _⟩ := Option.bind_eq_some_iff.mp hE
  exact h
set_option maxHeartbeats 4000000 in
set_option maxRecDepth 100000 in
theorem sX10_need (l : Launch) (b0 : Nat) (D : va_G) (cA : Nat → ClassId) {F : Nat} {L : HL} {a0 : Nat} {x1 : Int32} {x2 : Int32} {x3 : Int32} {z : (Int32 × HL)} (hE : fX10_need F L a0 x1 x2 x3 = some z) : Met l yX10_need wsX10_need (RM 3 0 0) (Pk b0 D cA [.ref (b0 + a0), .int x1, .int x2, .int x3] L) (Qk b0 D cA (some (.int z.1)) z.2) 0 0 (Ab b0) := by
  refine Met.ofW (cc := cX10_need) (maxL := 8) (ret := (some .int)) (by decide) rfl ?_
  intro p ev s m args below meth c s₁ B hml hv
  obtain ⟨rfl, hH, hK⟩ := hv
  have hx := B.exec
  have hb := B.bytes
  have hr := B.returns
  have hts := atoms_spec (ws := wsX10_need) B.pre
  have hown : s.vm.findClass RX10 = some m.cls := findClass_of_methodNamed B.named
  have hlocks := B.notSynchronized
  have hC : Cx D cA p s m _ meth c cX10_need 8 RX10 wsX10_need (some .int) := ⟨hx, hb, hml, hown, hts, hK, hr, hlocks⟩
  have hS : va_S (Ab b0) s.heap s.heap [] := va_S.rf
  have hl := lv_entry ([.ref (b0 + a0), .int x1, .int x2, .int x3]) (n := 8) (Nat.le_of_ble_eq_true rfl)
  rw [lg_entry_eq]
  generalize (lg_sl ([.ref (b0 + a0), .int x1, .int x2, .int x3]) ++ List.replicate (8 - (lg_sl ([.ref (b0 + a0), .int x1, .int x2, .int x3])).length) Slot.unset).toArray = ls at hl ⊢
  have hl : lv_has ls 8 [(0, .ref (b0 + a0)), (1, .int x1), (2, .int x2), (3, .int x3)] := hl
  unfold fX10_need at hE
  obtain ⟨_, _, hE⟩ := Option.bind_eq_some_iff.mp hE
  refine lv_aload_n hx hb dX10_need_0 rfl (lv_at hl 0 rfl) ?_
  refine lv_iload_n hx hb dX10_need_1 rfl (lv_at hl 1 rfl) ?_
  refine lv_iload_n hx hb dX10_need_2 rfl (lv_at hl 2 rfl) ?_
  obtain ⟨z1, hz1, hE⟩ := Option.bind_eq_some_iff.mp hE
  refine r_callI (va_runV (As := [.int x1, .int x2]) (rest := []) ⟨hx, hb, hml, hown, hts⟩ (sX10_areTwo l b0 D cA hz1) (cwV 2 hts gX10_need_X10_areTwo rfl rfl rfl (by decide +kernel) (rm_ok (by decide) (by decide))) (pre_V (ci := 9) hK hH (oX10_areTwo hz1) rfl) rfl rfl hl.1 rfl (lv_room (Nat.le_of_ble_eq_true rfl)) dX10_need_3 ⟨Nat.zero_le _, Nat.zero_le _⟩) hS (fun H locs hH hS => ?_)
  refine lv_if_eq (tgt := 19) hx hb dX10_need_6 (by decide) (fun c2 => ?_) (fun c2 => ?_)
  · rw [if_pos c2] at hE
    exact sX10_need_b19 (F := F) hC hE _ _ _ hH hS (lv_sub hl [] rfl)
  · rw [if_neg c2] at hE
    refine lv_iload_n hx hb dX10_need_9 rfl (lv_at hl 3 rfl) ?_
    refine lv_iconst (v := 1) hx hb dX10_need_10 (by decide) ?_
    refine lv_bipush (v := 10) hx hb dX10_need_11 (by decide) ?_
    obtain ⟨z3, hz3, hE⟩ := Option.bind_eq_some_iff.mp hE
    refine r_callI (va_runS (As := [.int x3, .int 1, .int 10]) (rest := []) ⟨hx, hb, hml, hown, hts⟩ (sX10_in l b0 D cA hz3) (va_cwS 3 hts gX10_need_X10_in rfl rfl rfl (by decide +kernel) (rm_ok (by decide) (by decide))) (pre_S hK hH) rfl rfl hl.1 rfl (lv_room (Nat.le_of_ble_eq_true rfl)) dX10_need_13 ⟨Nat.zero_le _, Nat.zero_le _⟩) hS (fun H locs hH hS => ?_)
    refine lv_if_ne (tgt := 21) hx hb dX10_need_16 (by decide) (fun c4 => ?_) (fun c4 => ?_)
    · rw [if_neg c4] at hE
      refine lv_aload_n hx hb dX10_need_21 rfl (lv_at hl 0 rfl) ?_
      refine lv_iload_n hx hb dX10_need_22 rfl (lv_at hl 3 rfl) ?_
      obtain ⟨z5, hz5, hE⟩ := Option.bind_eq_some_iff.mp hE
      refine r_callI (va_runV (As := [.int x3]) (rest := []) ⟨hx, hb, hml, hown, hts⟩ (sX10_openBy l b0 D cA hz5) (cwV 1 hts gX10_need_X10_openBy rfl rfl rfl (by decide +kernel) (rm_ok (by decide) (by decide))) (pre_V (ci := 9) hK hH (oX10_openBy hz5) rfl) rfl rfl hl.1 rfl (lv_room (Nat.le_of_ble_eq_true rfl)) dX10_need_23 ⟨Nat.zero_le _, Nat.zero_le _⟩) hS (fun H locs hH hS => ?_)
      refine lv_istore (lv' := [(4, .int z5.1), (0, .ref (b0 + a0)), (1, .int x1), (2, .int x2), (3, .int x3)]) hx hb dX10_need_26 hl (by decide) rfl (fun ls hl => ?_)
      refine lv_aload_n hx hb dX10_need_28 rfl (lv_at hl 1 rfl) ?_
      refine lv_iconst (v := 0) hx hb dX10_need_29 (by decide) ?_
      obtain ⟨z6, hz6, hE⟩ := Option.bind_eq_some_iff.mp hE
      refine r_callI (va_runV (As := [.int 0]) (rest := []) ⟨hx, hb, hml, hown, hts⟩ (sX10_openBy l b0 D cA hz6) (cwV 1 hts gX10_need_X10_openBy rfl rfl rfl (by decide +kernel) (rm_ok (by decide) (by decide))) (pre_V (ci := 9) hK hH (oX10_openBy hz6) rfl) rfl rfl hl.1 rfl (lv_room (Nat.le_of_ble_eq_true rfl)) dX10_need_30 ⟨Nat.zero_le _, Nat.zero_le _⟩) hS (fun H locs hH hS => ?_)
      refine lv_istore (lv' := [(5, .int z6.1), (4, .int z5.1), (0, .ref (b0 + a0)), (1, .int x1), (2, .int x2), (3, .int x3)]) hx hb dX10_need_33 hl (by decide) rfl (fun ls hl => ?_)
      refine lv_bipush (v := (-9)) hx hb dX10_need_35 (by decide) ?_
      refine lv_istore (lv' := [(6, .int (-9)), (5, .int z6.1), (4, .int z5.1), (0, .ref (b0 + a0)), (1, .int x1), (2, .int x2), (3, .int x3)]) hx hb dX10_need_37 hl (by decide) rfl (fun ls hl => ?_)
      refine lv_iconst (v := 0) hx hb dX10_need_39 (by decide) ?_
      refine lv_istore (lv' := [(7, .int 0), (6, .int (-9)), (5, .int z6.1), (4, .int z5.1), (0, .ref (b0 + a0)), (1, .int x1), (2, .int x2), (3, .int x3)]) hx hb dX10_need_40 hl (by decide) rfl (fun ls hl => ?_)
      exact sX10_need_b42 (F := F) hC F _ _ _ _ _ _ _ _ hE _ _ _ hH hS (lv_sub hl [4, 5, 6, 3, 2, 1, 0] rfl)
    · rw [if_pos c4] at hE
      exact sX10_need_b19 (F := F) hC hE _ _ _ hH hS (lv_sub hl [] rfl)
-- X10_odds
def fX10_odds_b29 (F : Nat)  (L : HL) : Option (Int32 × HL) := some ((-1), L)
set_option maxHeartbeats 4000000 in
set_option maxRecDepth 100000 in
theorem sX10_odds_b29 {b0 : Nat} {D : va_G} {cA : Nat → ClassId} {p : Program} {l : Launch} {ev : Env} {s : State} {m : MethodId} {args : Array Value} {below : List Frame} {meth : Method} {c : Code} {F : Nat} {z : (Int32 × HL)}  {L : HL} (hC : Cx D cA p s m args meth c cX10_odds 11 RX10 wsX10_odds (some .int)) (hE : fX10_odds_b29 F  L = some z) : WB b0 D cA p l ev (RM 3 0 0) s m args below meth c 11 0 0 (MQ below (Qk b0 D cA (some (.int z.1)) z.2) args s 0 0 (Ab b0)) 29 [] [] L := by
  obtain ⟨hx, hb, hml, hown, hts, hK, hr, hlocks⟩ := id hC
  intro H locs ls hH hS hl
  unfold fX10_odds_b29 at hE
  refine lv_iconst (v := (-1)) hx hb dX10_odds_29 (by decide) ?_
  have hZ := Option.some.inj hE
  subst hZ
  exact W.iret (v := (-1)) hx hb hr (fun t ht hW => ⟨rfl, by rw [ht]; exact hH, hS.F ht⟩) hS.2.2 dX10_odds_30
def fX10_odds_b175c (F : Nat) (k175 : Int32 → Int32 → Int32 → Int32 → Int32 → HL → Option (Int32 × HL)) (x4 : Int32) (x5 : Int32) (x6 : Int32) (x8 : Int32) (x9 : Int32) (L : HL) : Option (Int32 × HL) := if x9 = 0 then (if x4 = 0 then (if x8 = 0 then none else some (x5 / x8, L)) else (if x8 = 0 then none else some (x6 / x8, L))) else (if x9 = 0 then none else k175 x4 x5 x6 x9 (x8 - x8 / x9 * x9) L)
def fX10_odds_b175 (F : Nat) : Nat → Int32 → Int32 → Int32 → Int32 → Int32 → HL → Option (Int32 × HL)
  | 0 => fun _ _ _ _ _ _ => none
  | n + 1 => fun x4 x5 x6 x8 x9 L => fX10_odds_b175c F (fX10_odds_b175 F n) x4 x5 x6 x8 x9 L
set_option maxHeartbeats 4000000 in
set_option maxRecDepth 100000 in
theorem sX10_odds_b175c {b0 : Nat} {D : va_G} {cA : Nat → ClassId} {p : Program} {l : Launch} {ev : Env} {s : State} {m : MethodId} {args : Array Value} {below : List Frame} {meth : Method} {c : Code} {F : Nat} {z : (Int32 × HL)} {k175 : Int32 → Int32 → Int32 → Int32 → Int32 → HL → Option (Int32 × HL)} {x4 : Int32} {x5 : Int32} {x6 : Int32} {x8 : Int32} {x9 : Int32} {L : HL} (hC : Cx D cA p s m args meth c cX10_odds 11 RX10 wsX10_odds (some .int)) (hk175 : ∀ (x4' : Int32) (x5' : Int32) (x6' : Int32) (x8' : Int32) (x9' : Int32) (L' : HL), k175 x4' x5' x6' x8' x9' L' = some z → WB b0 D cA p l ev (RM 3 0 0) s m args below meth c 11 0 0 (MQ below (Qk b0 D cA (some (.int z.1)) z.2) args s 0 0 (Ab b0)) 175 [(4, .int x4'), (5, .int x5'), (6, .int x6'), (8, .int x8'), (9, .int x9')] [] L') (hE : fX10_odds_b175c F k175 x4 x5 x6 x8 x9 L = some z) : WB b0 D cA p l ev (RM 3 0 0) s m args below meth c 11 0 0 (MQ below (Qk b0 D cA (some (.int z.1)) z.2) args s 0 0 (Ab b0)) 175 [(4, .int x4), (5, .int x5), (6, .int x6), (8, .int x8), (9, .int x9)] [] L := by
  obtain ⟨hx, hb, hml, hown, hts, hK, hr, hlocks⟩ := id hC
  intro H locs ls hH hS hl
  unfold fX10_odds_b175c at hE
  refine lv_iload hx hb dX10_odds_175 (lv_at hl 4 rfl) ?_
  refine lv_if_eq (tgt := 198) hx hb dX10_odds_177 (by decide) (fun c12 => ?_) (fun c12 => ?_)
  · rw [if_pos c12] at hE
    refine lv_iload hx hb dX10_odds_198 (lv_at hl 0 rfl) ?_
    refine lv_if_ne (tgt := 211) hx hb dX10_odds_200 (by decide) (fun c13 => ?_) (fun c13 => ?_)
    · rw [if_neg c13] at hE
      refine lv_iload hx hb dX10_odds_211 (lv_at hl 2 rfl) ?_
      refine lv_iload hx hb dX10_odds_213 (lv_at hl 3 rfl) ?_
      by_cases cz14 : x8 = 0
      · rw [if_pos cz14] at hE; cases hE
      rw [if_neg cz14] at hE
      refine lv_idiv hx hb dX10_odds_215 cz14 ?_
      have hZ := Option.some.inj hE
      subst hZ
      exact W.iret (v := (x6 / x8)) hx hb hr (fun t ht hW => ⟨rfl, by rw [ht]; exact hH, hS.F ht⟩) hS.2.2 dX10_odds_216
    · rw [if_pos c13] at hE
      refine lv_iload hx hb dX10_odds_203 (lv_at hl 1 rfl) ?_
      refine lv_iload hx hb dX10_odds_205 (lv_at hl 3 rfl) ?_
      by_cases cz15 : x8 = 0
      · rw [if_pos cz15] at hE; cases hE
      rw [if_neg cz15] at hE
      refine lv_idiv hx hb dX10_odds_207 cz15 ?_
      refine lv_goto (tgt := 216) hx hb dX10_odds_208 (by decide) ?_
      have hZ := Option.some.inj hE
      subst hZ
      exact W.iret (v := (x5 / x8)) hx hb hr (fun t ht hW => ⟨rfl, by rw [ht]; exact hH, hS.F ht⟩) hS.2.2 dX10_odds_216
  · rw [if_neg c12] at hE
    refine lv_iload hx hb dX10_odds_180 (lv_at hl 3 rfl) ?_
    refine lv_iload hx hb dX10_odds_182 (lv_at hl 4 rfl) ?_
    by_cases cz16 : x9 = 0
    · rw [if_pos cz16] at hE; cases hE
    rw [if_neg cz16] at hE
    refine lv_irem hx hb dX10_odds_184 cz16 ?_
    refine lv_istore (lv' := [(10, .int (x8 - x8 / x9 * x9)), (4, .int x4), (5, .int x5), (6, .int x6), (8, .int x8), (9, .int x9)]) hx hb dX10_odds_185 hl (by decide) rfl (fun ls hl => ?_)
    refine lv_iload hx hb dX10_odds_187 (lv_at hl 5 rfl) ?_
    refine lv_istore (lv' := [(8, .int x9), (10, .int (x8 - x8 / x9 * x9)), (4, .int x4), (5, .int x5), (6, .int x6), (9, .int x9)]) hx hb dX10_odds_189 hl (by decide) rfl (fun ls hl => ?_)
    refine lv_iload hx hb dX10_odds_191 (lv_at hl 1 rfl) ?_
    refine lv_istore (lv' := [(9, .int (x8 - x8 / x9 * x9)), (8, .int x9), (10, .int (x8 - x8 / x9 * x9)), (4, .int x4), (5, .int x5), (6, .int x6)]) hx hb dX10_odds_193 hl (by decide) rfl (fun ls hl => ?_)
    refine lv_goto (tgt := 175) hx hb dX10_odds_195 (by decide) ?_
    exact hk175 _ _ _ _ _ _ hE _ _ _ hH hS (lv_sub hl [3, 4, 5, 1, 0] rfl)
theorem sX10_odds_b175 {b0 : Nat} {D : va_G} {cA : Nat → ClassId} {p : Program} {l : Launch} {ev : Env} {s : State} {m : MethodId} {args : Array Value} {below : List Frame} {meth : Method} {c : Code} {F : Nat} {z : (Int32 × HL)} (hC : Cx D cA p s m args meth c cX10_odds 11 RX10 wsX10_odds (some .int)) : ∀ (n : Nat) (x4 : Int32) (x5 : Int32) (x6 : Int32) (x8 : Int32) (x9 : Int32) (L : HL), fX10_odds_b175 F n x4 x5 x6 x8 x9 L = some z → WB b0 D cA p l ev (RM 3 0 0) s m args below meth c 11 0 0 (MQ below (Qk b0 D cA (some (.int z.1)) z.2) args s 0 0 (Ab b0)) 175 [(4, .int x4), (5, .int x5), (6, .int x6), (8, .int x8), (9, .int x9)] [] L := by
  intro n
  induction n with
  | zero => intro x4 x5 x6 x8 x9 L hE; cases hE
  | succ n ih => intro x4 x5 x6 x8 x9 L hE; exact sX10_odds_b175c (F := F) hC ih hE
def fX10_odds_b143c (F : Nat) (k143 : Nat → Int32 → Int32 → Int32 → Int32 → HL → Option (Int32 × HL)) (a0 : Nat) (x4 : Int32) (x5 : Int32) (x6 : Int32) (x8 : Int32) (L : HL) : Option (Int32 × HL) := (o_gR L a0 9 3).bind fun v9 => (o_aI L v9 0 0).bind fun v10 => if v10 ≤ x8 then (fX10_odds_b175 F F x4 x5 x6 x5 x6 L) else (k143 a0 x4 x5 (x6 * 10) (x8 + 1) L)
def fX10_odds_b143 (F : Nat) : Nat → Nat → Int32 → Int32 → Int32 → Int32 → HL → Option (Int32 × HL)
  | 0 => fun _ _ _ _ _ _ => none
  | n + 1 => fun a0 x4 x5 x6 x8 L => fX10_odds_b143c F (fX10_odds_b143 F n) a0 x4 x5 x6 x8 L
set_option maxHeartbeats 4000000 in
set_option maxRecDepth 100000 in
theorem sX10_odds_b143c {b0 : Nat} {D : va_G} {cA : Nat → ClassId} {p : Program} {l : Launch} {ev : Env} {s : State} {m : MethodId} {args : Array Value} {below : List Frame} {meth : Method} {c : Code} {F : Nat} {z : (Int32 × HL)} {k143 : Nat → Int32 → Int32 → Int32 → Int32 → HL → Option (Int32 × HL)} {a0 : Nat} {x4 : Int32} {x5 : Int32} {x6 : Int32} {x8 : Int32} {L : HL} (hC : Cx D cA p s m args meth c cX10_odds 11 RX10 wsX10_odds (some .int)) (hk143 : ∀ (a0' : Nat) (x4' : Int32) (x5' : Int32) (x6' : Int32) (x8' : Int32) (L' : HL), k143 a0' x4' x5' x6' x8' L' = some z → WB b0 D cA p l ev (RM 3 0 0) s m args below meth c 11 0 0 (MQ below (Qk b0 D cA (some (.int z.1)) z.2) args s 0 0 (Ab b0)) 143 [(0, .ref (b0 + a0')), (4, .int x4'), (5, .int x5'), (6, .int x6'), (8, .int x8')] [] L') (hE : fX10_odds_b143c F k143 a0 x4 x5 x6 x8 L = some z) : WB b0 D cA p l ev (RM 3 0 0) s m args below meth c 11 0 0 (MQ below (Qk b0 D cA (some (.int z.1)) z.2) args s 0 0 (Ab b0)) 143 [(0, .ref (b0 + a0)), (4, .int x4), (5, .int x5), (6, .int x6), (8, .int x8)] [] L := by
  obtain ⟨hx, hb, hml, hown, hts, hK, hr, hlocks⟩ := id hC
  intro H locs ls hH hS hl
  unfold fX10_odds_b143c at hE
  refine lv_iload hx hb dX10_odds_143 (lv_at hl 4 rfl) ?_
  refine lv_aload_n hx hb dX10_odds_145 rfl (lv_at hl 0 rfl) ?_
  obtain ⟨v9, hv9, hE⟩ := Option.bind_eq_some_iff.mp hE
  refine r_gR 3 (C := RX10) (T := TX10) (N := 26) (ci := 9) hx hb hts (by decide +kernel) hown hK hH hv9 rfl (by decide) (hts (.fieldLink RX10 17 "KindStreetsModel" "streets" "[I") (by decide +kernel)) (fun _ h9 => h9) dX10_odds_146 ?_
  refine lv_iconst (v := 0) hx hb dX10_odds_149 (by decide) ?_
  obtain ⟨v10, hv10, hE⟩ := Option.bind_eq_some_iff.mp hE
  refine r_iald hx hb hK hH hv10 dX10_odds_150 ?_
  refine lv_icmp_ge (tgt := 167) hx hb dX10_odds_151 (by decide) (fun c11 => ?_) (fun c11 => ?_)
  · rw [if_pos c11] at hE
    refine lv_iload hx hb dX10_odds_167 (lv_at hl 2 rfl) ?_
    refine lv_istore (lv' := [(8, .int x5), (0, .ref (b0 + a0)), (4, .int x4), (5, .int x5), (6, .int x6)]) hx hb dX10_odds_169 hl (by decide) rfl (fun ls hl => ?_)
    refine lv_iload hx hb dX10_odds_171 (lv_at hl 4 rfl) ?_
    refine lv_istore (lv' := [(9, .int x6), (8, .int x5), (0, .ref (b0 + a0)), (4, .int x4), (5, .int x5), (6, .int x6)]) hx hb dX10_odds_173 hl (by decide) rfl (fun ls hl => ?_)
    exact sX10_odds_b175 (F := F) hC F _ _ _ _ _ _ hE _ _ _ hH hS (lv_sub hl [3, 4, 5, 1, 0] rfl)
  · rw [if_neg c11] at hE
    refine lv_iload hx hb dX10_odds_154 (lv_at hl 3 rfl) ?_
    refine lv_bipush (v := 10) hx hb dX10_odds_156 (by decide) ?_
    refine lv_imul hx hb dX10_odds_158 ?_
    refine lv_istore (lv' := [(6, .int (x6 * 10)), (0, .ref (b0 + a0)), (4, .int x4), (5, .int x5), (8, .int x8)]) hx hb dX10_odds_159 hl (by decide) rfl (fun ls hl => ?_)
    refine lv_iinc (v := (x8 + 1)) (lv' := [(8, .int (x8 + 1)), (6, .int (x6 * 10)), (0, .ref (b0 + a0)), (4, .int x4), (5, .int x5)]) hx hb dX10_odds_161 hl (k := 4) rfl rfl (by decide) rfl (fun ls hl => ?_)
    refine lv_goto (tgt := 143) hx hb dX10_odds_164 (by decide) ?_
    exact hk143 _ _ _ _ _ _ hE _ _ _ hH hS (lv_sub hl [2, 3, 4, 1, 0] rfl)
theorem sX10_odds_b143 {b0 : Nat} {D : va_G} {cA : Nat → ClassId} {p : Program} {l : Launch} {ev : Env} {s : State} {m : MethodId} {args : Array Value} {below : List Frame} {meth : Method} {c : Code} {F : Nat} {z : (Int32 × HL)} (hC : Cx D cA p s m args meth c cX10_odds 11 RX10 wsX10_odds (some .int)) : ∀ (n : Nat) (a0 : Nat) (x4 : Int32) (x5 : Int32) (x6 : Int32) (x8 : Int32) (L : HL), fX10_odds_b143 F n a0 x4 x5 x6 x8 L = some z → WB b0 D cA p l ev (RM 3 0 0) s m args below meth c 11 0 0 (MQ below (Qk b0 D cA (some (.int z.1)) z.2) args s 0 0 (Ab b0)) 143 [(0, .ref (b0 + a0)), (4, .int x4), (5, .int x5), (6, .int x6), (8, .int x8)] [] L := by
  intro n
  induction n with
  | zero => intro a0 x4 x5 x6 x8 L hE; cases hE
  | succ n ih => intro a0 x4 x5 x6 x8 L hE; exact sX10_odds_b143c (F := F) hC ih hE
def fX10_odds_b131 (F : Nat) (k47 : Nat → Int32 → Int32 → Int32 → Int32 → Int32 → Int32 → Int32 → Int32 → HL → Option (Int32 × HL)) (a0 : Nat) (x1 : Int32) (x2 : Int32) (x3 : Int32) (x4 : Int32) (x6 : Int32) (x7 : Int32) (x8 : Int32) (y0 : Int32) (y1 : Int32) (L : HL) : Option (Int32 × HL) := k47 a0 x1 x2 x3 x4 (y1 + y0) x6 x7 (x8 + 1) L
set_option maxHeartbeats 4000000 in
set_option maxRecDepth 100000 in
theorem sX10_odds_b131 {b0 : Nat} {D : va_G} {cA : Nat → ClassId} {p : Program} {l : Launch} {ev : Env} {s : State} {m : MethodId} {args : Array Value} {below : List Frame} {meth : Method} {c : Code} {F : Nat} {z : (Int32 × HL)} {k47 : Nat → Int32 → Int32 → Int32 → Int32 → Int32 → Int32 → Int32 → Int32 → HL → Option (Int32 × HL)} {a0 : Nat} {x1 : Int32} {x2 : Int32} {x3 : Int32} {x4 : Int32} {x6 : Int32} {x7 : Int32} {x8 : Int32} {y0 : Int32} {y1 : Int32} {L : HL} (hC : Cx D cA p s m args meth c cX10_odds 11 RX10 wsX10_odds (some .int)) (hk47 : ∀ (a0' : Nat) (x1' : Int32) (x2' : Int32) (x3' : Int32) (x4' : Int32) (x5' : Int32) (x6' : Int32) (x7' : Int32) (x8' : Int32) (L' : HL), k47 a0' x1' x2' x3' x4' x5' x6' x7' x8' L' = some z → WB b0 D cA p l ev (RM 3 0 0) s m args below meth c 11 0 0 (MQ below (Qk b0 D cA (some (.int z.1)) z.2) args s 0 0 (Ab b0)) 47 [(0, .ref (b0 + a0')), (1, .int x1'), (2, .int x2'), (3, .int x3'), (4, .int x4'), (5, .int x5'), (6, .int x6'), (7, .int x7'), (8, .int x8')] [] L') (hE : fX10_odds_b131 F k47 a0 x1 x2 x3 x4 x6 x7 x8 y0 y1 L = some z) : WB b0 D cA p l ev (RM 3 0 0) s m args below meth c 11 0 0 (MQ below (Qk b0 D cA (some (.int z.1)) z.2) args s 0 0 (Ab b0)) 131 [(0, .ref (b0 + a0)), (1, .int x1), (2, .int x2), (3, .int x3), (4, .int x4), (6, .int x6), (7, .int x7), (8, .int x8)] [.int y0, .int y1] L := by
  obtain ⟨hx, hb, hml, hown, hts, hK, hr, hlocks⟩ := id hC
  intro H locs ls hH hS hl
  unfold fX10_odds_b131 at hE
  refine lv_iadd hx hb dX10_odds_131 ?_
  refine lv_istore (lv' := [(5, .int (y1 + y0)), (0, .ref (b0 + a0)), (1, .int x1), (2, .int x2), (3, .int x3), (4, .int x4), (6, .int x6), (7, .int x7), (8, .int x8)]) hx hb dX10_odds_132 hl (by decide) rfl (fun ls hl => ?_)
  refine lv_iinc (v := (x8 + 1)) (lv' := [(8, .int (x8 + 1)), (5, .int (y1 + y0)), (0, .ref (b0 + a0)), (1, .int x1), (2, .int x2), (3, .int x3), (4, .int x4), (6, .int x6), (7, .int x7)]) hx hb dX10_odds_134 hl (k := 8) rfl rfl (by decide) rfl (fun ls hl => ?_)
  refine lv_goto (tgt := 47) hx hb dX10_odds_137 (by decide) ?_
  exact hk47 _ _ _ _ _ _ _ _ _ _ hE _ _ _ hH hS (lv_sub hl [2, 3, 4, 5, 6, 1, 7, 8, 0] rfl)
def fX10_odds_b130 (F : Nat) (k47 : Nat → Int32 → Int32 → Int32 → Int32 → Int32 → Int32 → Int32 → Int32 → HL → Option (Int32 × HL)) (a0 : Nat) (x1 : Int32) (x2 : Int32) (x3 : Int32) (x4 : Int32) (x6 : Int32) (x7 : Int32) (x8 : Int32) (y0 : Int32) (L : HL) : Option (Int32 × HL) := fX10_odds_b131 F k47 a0 x1 x2 x3 x4 x6 x7 x8 0 y0 L
set_option maxHeartbeats 4000000 in
set_option maxRecDepth 100000 in
theorem sX10_odds_b130 {b0 : Nat} {D : va_G} {cA : Nat → ClassId} {p : Program} {l : Launch} {ev : Env} {s : State} {m : MethodId} {args : Array Value} {below : List Frame} {meth : Method} {c : Code} {F : Nat} {z : (Int32 × HL)} {k47 : Nat → Int32 → Int32 → Int32 → Int32 → Int32 → Int32 → Int32 → Int32 → HL → Option (Int32 × HL)} {a0 : Nat} {x1 : Int32} {x2 : Int32} {x3 : Int32} {x4 : Int32} {x6 : Int32} {x7 : Int32} {x8 : Int32} {y0 : Int32} {L : HL} (hC : Cx D cA p s m args meth c cX10_odds 11 RX10 wsX10_odds (some .int)) (hk47 : ∀ (a0' : Nat) (x1' : Int32) (x2' : Int32) (x3' : Int32) (x4' : Int32) (x5' : Int32) (x6' : Int32) (x7' : Int32) (x8' : Int32) (L' : HL), k47 a0' x1' x2' x3' x4' x5' x6' x7' x8' L' = some z → WB b0 D cA p l ev (RM 3 0 0) s m args below meth c 11 0 0 (MQ below (Qk b0 D cA (some (.int z.1)) z.2) args s 0 0 (Ab b0)) 47 [(0, .ref (b0 + a0')), (1, .int x1'), (2, .int x2'), (3, .int x3'), (4, .int x4'), (5, .int x5'), (6, .int x6'), (7, .int x7'), (8, .int x8')] [] L') (hE : fX10_odds_b130 F k47 a0 x1 x2 x3 x4 x6 x7 x8 y0 L = some z) : WB b0 D cA p l ev (RM 3 0 0) s m args below meth c 11 0 0 (MQ below (Qk b0 D cA (some (.int z.1)) z.2) args s 0 0 (Ab b0)) 130 [(0, .ref (b0 + a0)), (1, .int x1), (2, .int x2), (3, .int x3), (4, .int x4), (6, .int x6), (7, .int x7), (8, .int x8)] [.int y0] L := by
  obtain ⟨hx, hb, hml, hown, hts, hK, hr, hlocks⟩ := id hC
  intro H locs ls hH hS hl
  unfold fX10_odds_b130 at hE
  refine lv_iconst (v := 0) hx hb dX10_odds_130 (by decide) ?_
  exact sX10_odds_b131 (F := F) hC hk47 hE _ _ _ hH hS (lv_sub hl [0, 1, 2, 3, 4, 5, 6, 7] rfl)
def fX10_odds_b91 (F : Nat) (k60 : Nat → Int32 → Int32 → Int32 → Int32 → Int32 → Int32 → Int32 → Int32 → Int32 → Int32 → HL → Option (Int32 × HL)) (a0 : Nat) (x1 : Int32) (x2 : Int32) (x3 : Int32) (x4 : Int32) (x5 : Int32) (x6 : Int32) (x7 : Int32) (x8 : Int32) (x10 : Int32) (y0 : Int32) (y1 : Int32) (L : HL) : Option (Int32 × HL) := k60 a0 x1 x2 x3 x4 x5 x6 x7 x8 (y1 * y0) (x10 + 1) L
set_option maxHeartbeats 4000000 in
set_option maxRecDepth 100000 in
theorem sX10_odds_b91 {b0 : Nat} {D : va_G} {cA : Nat → ClassId} {p : Program} {l : Launch} {ev : Env} {s : State} {m : MethodId} {args : Array Value} {below : List Frame} {meth : Method} {c : Code} {F : Nat} {z : (Int32 × HL)} {k60 : Nat → Int32 → Int32 → Int32 → Int32 → Int32 → Int32 → Int32 → Int32 → Int32 → Int32 → HL → Option (Int32 × HL)} {a0 : Nat} {x1 : Int32} {x2 : Int32} {x3 : Int32} {x4 : Int32} {x5 : Int32} {x6 : Int32} {x7 : Int32} {x8 : Int32} {x10 : Int32} {y0 : Int32} {y1 : Int32} {L : HL} (hC : Cx D cA p s m args meth c cX10_odds 11 RX10 wsX10_odds (some .int)) (hk60 : ∀ (a0' : Nat) (x1' : Int32) (x2' : Int32) (x3' : Int32) (x4' : Int32) (x5' : Int32) (x6' : Int32) (x7' : Int32) (x8' : Int32) (x9' : Int32) (x10' : Int32) (L' : HL), k60 a0' x1' x2' x3' x4' x5' x6' x7' x8' x9' x10' L' = some z → WB b0 D cA p l ev (RM 3 0 0) s m args below meth c 11 0 0 (MQ below (Qk b0 D cA (some (.int z.1)) z.2) args s 0 0 (Ab b0)) 60 [(0, .ref (b0 + a0')), (1, .int x1'), (2, .int x2'), (3, .int x3'), (4, .int x4'), (5, .int x5'), (6, .int x6'), (7, .int x7'), (8, .int x8'), (9, .int x9'), (10, .int x10')] [] L') (hE : fX10_odds_b91 F k60 a0 x1 x2 x3 x4 x5 x6 x7 x8 x10 y0 y1 L = some z) : WB b0 D cA p l ev (RM 3 0 0) s m args below meth c 11 0 0 (MQ below (Qk b0 D cA (some (.int z.1)) z.2) args s 0 0 (Ab b0)) 91 [(0, .ref (b0 + a0)), (1, .int x1), (2, .int x2), (3, .int x3), (4, .int x4), (5, .int x5), (6, .int x6), (7, .int x7), (8, .int x8), (10, .int x10)] [.int y0, .int y1] L := by
  obtain ⟨hx, hb, hml, hown, hts, hK, hr, hlocks⟩ := id hC
  intro H locs ls hH hS hl
  unfold fX10_odds_b91 at hE
  refine lv_imul hx hb dX10_odds_91 ?_
  refine lv_istore (lv' := [(9, .int (y1 * y0)), (0, .ref (b0 + a0)), (1, .int x1), (2, .int x2), (3, .int x3), (4, .int x4), (5, .int x5), (6, .int x6), (7, .int x7), (8, .int x8), (10, .int x10)]) hx hb dX10_odds_92 hl (by decide) rfl (fun ls hl => ?_)
  refine lv_iinc (v := (x10 + 1)) (lv' := [(10, .int (x10 + 1)), (9, .int (y1 * y0)), (0, .ref (b0 + a0)), (1, .int x1), (2, .int x2), (3, .int x3), (4, .int x4), (5, .int x5), (6, .int x6), (7, .int x7), (8, .int x8)]) hx hb dX10_odds_94 hl (k := 10) rfl rfl (by decide) rfl (fun ls hl => ?_)
  refine lv_goto (tgt := 60) hx hb dX10_odds_97 (by decide) ?_
  exact hk60 _ _ _ _ _ _ _ _ _ _ _ _ hE _ _ _ hH hS (lv_sub hl [2, 3, 4, 5, 6, 7, 8, 9, 10, 1, 0] rfl)
def fX10_odds_b60c (F : Nat) (k47 : Nat → Int32 → Int32 → Int32 → Int32 → Int32 → Int32 → Int32 → Int32 → HL → Option (Int32 × HL)) (k60 : Nat → Int32 → Int32 → Int32 → Int32 → Int32 → Int32 → Int32 → Int32 → Int32 → Int32 → HL → Option (Int32 × HL)) (a0 : Nat) (x1 : Int32) (x2 : Int32) (x3 : Int32) (x4 : Int32) (x5 : Int32) (x6 : Int32) (x7 : Int32) (x8 : Int32) (x9 : Int32) (x10 : Int32) (L : HL) : Option (Int32 × HL) := (o_gR L a0 9 3).bind fun v17 => (o_aI L v17 0 0).bind fun v18 => if v18 ≤ x10 then (if x9 ≤ 0 then (fX10_odds_b130 F k47 a0 x1 x2 x3 x4 x6 x7 x8 x5 L) else ((fX10_wayBy F L a0 x1 x2 (x7 &&& (x8 ^^^ (-1)))).bind fun z21 => if z21.1 = (-9) then (fX10_odds_b130 F k47 a0 x1 x2 x3 x4 x6 x7 x8 x5 z21.2) else (fX10_odds_b131 F k47 a0 x1 x2 x3 x4 x6 x7 x8 x9 x5 z21.2))) else ((fX10_has F L x8 x10).bind fun z23 => if z23.1 = 0 then (fX10_odds_b91 F k60 a0 x1 x2 x3 x4 x5 x6 x7 x8 x10 (10 - x3) x9 z23.2) else (fX10_odds_b91 F k60 a0 x1 x2 x3 x4 x5 x6 x7 x8 x10 x3 x9 z23.2))
def fX10_odds_b60 (F : Nat) (k47 : Nat → Int32 → Int32 → Int32 → Int32 → Int32 → Int32 → Int32 → Int32 → HL → Option (Int32 × HL)) : Nat → Nat → Int32 → Int32 → Int32 → Int32 → Int32 → Int32 → Int32 → Int32 → Int32 → Int32 → HL → Option (Int32 × HL)
  | 0 => fun _ _ _ _ _ _ _ _ _ _ _ _ => none
  | n + 1 => fun a0 x1 x2 x3 x4 x5 x6 x7 x8 x9 x10 L => fX10_odds_b60c F k47 (fX10_odds_b60 F k47 n) a0 x1 x2 x3 x4 x5 x6 x7 x8 x9 x10 L
set_option maxHeartbeats 4000000 in
set_option maxRecDepth 100000 in
theorem sX10_odds_b60c {b0 : Nat} {D : va_G} {cA : Nat → ClassId} {p : Program} {l : Launch} {ev : Env} {s : State} {m : MethodId} {args : Array Value} {below : List Frame} {meth : Method} {c : Code} {F : Nat} {z : (Int32 × HL)} {k47 : Nat → Int32 → Int32 → Int32 → Int32 → Int32 → Int32 → Int32 → Int32 → HL → Option (Int32 × HL)} {k60 : Nat → Int32 → Int32 → Int32 → Int32 → Int32 → Int32 → Int32 → Int32 → Int32 → Int32 → HL → Option (Int32 × HL)} {a0 : Nat} {x1 : Int32} {x2 : Int32} {x3 : Int32} {x4 : Int32} {x5 : Int32} {x6 : Int32} {x7 : Int32} {x8 : Int32} {x9 : Int32} {x10 : Int32} {L : HL} (hC : Cx D cA p s m args meth c cX10_odds 11 RX10 wsX10_odds (some .int)) (hk47 : ∀ (a0' : Nat) (x1' : Int32) (x2' : Int32) (x3' : Int32) (x4' : Int32) (x5' : Int32) (x6' : Int32) (x7' : Int32) (x8' : Int32) (L' : HL), k47 a0' x1' x2' x3' x4' x5' x6' x7' x8' L' = some z → WB b0 D cA p l ev (RM 3 0 0) s m args below meth c 11 0 0 (MQ below (Qk b0 D cA (some (.int z.1)) z.2) args s 0 0 (Ab b0)) 47 [(0, .ref (b0 + a0')), (1, .int x1'), (2, .int x2'), (3, .int x3'), (4, .int x4'), (5, .int x5'), (6, .int x6'), (7, .int x7'), (8, .int x8')] [] L') (hk60 : ∀ (a0' : Nat) (x1' : Int32) (x2' : Int32) (x3' : Int32) (x4' : Int32) (x5' : Int32) (x6' : Int32) (x7' : Int32) (x8' : Int32) (x9' : Int32) (x10' : Int32) (L' : HL), k60 a0' x1' x2' x3' x4' x5' x6' x7' x8' x9' x10' L' = some z → WB b0 D cA p l ev (RM 3 0 0) s m args below meth c 11 0 0 (MQ below (Qk b0 D cA (some (.int z.1)) z.2) args s 0 0 (Ab b0)) 60 [(0, .ref (b0 + a0')), (1, .int x1'), (2, .int x2'), (3, .int x3'), (4, .int x4'), (5, .int x5'), (6, .int x6'), (7, .int x7'), (8, .int x8'), (9, .int x9'), (10, .int x10')] [] L') (hE : fX10_odds_b60c F k47 k60 a0 x1 x2 x3 x4 x5 x6 x7 x8 x9 x10 L = some z) : WB b0 D cA p l ev (RM 3 0 0) s m args below meth c 11 0 0 (MQ below (Qk b0 D cA (some (.int z.1)) z.2) args s 0 0 (Ab b0)) 60 [(0, .ref (b0 + a0)), (1, .int x1), (2, .int x2), (3, .int x3), (4, .int x4), (5, .int x5), (6, .int x6), (7, .int x7), (8, .int x8), (9, .int x9), (10, .int x10)] [] L := by
  obtain ⟨hx, hb, hml, hown, hts, hK, hr, hlocks⟩ := id hC
  intro H locs ls hH hS hl
  unfold fX10_odds_b60c at hE
  refine lv_iload hx hb dX10_odds_60 (lv_at hl 10 rfl) ?_
  refine lv_aload_n hx hb dX10_odds_62 rfl (lv_at hl 0 rfl) ?_
  obtain ⟨v17, hv17, hE⟩ := Option.bind_eq_some_iff.mp hE
  refine r_gR 3 (C := RX10) (T := TX10) (N := 26) (ci := 9) hx hb hts (by decide +kernel) hown hK hH hv17 rfl (by decide) (hts (.fieldLink RX10 17 "KindStreetsModel" "streets" "[I") (by decide +kernel)) (fun _ h9 => h9) dX10_odds_63 ?_
  refine lv_iconst (v := 0) hx hb dX10_odds_66 (by decide) ?_
  obtain ⟨v18, hv18, hE⟩ := Option.bind_eq_some_iff.mp hE
  refine r_iald hx hb hK hH hv18 dX10_odds_67 ?_
  refine lv_icmp_ge (tgt := 100) hx hb dX10_odds_68 (by decide) (fun c19 => ?_) (fun c19 => ?_)
  · rw [if_pos c19] at hE
    refine lv_iload hx hb dX10_odds_100 (lv_at hl 5 rfl) ?_
    refine lv_iload hx hb dX10_odds_102 (lv_at hl 9 rfl) ?_
    refine lv_if_le (tgt := 130) hx hb dX10_odds_104 (by decide) (fun c20 => ?_) (fun c20 => ?_)
    · rw [if_pos c20] at hE
      exact sX10_odds_b130 (F := F) hC hk47 hE _ _ _ hH hS (lv_sub hl [0, 1, 2, 3, 4, 6, 7, 8] rfl)
    · rw [if_neg c20] at hE
      refine lv_aload_n hx hb dX10_odds_107 rfl (lv_at hl 0 rfl) ?_
      refine lv_iload_n hx hb dX10_odds_108 rfl (lv_at hl 1 rfl) ?_
      refine lv_iload_n hx hb dX10_odds_109 rfl (lv_at hl 2 rfl) ?_
      refine lv_iload hx hb dX10_odds_110 (lv_at hl 7 rfl) ?_
      refine lv_iload hx hb dX10_odds_112 (lv_at hl 8 rfl) ?_
      refine lv_iconst (v := (-1)) hx hb dX10_odds_114 (by decide) ?_
      refine lv_ixor hx hb dX10_odds_115 ?_
      refine lv_iand hx hb dX10_odds_116 ?_
      obtain ⟨z21, hz21, hE⟩ := Option.bind_eq_some_iff.mp hE
      refine r_callI (va_runV (As := [.int x1, .int x2, .int (x7 &&& (x8 ^^^ (-1)))]) (rest := [.int x5]) ⟨hx, hb, hml, hown, hts⟩ (sX10_wayBy l b0 D cA hz21) (cwV 3 hts gX10_odds_X10_wayBy rfl rfl rfl (by decide +kernel) (rm_ok (by decide) (by decide))) (pre_V (ci := 9) hK hH (oX10_wayBy hz21) rfl) rfl rfl hl.1 rfl (lv_room (Nat.le_of_ble_eq_true rfl)) dX10_odds_117 ⟨Nat.zero_le _, Nat.zero_le _⟩) hS (fun H locs hH hS => ?_)
      refine lv_bipush (v := (-9)) hx hb dX10_odds_120 (by decide) ?_
      refine lv_icmp_eq (tgt := 130) hx hb dX10_odds_122 (by decide) (fun c22 => ?_) (fun c22 => ?_)
      · rw [if_pos c22] at hE
        exact sX10_odds_b130 (F := F) hC hk47 hE _ _ _ hH hS (lv_sub hl [0, 1, 2, 3, 4, 6, 7, 8] rfl)
      · rw [if_neg c22] at hE
        refine lv_iload hx hb dX10_odds_125 (lv_at hl 9 rfl) ?_
        refine lv_goto (tgt := 131) hx hb dX10_odds_127 (by decide) ?_
        exact sX10_odds_b131 (F := F) hC hk47 hE _ _ _ hH hS (lv_sub hl [0, 1, 2, 3, 4, 6, 7, 8] rfl)
  · rw [if_neg c19] at hE
    refine lv_iload hx hb dX10_odds_71 (lv_at hl 9 rfl) ?_
    refine lv_iload hx hb dX10_odds_73 (lv_at hl 8 rfl) ?_
    refine lv_iload hx hb dX10_odds_75 (lv_at hl 10 rfl) ?_
    obtain ⟨z23, hz23, hE⟩ := Option.bind_eq_some_iff.mp hE
    refine r_callI (va_runS (As := [.int x8, .int x10]) (rest := [.int x9]) ⟨hx, hb, hml, hown, hts⟩ (sX10_has l b0 D cA hz23) (va_cwS 2 hts gX10_odds_X10_has rfl rfl rfl (by decide +kernel) (rm_ok (by decide) (by decide))) (pre_S hK hH) rfl rfl hl.1 rfl (lv_room (Nat.le_of_ble_eq_true rfl)) dX10_odds_77 ⟨Nat.zero_le _, Nat.zero_le _⟩) hS (fun H locs hH hS => ?_)
    refine lv_if_eq (tgt := 87) hx hb dX10_odds_80 (by decide) (fun c24 => ?_) (fun c24 => ?_)
    · rw [if_pos c24] at hE
      refine lv_bipush (v := 10) hx hb dX10_odds_87 (by decide) ?_
      refine lv_iload_n hx hb dX10_odds_89 rfl (lv_at hl 3 rfl) ?_
      refine lv_isub hx hb dX10_odds_90 ?_
      exact sX10_odds_b91 (F := F) hC hk60 hE _ _ _ hH hS (lv_sub hl [0, 1, 2, 3, 4, 5, 6, 7, 8, 10] rfl)
    · rw [if_neg c24] at hE
      refine lv_iload_n hx hb dX10_odds_83 rfl (lv_at hl 3 rfl) ?_
      refine lv_goto (tgt := 91) hx hb dX10_odds_84 (by decide) ?_
      exact sX10_odds_b91 (F := F) hC hk60 hE _ _ _ hH hS (lv_sub hl [0, 1, 2, 3, 4, 5, 6, 7, 8, 10] rfl)
theorem sX10_odds_b60 {b0 : Nat} {D : va_G} {cA : Nat → ClassId} {p : Program} {l : Launch} {ev : Env} {s : State} {m : MethodId} {args : Array Value} {below : List Frame} {meth : Method} {c : Code} {F : Nat} {z : (Int32 × HL)} {k47 : Nat → Int32 → Int32 → Int32 → Int32 → Int32 → Int32 → Int32 → Int32 → HL → Option (Int32 × HL)} (hC : Cx D cA p s m args meth c cX10_odds 11 RX10 wsX10_odds (some .int)) (hk47 : ∀ (a0' : Nat) (x1' : Int32) (x2' : Int32) (x3' : Int32) (x4' : Int32) (x5' : Int32) (x6' : Int32) (x7' : Int32) (x8' : Int32) (L' : HL), k47 a0' x1' x2' x3' x4' x5' x6' x7' x8' L' = some z → WB b0 D cA p l ev (RM 3 0 0) s m args below meth c 11 0 0 (MQ below (Qk b0 D cA (some (.int z.1)) z.2) args s 0 0 (Ab b0)) 47 [(0, .ref (b0 + a0')), (1, .int x1'), (2, .int x2'), (3, .int x3'), (4, .int x4'), (5, .int x5'), (6, .int x6'), (7, .int x7'), (8, .int x8')] [] L') : ∀ (n : Nat) (a0 : Nat) (x1 : Int32) (x2 : Int32) (x3 : Int32) (x4 : Int32) (x5 : Int32) (x6 : Int32) (x7 : Int32) (x8 : Int32) (x9 : Int32) (x10 : Int32) (L : HL), fX10_odds_b60 F k47 n a0 x1 x2 x3 x4 x5 x6 x7 x8 x9 x10 L = some z → WB b0 D cA p l ev (RM 3 0 0) s m args below meth c 11 0 0 (MQ below (Qk b0 D cA (some (.int z.1)) z.2) args s 0 0 (Ab b0)) 60 [(0, .ref (b0 + a0)), (1, .int x1), (2, .int x2), (3, .int x3), (4, .int x4), (5, .int x5), (6, .int x6), (7, .int x7), (8, .int x8), (9, .int x9), (10, .int x10)] [] L := by
  intro n
  induction n with
  | zero => intro a0 x1 x2 x3 x4 x5 x6 x7 x8 x9 x10 L hE; cases hE
  | succ n ih => intro a0 x1 x2 x3 x4 x5 x6 x7 x8 x9 x10 L hE; exact sX10_odds_b60c (F := F) hC hk47 ih hE
def fX10_odds_b47c (F : Nat) (k47 : Nat → Int32 → Int32 → Int32 → Int32 → Int32 → Int32 → Int32 → Int32 → HL → Option (Int32 × HL)) (a0 : Nat) (x1 : Int32) (x2 : Int32) (x3 : Int32) (x4 : Int32) (x5 : Int32) (x6 : Int32) (x7 : Int32) (x8 : Int32) (L : HL) : Option (Int32 × HL) := if x7 < x8 then (fX10_odds_b143 F F a0 x4 x5 x6 0 L) else (fX10_odds_b60 F k47 F a0 x1 x2 x3 x4 x5 x6 x7 x8 1 0 L)
def fX10_odds_b47 (F : Nat) : Nat → Nat → Int32 → Int32 → Int32 → Int32 → Int32 → Int32 → Int32 → Int32 → HL → Option (Int32 × HL)
  | 0 => fun _ _ _ _ _ _ _ _ _ _ => none
  | n + 1 => fun a0 x1 x2 x3 x4 x5 x6 x7 x8 L => fX10_odds_b47c F (fX10_odds_b47 F n) a0 x1 x2 x3 x4 x5 x6 x7 x8 L
set_option maxHeartbeats 4000000 in
set_option maxRecDepth 100000 in
theorem sX10_odds_b47c {b0 : Nat} {D : va_G} {cA : Nat → ClassId} {p : Program} {l : Launch} {ev : Env} {s : State} {m : MethodId} {args : Array Value} {below : List Frame} {meth : Method} {c : Code} {F : Nat} {z : (Int32 × HL)} {k47 : Nat → Int32 → Int32 → Int32 → Int32 → Int32 → Int32 → Int32 → Int32 → HL → Option (Int32 × HL)} {a0 : Nat} {x1 : Int32} {x2 : Int32} {x3 : Int32} {x4 : Int32} {x5 : Int32} {x6 : Int32} {x7 : Int32} {x8 : Int32} {L : HL} (hC : Cx D cA p s m args meth c cX10_odds 11 RX10 wsX10_odds (some .int)) (hk47 : ∀ (a0' : Nat) (x1' : Int32) (x2' : Int32) (x3' : Int32) (x4' : Int32) (x5' : Int32) (x6' : Int32) (x7' : Int32) (x8' : Int32) (L' : HL), k47 a0' x1' x2' x3' x4' x5' x6' x7' x8' L' = some z → WB b0 D cA p l ev (RM 3 0 0) s m args below meth c 11 0 0 (MQ below (Qk b0 D cA (some (.int z.1)) z.2) args s 0 0 (Ab b0)) 47 [(0, .ref (b0 + a0')), (1, .int x1'), (2, .int x2'), (3, .int x3'), (4, .int x4'), (5, .int x5'), (6, .int x6'), (7, .int x7'), (8, .int x8')] [] L') (hE : fX10_odds_b47c F k47 a0 x1 x2 x3 x4 x5 x6 x7 x8 L = some z) : WB b0 D cA p l ev (RM 3 0 0) s m args below meth c 11 0 0 (MQ below (Qk b0 D cA (some (.int z.1)) z.2) args s 0 0 (Ab b0)) 47 [(0, .ref (b0 + a0)), (1, .int x1), (2, .int x2), (3, .int x3), (4, .int x4), (5, .int x5), (6, .int x6), (7, .int x7), (8, .int x8)] [] L := by
  obtain ⟨hx, hb, hml, hown, hts, hK, hr, hlocks⟩ := id hC
  intro H locs ls hH hS hl
  unfold fX10_odds_b47c at hE
  refine lv_iload hx hb dX10_odds_47 (lv_at hl 8 rfl) ?_
  refine lv_iload hx hb dX10_odds_49 (lv_at hl 7 rfl) ?_
  refine lv_icmp_gt (tgt := 140) hx hb dX10_odds_51 (by decide) (fun c8 => ?_) (fun c8 => ?_)
  · rw [if_pos c8] at hE
    refine lv_iconst (v := 0) hx hb dX10_odds_140 (by decide) ?_
    refine lv_istore (lv' := [(8, .int 0), (0, .ref (b0 + a0)), (1, .int x1), (2, .int x2), (3, .int x3), (4, .int x4), (5, .int x5), (6, .int x6), (7, .int x7)]) hx hb dX10_odds_141 hl (by decide) rfl (fun ls hl => ?_)
    exact sX10_odds_b143 (F := F) hC F _ _ _ _ _ _ hE _ _ _ hH hS (lv_sub hl [1, 5, 6, 7, 0] rfl)
  · rw [if_neg c8] at hE
    refine lv_iconst (v := 1) hx hb dX10_odds_54 (by decide) ?_
    refine lv_istore (lv' := [(9, .int 1), (0, .ref (b0 + a0)), (1, .int x1), (2, .int x2), (3, .int x3), (4, .int x4), (5, .int x5), (6, .int x6), (7, .int x7), (8, .int x8)]) hx hb dX10_odds_55 hl (by decide) rfl (fun ls hl => ?_)
    refine lv_iconst (v := 0) hx hb dX10_odds_57 (by decide) ?_
    refine lv_istore (lv' := [(10, .int 0), (9, .int 1), (0, .ref (b0 + a0)), (1, .int x1), (2, .int x2), (3, .int x3), (4, .int x4), (5, .int x5), (6, .int x6), (7, .int x7), (8, .int x8)]) hx hb dX10_odds_58 hl (by decide) rfl (fun ls hl => ?_)
    exact sX10_odds_b60 (F := F) hC hk47 F _ _ _ _ _ _ _ _ _ _ _ _ hE _ _ _ hH hS (lv_sub hl [2, 3, 4, 5, 6, 7, 8, 9, 10, 1, 0] rfl)
theorem sX10_odds_b47 {b0 : Nat} {D : va_G} {cA : Nat → ClassId} {p : Program} {l : Launch} {ev : Env} {s : State} {m : MethodId} {args : Array Value} {below : List Frame} {meth : Method} {c : Code} {F : Nat} {z : (Int32 × HL)} (hC : Cx D cA p s m args meth c cX10_odds 11 RX10 wsX10_odds (some .int)) : ∀ (n : Nat) (a0 : Nat) (x1 : Int32) (x2 : Int32) (x3 : Int32) (x4 : Int32) (x5 : Int32) (x6 : Int32) (x7 : Int32) (x8 : Int32) (L : HL), fX10_odds_b47 F n a0 x1 x2 x3 x4 x5 x6 x7 x8 L = some z → WB b0 D cA p l ev (RM 3 0 0) s m args below meth c 11 0 0 (MQ below (Qk b0 D cA (some (.int z.1)) z.2) args s 0 0 (Ab b0)) 47 [(0, .ref (b0 + a0)), (1, .int x1), (2, .int x2), (3, .int x3), (4, .int x4), (5, .int x5), (6, .int x6), (7, .int x7), (8, .int x8)] [] L := by
  intro n
  induction n with
  | zero => intro a0 x1 x2 x3 x4 x5 x6 x7 x8 L hE; cases hE
  | succ n ih => intro a0 x1 x2 x3 x4 x5 x6 x7 x8 L hE; exact sX10_odds_b47c (F := F) hC ih hE
def fX10_odds (F : Nat) (L : HL) (a0 : Nat) (x1 : Int32) (x2 : Int32) (x3 : Int32) (x4 : Int32) : Option (Int32 × HL) := (o_ob L a0 9).bind fun _ => (fX10_areTwo F L a0 x1 x2).bind fun z1 => if z1.1 = 0 then (fX10_odds_b29 F z1.2) else ((fX10_in F z1.2 x3 0 10).bind fun z3 => if z3.1 = 0 then (fX10_odds_b29 F z3.2) else ((fX10_in F z3.2 x4 0 1).bind fun z5 => if z5.1 = 0 then (fX10_odds_b29 F z5.2) else ((fX10_openBy F z5.2 a0 0).bind fun z7 => fX10_odds_b47 F F a0 x1 x2 x3 x4 0 1 z7.1 0 z7.2)))
theorem oX10_odds {F : Nat} {L : HL} {a0 : Nat} {x1 : Int32} {x2 : Int32} {x3 : Int32} {x4 : Int32} {z : (Int32 × HL)} (hE : fX10_odds F L a0 x1 x2 x3 x4 = some z) : o_ob L a0 9 = some () := by
  obtain ⟨_, h, _⟩ := Option.bind_eq_some_iff.mp hE
  exact h
set_option maxHeartbeats 4000000 in
set_option maxRecDepth 100000 in
theorem sX10_odds (l : Launch) (b0 : Nat) (D : va_G) (cA : Nat → ClassId) {F : Nat} {L : HL} {a0 : Nat} {x1 : Int32} {x2 : Int32} {x3 : Int32} {x4 : Int32} {z : (Int32 × HL)} (hE : fX10_odds F L a0 x1 x2 x3 x4 = some z) : Met l yX10_odds wsX10_odds (RM 3 0 0) (Pk b0 D cA [.ref (b0 + a0), .int x1, .int x2, .int x3, .int x4] L) (Qk b0 D cA (some (.int z.1)) z.2) 0 0 (Ab b0) := by
  refine Met.ofW (cc := cX10_odds) (maxL := 11) (ret := (some .int)) (by decide) rfl ?_
  intro p ev s m args below meth c s₁ B hml hv
  obtain ⟨rfl, hH, hK⟩ := hv
  have hx := B.exec
  have hb := B.bytes
  have hr := B.returns
  have hts := atoms_spec (ws := wsX10_odds) B.pre
  have hown : s.vm.findClass RX10 = some m.cls := findClass_of_methodNamed B.named
  have hlocks := B.notSynchronized
  have hC : Cx D cA p s m _ meth c cX10_odds 11 RX10 wsX10_odds (some .int) := ⟨hx, hb, hml, hown, hts, hK, hr, hlocks⟩
  have hS : va_S (Ab b0) s.heap s.heap [] := va_S.rf
  have hl := lv_entry ([.ref (b0 + a0), .int x1, .int x2, .int x3, .int x4]) (n := 11) (Nat.le_of_ble_eq_true rfl)
  rw [lg_entry_eq]
  generalize (lg_sl ([.ref (b0 + a0), .int x1, .int x2, .int x3, .int x4]) ++ List.replicate (11 - (lg_sl ([.ref (b0 + a0), .int x1, .int x2, .int x3, .int x4])).length) Slot.unset).toArray = ls at hl ⊢
  have hl : lv_has ls 11 [(0, .ref (b0 + a0)), (1, .int x1), (2, .int x2), (3, .int x3), (4, .int x4)] := hl
  unfold fX10_odds at hE
  obtain ⟨_, _, hE⟩ := Option.bind_eq_some_iff.mp hE
  refine lv_aload_n hx hb dX10_odds_0 rfl (lv_at hl 0 rfl) ?_
  refine lv_iload_n hx hb dX10_odds_1 rfl (lv_at hl 1 rfl) ?_
  refine lv_iload_n hx hb dX10_odds_2 rfl (lv_at hl 2 rfl) ?_
  obtain ⟨z1, hz1, hE⟩ := Option.bind_eq_some_iff.mp hE
  refine r_callI (va_runV (As := [.int x1, .int x2]) (rest := []) ⟨hx, hb, hml, hown, hts⟩ (sX10_areTwo l b0 D cA hz1) (cwV 2 hts gX10_odds_X10_areTwo rfl rfl rfl (by decide +kernel) (rm_ok (by decide) (by decide))) (pre_V (ci := 9) hK hH (oX10_areTwo hz1) rfl) rfl rfl hl.1 rfl (lv_room (Nat.le_of_ble_eq_true rfl)) dX10_odds_3 ⟨Nat.zero_le _, Nat.zero_le _⟩) hS (fun H locs hH hS => ?_)
  refine lv_if_eq (tgt := 29) hx hb dX10_odds_6 (by decide) (fun c2 => ?_) (fun c2 => ?_)
  · rw [if_pos c2] at hE
    exact sX10_odds_b29 (F := F) hC hE _ _ _ hH hS (lv_sub hl [] rfl)
  · rw [if_neg c2] at hE
    refine lv_iload_n hx hb dX10_odds_9 rfl (lv_at hl 3 rfl) ?_
    refine lv_iconst (v := 0) hx hb dX10_odds_10 (by decide) ?_
    refine lv_bipush (v := 10) hx hb dX10_odds_11 (by decide) ?_
    obtain ⟨z3, hz3, hE⟩ := Option.bind_eq_some_iff.mp hE
    refine r_callI (va_runS (As := [.int x3, .int 0, .int 10]) (rest := []) ⟨hx, hb, hml, hown, hts⟩ (sX10_in l b0 D cA hz3) (va_cwS 3 hts gX10_odds_X10_in rfl rfl rfl (by decide +kernel) (rm_ok (by decide) (by decide))) (pre_S hK hH) rfl rfl hl.1 rfl (lv_room (Nat.le_of_ble_eq_true rfl)) dX10_odds_13 ⟨Nat.zero_le _, Nat.zero_le _⟩) hS (fun H locs hH hS => ?_)
    refine lv_if_eq (tgt := 29) hx hb dX10_odds_16 (by decide) (fun c4 => ?_) (fun c4 => ?_)
    · rw [if_pos c4] at hE
      exact sX10_odds_b29 (F := F) hC hE _ _ _ hH hS (lv_sub hl [] rfl)
    · rw [if_neg c4] at hE
      refine lv_iload hx hb dX10_odds_19 (lv_at hl 4 rfl) ?_
      refine lv_iconst (v := 0) hx hb dX10_odds_21 (by decide) ?_
      refine lv_iconst (v := 1) hx hb dX10_odds_22 (by decide) ?_
      obtain ⟨z5, hz5, hE⟩ := Option.bind_eq_some_iff.mp hE
      refine r_callI (va_runS (As := [.int x4, .int 0, .int 1]) (rest := []) ⟨hx, hb, hml, hown, hts⟩ (sX10_in l b0 D cA hz5) (va_cwS 3 hts gX10_odds_X10_in rfl rfl rfl (by decide +kernel) (rm_ok (by decide) (by decide))) (pre_S hK hH) rfl rfl hl.1 rfl (lv_room (Nat.le_of_ble_eq_true rfl)) dX10_odds_23 ⟨Nat.zero_le _, Nat.zero_le _⟩) hS (fun H locs hH hS => ?_)
      refine lv_if_ne (tgt := 31) hx hb dX10_odds_26 (by decide) (fun c6 => ?_) (fun c6 => ?_)
      · rw [if_neg c6] at hE
        refine lv_iconst (v := 0) hx hb dX10_odds_31 (by decide) ?_
        refine lv_istore (lv' := [(5, .int 0), (0, .ref (b0 + a0)), (1, .int x1), (2, .int x2), (3, .int x3), (4, .int x4)]) hx hb dX10_odds_32 hl (by decide) rfl (fun ls hl => ?_)
        refine lv_iconst (v := 1) hx hb dX10_odds_34 (by decide) ?_
        refine lv_istore (lv' := [(6, .int 1), (5, .int 0), (0, .ref (b0 + a0)), (1, .int x1), (2, .int x2), (3, .int x3), (4, .int x4)]) hx hb dX10_odds_35 hl (by decide) rfl (fun ls hl => ?_)
        refine lv_aload_n hx hb dX10_odds_37 rfl (lv_at hl 2 rfl) ?_
        refine lv_iconst (v := 0) hx hb dX10_odds_38 (by decide) ?_
        obtain ⟨z7, hz7, hE⟩ := Option.bind_eq_some_iff.mp hE
        refine r_callI (va_runV (As := [.int 0]) (rest := []) ⟨hx, hb, hml, hown, hts⟩ (sX10_openBy l b0 D cA hz7) (cwV 1 hts gX10_odds_X10_openBy rfl rfl rfl (by decide +kernel) (rm_ok (by decide) (by decide))) (pre_V (ci := 9) hK hH (oX10_openBy hz7) rfl) rfl rfl hl.1 rfl (lv_room (Nat.le_of_ble_eq_true rfl)) dX10_odds_39 ⟨Nat.zero_le _, Nat.zero_le _⟩) hS (fun H locs hH hS => ?_)
        refine lv_istore (lv' := [(7, .int z7.1), (6, .int 1), (5, .int 0), (0, .ref (b0 + a0)), (1, .int x1), (2, .int x2), (3, .int x3), (4, .int x4)]) hx hb dX10_odds_42 hl (by decide) rfl (fun ls hl => ?_)
        refine lv_iconst (v := 0) hx hb dX10_odds_44 (by decide) ?_
        refine lv_istore (lv' := [(8, .int 0), (7, .int z7.1), (6, .int 1), (5, .int 0), (0, .ref (b0 + a0)), (1, .int x1), (2, .int x2), (3, .int x3), (4, .int x4)]) hx hb dX10_odds_45 hl (by decide) rfl (fun ls hl => ?_)
        exact sX10_odds_b47 (F := F) hC F _ _ _ _ _ _ _ _ _ _ hE _ _ _ hH hS (lv_sub hl [4, 5, 6, 7, 8, 3, 2, 1, 0] rfl)
      · rw [if_pos c6] at hE
        exact sX10_odds_b29 (F := F) hC hE _ _ _ hH hS (lv_sub hl [] rfl)
-- X10_canHave
def fX10_canHave (F : Nat) (L : HL) (a0 : Nat) (x1 : Int32) (x2 : Int32) : Option (Int32 × HL) := (o_ob L a0 9).bind fun _ => (fX10_widthOf F L a0 x2).bind fun z1 => (o_gR z1.2 a0 9 9).bind fun v2 => (o_aI z1.2 v2 0 x1).bind fun v3 => if z1.1 < v3 then (some (0, z1.2)) else (some (1, z1.2))
theorem oX10_canHave {F : Nat} {L : HL} {a0 : Nat} {x1 : Int32} {x2 : Int32} {z : (Int32 × HL)} (hE : fX10_canHave F L a0 x1 x2 = some z) : o_ob L a0 9 = some () := by
  obtain ⟨_, h, _⟩ := Option.bind_eq_some_iff.mp hE
  exact h
set_option maxHeartbeats 4000000 in
set_option maxRecDepth 100000 in
theorem sX10_canHave (l : Launch) (b0 : Nat) (D : va_G) (cA : Nat → ClassId) {F : Nat} {L : HL} {a0 : Nat} {x1 : Int32} {x2 : Int32} {z : (Int32 × HL)} (hE : fX10_canHave F L a0 x1 x2 = some z) : Met l yX10_canHave wsX10_canHave (RM 1 0 0) (Pk b0 D cA [.ref (b0 + a0), .int x1, .int x2] L) (Qk b0 D cA (some (.int z.1)) z.2) 0 0 (Ab b0) := by
  refine Met.ofW (cc := cX10_canHave) (maxL := 3) (ret := (some .boolean)) (by decide) rfl ?_
  intro p ev s m args below meth c s₁ B hml hv
  obtain ⟨rfl, hH, hK⟩ := hv
  have hx := B.exec
  have hb := B.bytes
  have hr := B.returns
  have hts := atoms_spec (ws := wsX10_canHave) B.pre
  have hown : s.vm.findClass RX10 = some m.cls := findClass_of_methodNamed B.named
  have hlocks := B.notSynchronized
  have hC : Cx D cA p s m _ meth c cX10_canHave 3 RX10 wsX10_canHave (some .boolean) := ⟨hx, hb, hml, hown, hts, hK, hr, hlocks⟩
  have hS : va_S (Ab b0) s.heap s.heap [] := va_S.rf
  have hl := lv_entry ([.ref (b0 + a0), .int x1, .int x2]) (n := 3) (Nat.le_of_ble_eq_true rfl)
  rw [lg_entry_eq]
  generalize (lg_sl ([.ref (b0 + a0), .int x1, .int x2]) ++ List.replicate (3 - (lg_sl ([.ref (b0 + a0), .int x1, .int x2])).length) Slot.unset).toArray = ls at hl ⊢
  have hl : lv_has ls 3 [(0, .ref (b0 + a0)), (1, .int x1), (2, .int x2)] := hl
  unfold fX10_canHave at hE
  obtain ⟨_, _, hE⟩ := Option.bind_eq_some_iff.mp hE
  refine lv_aload_n hx hb dX10_canHave_0 rfl (lv_at hl 0 rfl) ?_
  refine lv_iload_n hx hb dX10_canHave_1 rfl (lv_at hl 2 rfl) ?_
  obtain ⟨z1, hz1, hE⟩ := Option.bind_eq_some_iff.mp hE
  refine r_callI (va_runV (As := [.int x2]) (rest := []) ⟨hx, hb, hml, hown, hts⟩ (sX10_widthOf l b0 D cA hz1) (cwV 1 hts gX10_canHave_X10_widthOf rfl rfl rfl (by decide +kernel) (rm_ok (by decide) (by decide))) (pre_V (ci := 9) hK hH (oX10_widthOf hz1) rfl) rfl rfl hl.1 rfl (lv_room (Nat.le_of_ble_eq_true rfl)) dX10_canHave_2 ⟨Nat.zero_le _, Nat.zero_le _⟩) hS (fun H locs hH hS => ?_)
  refine lv_aload_n hx hb dX10_canHave_5 rfl (lv_at hl 0 rfl) ?_
  obtain ⟨v2, hv2, hE⟩ := Option.bind_eq_some_iff.mp hE
  refine r_gR 9 (C := RX10) (T := TX10) (N := 26) (ci := 9) hx hb hts (by decide +kernel) hown hK hH hv2 rfl (by decide) (hts (.fieldLink RX10 35 "KindStreetsModel" "wants" "[I") (by decide +kernel)) (fun _ h9 => h9) dX10_canHave_6 ?_
  refine lv_iload_n hx hb dX10_canHave_9 rfl (lv_at hl 1 rfl) ?_
  obtain ⟨v3, hv3, hE⟩ := Option.bind_eq_some_iff.mp hE
  refine r_iald hx hb hK hH hv3 dX10_canHave_10 ?_
  refine lv_icmp_lt (tgt := 18) hx hb dX10_canHave_11 (by decide) (fun c4 => ?_) (fun c4 => ?_)
  · rw [if_pos c4] at hE
    refine lv_iconst (v := 0) hx hb dX10_canHave_18 (by decide) ?_
    have hZ := Option.some.inj hE
    subst hZ
    exact W.zret (v := 0) (ty := .boolean) hx hb hr rfl (fun t ht hW => ⟨rfl, by rw [ht]; exact hH, hS.F ht⟩) hS.2.2 dX10_canHave_19
  · rw [if_neg c4] at hE
    refine lv_iconst (v := 1) hx hb dX10_canHave_14 (by decide) ?_
    refine lv_goto (tgt := 19) hx hb dX10_canHave_15 (by decide) ?_
    have hZ := Option.some.inj hE
    subst hZ
    exact W.zret (v := 1) (ty := .boolean) hx hb hr rfl (fun t ht hW => ⟨rfl, by rw [ht]; exact hH, hS.F ht⟩) hS.2.2 dX10_canHave_19
-- X10_tellMost
def fX10_tellMost_b148 (F : Nat) (k79 : Nat → Int32 → Int32 → Int32 → Int32 → Int32 → HL → Option HL) (a0 : Nat) (x1 : Int32) (x2 : Int32) (x3 : Int32) (x4 : Int32) (x5 : Int32) (L : HL) : Option HL := k79 a0 x1 x2 x3 x4 (x5 + 1) L
set_option maxHeartbeats 4000000 in
set_option maxRecDepth 100000 in
theorem sX10_tellMost_b148 {b0 : Nat} {D : va_G} {cA : Nat → ClassId} {p : Program} {l : Launch} {ev : Env} {s : State} {m : MethodId} {args : Array Value} {below : List Frame} {meth : Method} {c : Code} {F : Nat} {z : HL} {k79 : Nat → Int32 → Int32 → Int32 → Int32 → Int32 → HL → Option HL} {a0 : Nat} {x1 : Int32} {x2 : Int32} {x3 : Int32} {x4 : Int32} {x5 : Int32} {L : HL} (hC : Cx D cA p s m args meth c cX10_tellMost 7 RX10 wsX10_tellMost none) (hk79 : ∀ (a0' : Nat) (x1' : Int32) (x2' : Int32) (x3' : Int32) (x4' : Int32) (x5' : Int32) (L' : HL), k79 a0' x1' x2' x3' x4' x5' L' = some z → WB b0 D cA p l ev (RM 2 0 0) s m args below meth c 7 0 0 (MQ below (Qk b0 D cA none z) args s 0 0 (Ab b0)) 79 [(0, .ref (b0 + a0')), (1, .int x1'), (2, .int x2'), (3, .int x3'), (4, .int x4'), (5, .int x5')] [] L') (hE : fX10_tellMost_b148 F k79 a0 x1 x2 x3 x4 x5 L = some z) : WB b0 D cA p l ev (RM 2 0 0) s m args below meth c 7 0 0 (MQ below (Qk b0 D cA none z) args s 0 0 (Ab b0)) 148 [(0, .ref (b0 + a0)), (1, .int x1), (2, .int x2), (3, .int x3), (4, .int x4), (5, .int x5)] [] L := by
  obtain ⟨hx, hb, hml, hown, hts, hK, hr, hlocks⟩ := id hC
  intro H locs ls hH hS hl
  unfold fX10_tellMost_b148 at hE
  refine lv_iinc (v := (x5 + 1)) (lv' := [(5, .int (x5 + 1)), (0, .ref (b0 + a0)), (1, .int x1), (2, .int x2), (3, .int x3), (4, .int x4)]) hx hb dX10_tellMost_148 hl (k := 5) rfl rfl (by decide) rfl (fun ls hl => ?_)
  refine lv_goto (tgt := 79) hx hb dX10_tellMost_151 (by decide) ?_
  exact hk79 _ _ _ _ _ _ _ hE _ _ _ hH hS (lv_sub hl [1, 2, 3, 4, 5, 0] rfl)
def fX10_tellMost_b146 (F : Nat) (k79 : Nat → Int32 → Int32 → Int32 → Int32 → Int32 → HL → Option HL) (a0 : Nat) (x1 : Int32) (x2 : Int32) (x3 : Int32) (x5 : Int32) (y0 : Int32) (L : HL) : Option HL := fX10_tellMost_b148 F k79 a0 x1 x2 x3 y0 x5 L
set_option maxHeartbeats 4000000 in
set_option maxRecDepth 100000 in
theorem sX10_tellMost_b146 {b0 : Nat} {D : va_G} {cA : Nat → ClassId} {p : Program} {l : Launch} {ev : Env} {s : State} {m : MethodId} {args : Array Value} {below : List Frame} {meth : Method} {c : Code} {F : Nat} {z : HL} {k79 : Nat → Int32 → Int32 → Int32 → Int32 → Int32 → HL → Option HL} {a0 : Nat} {x1 : Int32} {x2 : Int32} {x3 : Int32} {x5 : Int32} {y0 : Int32} {L : HL} (hC : Cx D cA p s m args meth c cX10_tellMost 7 RX10 wsX10_tellMost none) (hk79 : ∀ (a0' : Nat) (x1' : Int32) (x2' : Int32) (x3' : Int32) (x4' : Int32) (x5' : Int32) (L' : HL), k79 a0' x1' x2' x3' x4' x5' L' = some z → WB b0 D cA p l ev (RM 2 0 0) s m args below meth c 7 0 0 (MQ below (Qk b0 D cA none z) args s 0 0 (Ab b0)) 79 [(0, .ref (b0 + a0')), (1, .int x1'), (2, .int x2'), (3, .int x3'), (4, .int x4'), (5, .int x5')] [] L') (hE : fX10_tellMost_b146 F k79 a0 x1 x2 x3 x5 y0 L = some z) : WB b0 D cA p l ev (RM 2 0 0) s m args below meth c 7 0 0 (MQ below (Qk b0 D cA none z) args s 0 0 (Ab b0)) 146 [(0, .ref (b0 + a0)), (1, .int x1), (2, .int x2), (3, .int x3), (5, .int x5)] [.int y0] L := by
  obtain ⟨hx, hb, hml, hown, hts, hK, hr, hlocks⟩ := id hC
  intro H locs ls hH hS hl
  unfold fX10_tellMost_b146 at hE
  refine lv_istore (lv' := [(4, .int y0), (0, .ref (b0 + a0)), (1, .int x1), (2, .int x2), (3, .int x3), (5, .int x5)]) hx hb dX10_tellMost_146 hl (by decide) rfl (fun ls hl => ?_)
  exact sX10_tellMost_b148 (F := F) hC hk79 hE _ _ _ hH hS (lv_sub hl [1, 2, 3, 4, 0, 5] rfl)
def fX10_tellMost_b79c (F : Nat) (k55 : Nat → Int32 → Int32 → Int32 → HL → Option HL) (k79 : Nat → Int32 → Int32 → Int32 → Int32 → Int32 → HL → Option HL) (a0 : Nat) (x1 : Int32) (x2 : Int32) (x3 : Int32) (x4 : Int32) (x5 : Int32) (L : HL) : Option HL := (o_gR L a0 9 3).bind fun v10 => (o_aI L v10 0 0).bind fun v11 => if v11 ≤ x5 then ((o_gR L a0 9 21).bind fun v13 => (o_sI L v13 0 ((512 * x2) + x3) x4).bind fun L14 => k55 a0 x1 x2 (x3 + 1) L14) else ((fX10_has F L x3 x5).bind fun z15 => if z15.1 = 0 then ((fX10_canHave F z15.2 a0 x2 x5).bind fun z17 => if z17.1 = 0 then (fX10_tellMost_b148 F k79 a0 x1 x2 x3 x4 x5 z17.2) else ((o_gR z17.2 a0 9 21).bind fun v19 => (o_aI z17.2 v19 0 ((512 * (x2 + 1)) + (x3 ||| ((1 : Int32) <<< (x5 &&& 31))))).bind fun v20 => if (1 + v20) ≤ x4 then (fX10_tellMost_b146 F k79 a0 x1 x2 x3 x5 x4 z17.2) else (fX10_tellMost_b146 F k79 a0 x1 x2 x3 x5 (1 + v20) z17.2))) else (fX10_tellMost_b148 F k79 a0 x1 x2 x3 x4 x5 z15.2))
def fX10_tellMost_b79 (F : Nat) (k55 : Nat → Int32 → Int32 → Int32 → HL → Option HL) : Nat → Nat → Int32 → Int32 → Int32 → Int32 → Int32 → HL → Option HL
  | 0 => fun _ _ _ _ _ _ _ => none
  | n + 1 => fun a0 x1 x2 x3 x4 x5 L => fX10_tellMost_b79c F k55 (fX10_tellMost_b79 F k55 n) a0 x1 x2 x3 x4 x5 L
set_option maxHeartbeats 4000000 in
set_option maxRecDepth 100000 in
theorem sX10_tellMost_b79c {b0 : Nat} {D : va_G} {cA : Nat → ClassId} {p : Program} {l : Launch} {ev : Env} {s : State} {m : MethodId} {args : Array Value} {below : List Frame} {meth : Method} {c : Code} {F : Nat} {z : HL} {k55 : Nat → Int32 → Int32 → Int32 → HL → Option HL} {k79 : Nat → Int32 → Int32 → Int32 → Int32 → Int32 → HL → Option HL} {a0 : Nat} {x1 : Int32} {x2 : Int32} {x3 : Int32} {x4 : Int32} {x5 : Int32} {L : HL} (hC : Cx D cA p s m args meth c cX10_tellMost 7 RX10 wsX10_tellMost none) (hk55 : ∀ (a0' : Nat) (x1' : Int32) (x2' : Int32) (x3' : Int32) (L' : HL), k55 a0' x1' x2' x3' L' = some z → WB b0 D cA p l ev (RM 2 0 0) s m args below meth c 7 0 0 (MQ below (Qk b0 D cA none z) args s 0 0 (Ab b0)) 55 [(0, .ref (b0 + a0')), (1, .int x1'), (2, .int x2'), (3, .int x3')] [] L') (hk79 : ∀ (a0' : Nat) (x1' : Int32) (x2' : Int32) (x3' : Int32) (x4' : Int32) (x5' : Int32) (L' : HL), k79 a0' x1' x2' x3' x4' x5' L' = some z → WB b0 D cA p l ev (RM 2 0 0) s m args below meth c 7 0 0 (MQ below (Qk b0 D cA none z) args s 0 0 (Ab b0)) 79 [(0, .ref (b0 + a0')), (1, .int x1'), (2, .int x2'), (3, .int x3'), (4, .int x4'), (5, .int x5')] [] L') (hE : fX10_tellMost_b79c F k55 k79 a0 x1 x2 x3 x4 x5 L = some z) : WB b0 D cA p l ev (RM 2 0 0) s m args below meth c 7 0 0 (MQ below (Qk b0 D cA none z) args s 0 0 (Ab b0)) 79 [(0, .ref (b0 + a0)), (1, .int x1), (2, .int x2), (3, .int x3), (4, .int x4), (5, .int x5)] [] L := by
  obtain ⟨hx, hb, hml, hown, hts, hK, hr, hlocks⟩ := id hC
  intro H locs ls hH hS hl
  unfold fX10_tellMost_b79c at hE
  refine lv_iload hx hb dX10_tellMost_79 (lv_at hl 5 rfl) ?_
  refine lv_aload_n hx hb dX10_tellMost_81 rfl (lv_at hl 0 rfl) ?_
  obtain ⟨v10, hv10, hE⟩ := Option.bind_eq_some_iff.mp hE
  refine r_gR 3 (C := RX10) (T := TX10) (N := 26) (ci := 9) hx hb hts (by decide +kernel) hown hK hH hv10 rfl (by decide) (hts (.fieldLink RX10 17 "KindStreetsModel" "streets" "[I") (by decide +kernel)) (fun _ h9 => h9) dX10_tellMost_82 ?_
  refine lv_iconst (v := 0) hx hb dX10_tellMost_85 (by decide) ?_
  obtain ⟨v11, hv11, hE⟩ := Option.bind_eq_some_iff.mp hE
  refine r_iald hx hb hK hH hv11 dX10_tellMost_86 ?_
  refine lv_icmp_ge (tgt := 154) hx hb dX10_tellMost_87 (by decide) (fun c12 => ?_) (fun c12 => ?_)
  · rw [if_pos c12] at hE
    refine lv_aload_n hx hb dX10_tellMost_154 rfl (lv_at hl 0 rfl) ?_
    obtain ⟨v13, hv13, hE⟩ := Option.bind_eq_some_iff.mp hE
    refine r_gR 21 (C := RX10) (T := TX10) (N := 26) (ci := 9) hx hb hts (by decide +kernel) hown hK hH hv13 rfl (by decide) (hts (.fieldLink RX10 54 "KindStreetsModel" "most" "[I") (by decide +kernel)) (fun _ h9 => h9) dX10_tellMost_155 ?_
    refine lv_sipush (v := 512) hx hb dX10_tellMost_158 (by decide) ?_
    refine lv_iload_n hx hb dX10_tellMost_161 rfl (lv_at hl 2 rfl) ?_
    refine lv_imul hx hb dX10_tellMost_162 ?_
    refine lv_iload_n hx hb dX10_tellMost_163 rfl (lv_at hl 3 rfl) ?_
    refine lv_iadd hx hb dX10_tellMost_164 ?_
    refine lv_iload hx hb dX10_tellMost_165 (lv_at hl 4 rfl) ?_
    obtain ⟨L14, hL14, hE⟩ := Option.bind_eq_some_iff.mp hE
    refine r_iast hx hb hK hH hS hL14 dX10_tellMost_167 (fun H locs hH hS => ?_)
    refine lv_iinc (v := (x3 + 1)) (lv' := [(3, .int (x3 + 1)), (0, .ref (b0 + a0)), (1, .int x1), (2, .int x2), (4, .int x4), (5, .int x5)]) hx hb dX10_tellMost_168 hl (k := 3) rfl rfl (by decide) rfl (fun ls hl => ?_)
    refine lv_goto (tgt := 55) hx hb dX10_tellMost_171 (by decide) ?_
    exact hk55 _ _ _ _ _ hE _ _ _ hH hS (lv_sub hl [1, 2, 3, 0] rfl)
  · rw [if_neg c12] at hE
    refine lv_iload_n hx hb dX10_tellMost_90 rfl (lv_at hl 3 rfl) ?_
    refine lv_iload hx hb dX10_tellMost_91 (lv_at hl 5 rfl) ?_
    obtain ⟨z15, hz15, hE⟩ := Option.bind_eq_some_iff.mp hE
    refine r_callI (va_runS (As := [.int x3, .int x5]) (rest := []) ⟨hx, hb, hml, hown, hts⟩ (sX10_has l b0 D cA hz15) (va_cwS 2 hts gX10_tellMost_X10_has rfl rfl rfl (by decide +kernel) (rm_ok (by decide) (by decide))) (pre_S hK hH) rfl rfl hl.1 rfl (lv_room (Nat.le_of_ble_eq_true rfl)) dX10_tellMost_93 ⟨Nat.zero_le _, Nat.zero_le _⟩) hS (fun H locs hH hS => ?_)
    refine lv_if_ne (tgt := 148) hx hb dX10_tellMost_96 (by decide) (fun c16 => ?_) (fun c16 => ?_)
    · rw [if_neg c16] at hE
      exact sX10_tellMost_b148 (F := F) hC hk79 hE _ _ _ hH hS (lv_sub hl [0, 1, 2, 3, 4, 5] rfl)
    · rw [if_pos c16] at hE
      refine lv_aload_n hx hb dX10_tellMost_99 rfl (lv_at hl 0 rfl) ?_
      refine lv_iload_n hx hb dX10_tellMost_100 rfl (lv_at hl 2 rfl) ?_
      refine lv_iload hx hb dX10_tellMost_101 (lv_at hl 5 rfl) ?_
      obtain ⟨z17, hz17, hE⟩ := Option.bind_eq_some_iff.mp hE
      refine r_callI (va_runV (As := [.int x2, .int x5]) (rest := []) ⟨hx, hb, hml, hown, hts⟩ (sX10_canHave l b0 D cA hz17) (cwV 2 hts gX10_tellMost_X10_canHave rfl rfl rfl (by decide +kernel) (rm_ok (by decide) (by decide))) (pre_V (ci := 9) hK hH (oX10_canHave hz17) rfl) rfl rfl hl.1 rfl (lv_room (Nat.le_of_ble_eq_true rfl)) dX10_tellMost_103 ⟨Nat.zero_le _, Nat.zero_le _⟩) hS (fun H locs hH hS => ?_)
      refine lv_if_eq (tgt := 148) hx hb dX10_tellMost_106 (by decide) (fun c18 => ?_) (fun c18 => ?_)
      · rw [if_pos c18] at hE
        exact sX10_tellMost_b148 (F := F) hC hk79 hE _ _ _ hH hS (lv_sub hl [0, 1, 2, 3, 4, 5] rfl)
      · rw [if_neg c18] at hE
        refine lv_iconst (v := 1) hx hb dX10_tellMost_109 (by decide) ?_
        refine lv_aload_n hx hb dX10_tellMost_110 rfl (lv_at hl 0 rfl) ?_
        obtain ⟨v19, hv19, hE⟩ := Option.bind_eq_some_iff.mp hE
        refine r_gR 21 (C := RX10) (T := TX10) (N := 26) (ci := 9) hx hb hts (by decide +kernel) hown hK hH hv19 rfl (by decide) (hts (.fieldLink RX10 54 "KindStreetsModel" "most" "[I") (by decide +kernel)) (fun _ h9 => h9) dX10_tellMost_111 ?_
        refine lv_sipush (v := 512) hx hb dX10_tellMost_114 (by decide) ?_
        refine lv_iload_n hx hb dX10_tellMost_117 rfl (lv_at hl 2 rfl) ?_
        refine lv_iconst (v := 1) hx hb dX10_tellMost_118 (by decide) ?_
        refine lv_iadd hx hb dX10_tellMost_119 ?_
        refine lv_imul hx hb dX10_tellMost_120 ?_
        refine lv_iload_n hx hb dX10_tellMost_121 rfl (lv_at hl 3 rfl) ?_
        refine lv_iconst (v := 1) hx hb dX10_tellMost_122 (by decide) ?_
        refine lv_iload hx hb dX10_tellMost_123 (lv_at hl 5 rfl) ?_
        refine lv_ishl hx hb dX10_tellMost_125 ?_
        refine lv_ior hx hb dX10_tellMost_126 ?_
        refine lv_iadd hx hb dX10_tellMost_127 ?_
        obtain ⟨v20, hv20, hE⟩ := Option.bind_eq_some_iff.mp hE
        refine r_iald hx hb hK hH hv20 dX10_tellMost_128 ?_
        refine lv_iadd hx hb dX10_tellMost_129 ?_
        refine lv_istore (lv' := [(6, .int (1 + v20)), (0, .ref (b0 + a0)), (1, .int x1), (2, .int x2), (3, .int x3), (4, .int x4), (5, .int x5)]) hx hb dX10_tellMost_130 hl (by decide) rfl (fun ls hl => ?_)
        refine lv_iload hx hb dX10_tellMost_132 (lv_at hl 0 rfl) ?_
        refine lv_iload hx hb dX10_tellMost_134 (lv_at hl 5 rfl) ?_
        refine lv_icmp_le (tgt := 144) hx hb dX10_tellMost_136 (by decide) (fun c21 => ?_) (fun c21 => ?_)
        · rw [if_pos c21] at hE
          refine lv_iload hx hb dX10_tellMost_144 (lv_at hl 5 rfl) ?_
          exact sX10_tellMost_b146 (F := F) hC hk79 hE _ _ _ hH hS (lv_sub hl [1, 2, 3, 4, 6] rfl)
        · rw [if_neg c21] at hE
          refine lv_iload hx hb dX10_tellMost_139 (lv_at hl 0 rfl) ?_
          refine lv_goto (tgt := 146) hx hb dX10_tellMost_141 (by decide) ?_
          exact sX10_tellMost_b146 (F := F) hC hk79 hE _ _ _ hH hS (lv_sub hl [1, 2, 3, 4, 6] rfl)
theorem sX10_tellMost_b79 {b0 : Nat} {D : va_G} {cA : Nat → ClassId} {p : Program} {l : Launch} {ev : Env} {s : State} {m : MethodId} {args : Array Value} {below : List Frame} {meth : Method} {c : Code} {F : Nat} {z : HL} {k55 : Nat → Int32 → Int32 → Int32 → HL → Option HL} (hC : Cx D cA p s m args meth c cX10_tellMost 7 RX10 wsX10_tellMost none) (hk55 : ∀ (a0' : Nat) (x1' : Int32) (x2' : Int32) (x3' : Int32) (L' : HL), k55 a0' x1' x2' x3' L' = some z → WB b0 D cA p l ev (RM 2 0 0) s m args below meth c 7 0 0 (MQ below (Qk b0 D cA none z) args s 0 0 (Ab b0)) 55 [(0, .ref (b0 + a0')), (1, .int x1'), (2, .int x2'), (3, .int x3')] [] L') : ∀ (n : Nat) (a0 : Nat) (x1 : Int32) (x2 : Int32) (x3 : Int32) (x4 : Int32) (x5 : Int32) (L : HL), fX10_tellMost_b79 F k55 n a0 x1 x2 x3 x4 x5 L = some z → WB b0 D cA p l ev (RM 2 0 0) s m args below meth c 7 0 0 (MQ below (Qk b0 D cA none z) args s 0 0 (Ab b0)) 79 [(0, .ref (b0 + a0)), (1, .int x1), (2, .int x2), (3, .int x3), (4, .int x4), (5, .int x5)] [] L := by
  intro n
  induction n with
  | zero => intro a0 x1 x2 x3 x4 x5 L hE; cases hE
  | succ n ih => intro a0 x1 x2 x3 x4 x5 L hE; exact sX10_tellMost_b79c (F := F) hC hk55 ih hE
def fX10_tellMost_b55c (F : Nat) (k49 : Nat → Int32 → Int32 → HL → Option HL) (k55 : Nat → Int32 → Int32 → Int32 → HL → Option HL) (a0 : Nat) (x1 : Int32) (x2 : Int32) (x3 : Int32) (L : HL) : Option HL := if x1 ≤ x3 then (k49 a0 x1 (x2 + (-1)) L) else ((o_gR L a0 9 21).bind fun v8 => (o_aI L v8 0 ((512 * (x2 + 1)) + x3)).bind fun v9 => fX10_tellMost_b79 F k55 F a0 x1 x2 x3 v9 0 L)
def fX10_tellMost_b55 (F : Nat) (k49 : Nat → Int32 → Int32 → HL → Option HL) : Nat → Nat → Int32 → Int32 → Int32 → HL → Option HL
  | 0 => fun _ _ _ _ _ => none
  | n + 1 => fun a0 x1 x2 x3 L => fX10_tellMost_b55c F k49 (fX10_tellMost_b55 F k49 n) a0 x1 x2 x3 L
set_option maxHeartbeats 4000000 in
set_option maxRecDepth 100000 in
theorem sX10_tellMost_b55c {b0 : Nat} {D : va_G} {cA : Nat → ClassId} {p : Program} {l : Launch} {ev : Env} {s : State} {m : MethodId} {args : Array Value} {below : List Frame} {meth : Method} {c : Code} {F : Nat} {z : HL} {k49 : Nat → Int32 → Int32 → HL → Option HL} {k55 : Nat → Int32 → Int32 → Int32 → HL → Option HL} {a0 : Nat} {x1 : Int32} {x2 : Int32} {x3 : Int32} {L : HL} (hC : Cx D cA p s m args meth c cX10_tellMost 7 RX10 wsX10_tellMost none) (hk49 : ∀ (a0' : Nat) (x1' : Int32) (x2' : Int32) (L' : HL), k49 a0' x1' x2' L' = some z → WB b0 D cA p l ev (RM 2 0 0) s m args below meth c 7 0 0 (MQ below (Qk b0 D cA none z) args s 0 0 (Ab b0)) 49 [(0, .ref (b0 + a0')), (1, .int x1'), (2, .int x2')] [] L') (hk55 : ∀ (a0' : Nat) (x1' : Int32) (x2' : Int32) (x3' : Int32) (L' : HL), k55 a0' x1' x2' x3' L' = some z → WB b0 D cA p l ev (RM 2 0 0) s m args below meth c 7 0 0 (MQ below (Qk b0 D cA none z) args s 0 0 (Ab b0)) 55 [(0, .ref (b0 + a0')), (1, .int x1'), (2, .int x2'), (3, .int x3')] [] L') (hE : fX10_tellMost_b55c F k49 k55 a0 x1 x2 x3 L = some z) : WB b0 D cA p l ev (RM 2 0 0) s m args below meth c 7 0 0 (MQ below (Qk b0 D cA none z) args s 0 0 (Ab b0)) 55 [(0, .ref (b0 + a0)), (1, .int x1), (2, .int x2), (3, .int x3)] [] L := by
  obtain ⟨hx, hb, hml, hown, hts, hK, hr, hlocks⟩ := id hC
  intro H locs ls hH hS hl
  unfold fX10_tellMost_b55c at hE
  refine lv_iload_n hx hb dX10_tellMost_55 rfl (lv_at hl 3 rfl) ?_
  refine lv_iload_n hx hb dX10_tellMost_56 rfl (lv_at hl 1 rfl) ?_
  refine lv_icmp_ge (tgt := 174) hx hb dX10_tellMost_57 (by decide) (fun c7 => ?_) (fun c7 => ?_)
  · rw [if_pos c7] at hE
    refine lv_iinc (v := (x2 + (-1))) (lv' := [(2, .int (x2 + (-1))), (0, .ref (b0 + a0)), (1, .int x1), (3, .int x3)]) hx hb dX10_tellMost_174 hl (k := 2) rfl rfl (by decide) rfl (fun ls hl => ?_)
    refine lv_goto (tgt := 49) hx hb dX10_tellMost_177 (by decide) ?_
    exact hk49 _ _ _ _ hE _ _ _ hH hS (lv_sub hl [1, 2, 0] rfl)
  · rw [if_neg c7] at hE
    refine lv_aload_n hx hb dX10_tellMost_60 rfl (lv_at hl 0 rfl) ?_
    obtain ⟨v8, hv8, hE⟩ := Option.bind_eq_some_iff.mp hE
    refine r_gR 21 (C := RX10) (T := TX10) (N := 26) (ci := 9) hx hb hts (by decide +kernel) hown hK hH hv8 rfl (by decide) (hts (.fieldLink RX10 54 "KindStreetsModel" "most" "[I") (by decide +kernel)) (fun _ h9 => h9) dX10_tellMost_61 ?_
    refine lv_sipush (v := 512) hx hb dX10_tellMost_64 (by decide) ?_
    refine lv_iload_n hx hb dX10_tellMost_67 rfl (lv_at hl 2 rfl) ?_
    refine lv_iconst (v := 1) hx hb dX10_tellMost_68 (by decide) ?_
    refine lv_iadd hx hb dX10_tellMost_69 ?_
    refine lv_imul hx hb dX10_tellMost_70 ?_
    refine lv_iload_n hx hb dX10_tellMost_71 rfl (lv_at hl 3 rfl) ?_
    refine lv_iadd hx hb dX10_tellMost_72 ?_
    obtain ⟨v9, hv9, hE⟩ := Option.bind_eq_some_iff.mp hE
    refine r_iald hx hb hK hH hv9 dX10_tellMost_73 ?_
    refine lv_istore (lv' := [(4, .int v9), (0, .ref (b0 + a0)), (1, .int x1), (2, .int x2), (3, .int x3)]) hx hb dX10_tellMost_74 hl (by decide) rfl (fun ls hl => ?_)
    refine lv_iconst (v := 0) hx hb dX10_tellMost_76 (by decide) ?_
    refine lv_istore (lv' := [(5, .int 0), (4, .int v9), (0, .ref (b0 + a0)), (1, .int x1), (2, .int x2), (3, .int x3)]) hx hb dX10_tellMost_77 hl (by decide) rfl (fun ls hl => ?_)
    exact sX10_tellMost_b79 (F := F) hC hk55 F _ _ _ _ _ _ _ hE _ _ _ hH hS (lv_sub hl [2, 3, 4, 5, 1, 0] rfl)
theorem sX10_tellMost_b55 {b0 : Nat} {D : va_G} {cA : Nat → ClassId} {p : Program} {l : Launch} {ev : Env} {s : State} {m : MethodId} {args : Array Value} {below : List Frame} {meth : Method} {c : Code} {F : Nat} {z : HL} {k49 : Nat → Int32 → Int32 → HL → Option HL} (hC : Cx D cA p s m args meth c cX10_tellMost 7 RX10 wsX10_tellMost none) (hk49 : ∀ (a0' : Nat) (x1' : Int32) (x2' : Int32) (L' : HL), k49 a0' x1' x2' L' = some z → WB b0 D cA p l ev (RM 2 0 0) s m args below meth c 7 0 0 (MQ below (Qk b0 D cA none z) args s 0 0 (Ab b0)) 49 [(0, .ref (b0 + a0')), (1, .int x1'), (2, .int x2')] [] L') : ∀ (n : Nat) (a0 : Nat) (x1 : Int32) (x2 : Int32) (x3 : Int32) (L : HL), fX10_tellMost_b55 F k49 n a0 x1 x2 x3 L = some z → WB b0 D cA p l ev (RM 2 0 0) s m args below meth c 7 0 0 (MQ below (Qk b0 D cA none z) args s 0 0 (Ab b0)) 55 [(0, .ref (b0 + a0)), (1, .int x1), (2, .int x2), (3, .int x3)] [] L := by
  intro n
  induction n with
  | zero => intro a0 x1 x2 x3 L hE; cases hE
  | succ n ih => intro a0 x1 x2 x3 L hE; exact sX10_tellMost_b55c (F := F) hC hk49 ih hE
def fX10_tellMost_b49c (F : Nat) (k49 : Nat → Int32 → Int32 → HL → Option HL) (a0 : Nat) (x1 : Int32) (x2 : Int32) (L : HL) : Option HL := if x2 < 0 then (some L) else (fX10_tellMost_b55 F k49 F a0 x1 x2 0 L)
def fX10_tellMost_b49 (F : Nat) : Nat → Nat → Int32 → Int32 → HL → Option HL
  | 0 => fun _ _ _ _ => none
  | n + 1 => fun a0 x1 x2 L => fX10_tellMost_b49c F (fX10_tellMost_b49 F n) a0 x1 x2 L
set_option maxHeartbeats 4000000 in
set_option maxRecDepth 100000 in
theorem sX10_tellMost_b49c {b0 : Nat} {D : va_G} {cA : Nat → ClassId} {p : Program} {l : Launch} {ev : Env} {s : State} {m : MethodId} {args : Array Value} {below : List Frame} {meth : Method} {c : Code} {F : Nat} {z : HL} {k49 : Nat → Int32 → Int32 → HL → Option HL} {a0 : Nat} {x1 : Int32} {x2 : Int32} {L : HL} (hC : Cx D cA p s m args meth c cX10_tellMost 7 RX10 wsX10_tellMost none) (hk49 : ∀ (a0' : Nat) (x1' : Int32) (x2' : Int32) (L' : HL), k49 a0' x1' x2' L' = some z → WB b0 D cA p l ev (RM 2 0 0) s m args below meth c 7 0 0 (MQ below (Qk b0 D cA none z) args s 0 0 (Ab b0)) 49 [(0, .ref (b0 + a0')), (1, .int x1'), (2, .int x2')] [] L') (hE : fX10_tellMost_b49c F k49 a0 x1 x2 L = some z) : WB b0 D cA p l ev (RM 2 0 0) s m args below meth c 7 0 0 (MQ below (Qk b0 D cA none z) args s 0 0 (Ab b0)) 49 [(0, .ref (b0 + a0)), (1, .int x1), (2, .int x2)] [] L := by
  obtain ⟨hx, hb, hml, hown, hts, hK, hr, hlocks⟩ := id hC
  intro H locs ls hH hS hl
  unfold fX10_tellMost_b49c at hE
  refine lv_iload_n hx hb dX10_tellMost_49 rfl (lv_at hl 2 rfl) ?_
  refine lv_if_lt (tgt := 180) hx hb dX10_tellMost_50 (by decide) (fun c6 => ?_) (fun c6 => ?_)
  · rw [if_pos c6] at hE
    have hZ := Option.some.inj hE
    subst hZ
    exact W.vret hx hb hr (fun t ht hW => ⟨rfl, by rw [ht]; exact hH, hS.F ht⟩) hS.2.2 dX10_tellMost_180
  · rw [if_neg c6] at hE
    refine lv_iconst (v := 0) hx hb dX10_tellMost_53 (by decide) ?_
    refine lv_istore_n (lv' := [(3, .int 0), (0, .ref (b0 + a0)), (1, .int x1), (2, .int x2)]) hx hb dX10_tellMost_54 rfl hl (by decide) rfl (fun ls hl => ?_)
    exact sX10_tellMost_b55 (F := F) hC hk49 F _ _ _ _ _ hE _ _ _ hH hS (lv_sub hl [1, 2, 3, 0] rfl)
theorem sX10_tellMost_b49 {b0 : Nat} {D : va_G} {cA : Nat → ClassId} {p : Program} {l : Launch} {ev : Env} {s : State} {m : MethodId} {args : Array Value} {below : List Frame} {meth : Method} {c : Code} {F : Nat} {z : HL} (hC : Cx D cA p s m args meth c cX10_tellMost 7 RX10 wsX10_tellMost none) : ∀ (n : Nat) (a0 : Nat) (x1 : Int32) (x2 : Int32) (L : HL), fX10_tellMost_b49 F n a0 x1 x2 L = some z → WB b0 D cA p l ev (RM 2 0 0) s m args below meth c 7 0 0 (MQ below (Qk b0 D cA none z) args s 0 0 (Ab b0)) 49 [(0, .ref (b0 + a0)), (1, .int x1), (2, .int x2)] [] L := by
  intro n
  induction n with
  | zero => intro a0 x1 x2 L hE; cases hE
  | succ n ih => intro a0 x1 x2 L hE; exact sX10_tellMost_b49c (F := F) hC ih hE
def fX10_tellMost_b11c (F : Nat) (k11 : Nat → Int32 → Int32 → HL → Option HL) (a0 : Nat) (x1 : Int32) (x2 : Int32) (L : HL) : Option HL := if x1 ≤ x2 then ((o_gR L a0 9 7).bind fun v4 => (o_aI L v4 0 0).bind fun v5 => fX10_tellMost_b49 F F a0 x1 (v5 - 1) L) else ((o_gR L a0 9 21).bind fun v22 => (o_gR L a0 9 7).bind fun v23 => (o_aI L v23 0 0).bind fun v24 => (o_sI L v22 0 ((512 * v24) + x2) 0).bind fun L25 => k11 a0 x1 (x2 + 1) L25)
def fX10_tellMost_b11 (F : Nat) : Nat → Nat → Int32 → Int32 → HL → Option HL
  | 0 => fun _ _ _ _ => none
  | n + 1 => fun a0 x1 x2 L => fX10_tellMost_b11c F (fX10_tellMost_b11 F n) a0 x1 x2 L
set_option maxHeartbeats 4000000 in
set_option maxRecDepth 100000 in
theorem sX10_tellMost_b11c {b0 : Nat} {D : va_G} {cA : Nat → ClassId} {p : Program} {l : Launch} {ev : Env} {s : State} {m : MethodId} {args : Array Value} {below : List Frame} {meth : Method} {c : Code} {F : Nat} {z : HL} {k11 : Nat → Int32 → Int32 → HL → Option HL} {a0 : Nat} {x1 : Int32} {x2 : Int32} {L : HL} (hC : Cx D cA p s m args meth c cX10_tellMost 7 RX10 wsX10_tellMost none) (hk11 : ∀ (a0' : Nat) (x1' : Int32) (x2' : Int32) (L' : HL), k11 a0' x1' x2' L' = some z → WB b0 D cA p l ev (RM 2 0 0) s m args below meth c 7 0 0 (MQ below (Qk b0 D cA none z) args s 0 0 (Ab b0)) 11 [(0, .ref (b0 + a0')), (1, .int x1'), (2, .int x2')] [] L') (hE : fX10_tellMost_b11c F k11 a0 x1 x2 L = some z) : WB b0 D cA p l ev (RM 2 0 0) s m args below meth c 7 0 0 (MQ below (Qk b0 D cA none z) args s 0 0 (Ab b0)) 11 [(0, .ref (b0 + a0)), (1, .int x1), (2, .int x2)] [] L := by
  obtain ⟨hx, hb, hml, hown, hts, hK, hr, hlocks⟩ := id hC
  intro H locs ls hH hS hl
  unfold fX10_tellMost_b11c at hE
  refine lv_iload_n hx hb dX10_tellMost_11 rfl (lv_at hl 2 rfl) ?_
  refine lv_iload_n hx hb dX10_tellMost_12 rfl (lv_at hl 1 rfl) ?_
  refine lv_icmp_ge (tgt := 40) hx hb dX10_tellMost_13 (by decide) (fun c3 => ?_) (fun c3 => ?_)
  · rw [if_pos c3] at hE
    refine lv_aload_n hx hb dX10_tellMost_40 rfl (lv_at hl 0 rfl) ?_
    obtain ⟨v4, hv4, hE⟩ := Option.bind_eq_some_iff.mp hE
    refine r_gR 7 (C := RX10) (T := TX10) (N := 26) (ci := 9) hx hb hts (by decide +kernel) hown hK hH hv4 rfl (by decide) (hts (.fieldLink RX10 29 "KindStreetsModel" "people" "[I") (by decide +kernel)) (fun _ h9 => h9) dX10_tellMost_41 ?_
    refine lv_iconst (v := 0) hx hb dX10_tellMost_44 (by decide) ?_
    obtain ⟨v5, hv5, hE⟩ := Option.bind_eq_some_iff.mp hE
    refine r_iald hx hb hK hH hv5 dX10_tellMost_45 ?_
    refine lv_iconst (v := 1) hx hb dX10_tellMost_46 (by decide) ?_
    refine lv_isub hx hb dX10_tellMost_47 ?_
    refine lv_istore_n (lv' := [(2, .int (v5 - 1)), (0, .ref (b0 + a0)), (1, .int x1)]) hx hb dX10_tellMost_48 rfl hl (by decide) rfl (fun ls hl => ?_)
    exact sX10_tellMost_b49 (F := F) hC F _ _ _ _ hE _ _ _ hH hS (lv_sub hl [1, 2, 0] rfl)
  · rw [if_neg c3] at hE
    refine lv_aload_n hx hb dX10_tellMost_16 rfl (lv_at hl 0 rfl) ?_
    obtain ⟨v22, hv22, hE⟩ := Option.bind_eq_some_iff.mp hE
    refine r_gR 21 (C := RX10) (T := TX10) (N := 26) (ci := 9) hx hb hts (by decide +kernel) hown hK hH hv22 rfl (by decide) (hts (.fieldLink RX10 54 "KindStreetsModel" "most" "[I") (by decide +kernel)) (fun _ h9 => h9) dX10_tellMost_17 ?_
    refine lv_sipush (v := 512) hx hb dX10_tellMost_20 (by decide) ?_
    refine lv_aload_n hx hb dX10_tellMost_23 rfl (lv_at hl 0 rfl) ?_
    obtain ⟨v23, hv23, hE⟩ := Option.bind_eq_some_iff.mp hE
    refine r_gR 7 (C := RX10) (T := TX10) (N := 26) (ci := 9) hx hb hts (by decide +kernel) hown hK hH hv23 rfl (by decide) (hts (.fieldLink RX10 29 "KindStreetsModel" "people" "[I") (by decide +kernel)) (fun _ h9 => h9) dX10_tellMost_24 ?_
    refine lv_iconst (v := 0) hx hb dX10_tellMost_27 (by decide) ?_
    obtain ⟨v24, hv24, hE⟩ := Option.bind_eq_some_iff.mp hE
    refine r_iald hx hb hK hH hv24 dX10_tellMost_28 ?_
    refine lv_imul hx hb dX10_tellMost_29 ?_
    refine lv_iload_n hx hb dX10_tellMost_30 rfl (lv_at hl 2 rfl) ?_
    refine lv_iadd hx hb dX10_tellMost_31 ?_
    refine lv_iconst (v := 0) hx hb dX10_tellMost_32 (by decide) ?_
    obtain ⟨L25, hL25, hE⟩ := Option.bind_eq_some_iff.mp hE
    refine r_iast hx hb hK hH hS hL25 dX10_tellMost_33 (fun H locs hH hS => ?_)
    refine lv_iinc (v := (x2 + 1)) (lv' := [(2, .int (x2 + 1)), (0, .ref (b0 + a0)), (1, .int x1)]) hx hb dX10_tellMost_34 hl (k := 2) rfl rfl (by decide) rfl (fun ls hl => ?_)
    refine lv_goto (tgt := 11) hx hb dX10_tellMost_37 (by decide) ?_
    exact hk11 _ _ _ _ hE _ _ _ hH hS (lv_sub hl [1, 2, 0] rfl)
theorem sX10_tellMost_b11 {b0 : Nat} {D : va_G} {cA : Nat → ClassId} {p : Program} {l : Launch} {ev : Env} {s : State} {m : MethodId} {args : Array Value} {below : List Frame} {meth : Method} {c : Code} {F : Nat} {z : HL} (hC : Cx D cA p s m args meth c cX10_tellMost 7 RX10 wsX10_tellMost none) : ∀ (n : Nat) (a0 : Nat) (x1 : Int32) (x2 : Int32) (L : HL), fX10_tellMost_b11 F n a0 x1 x2 L = some z → WB b0 D cA p l ev (RM 2 0 0) s m args below meth c 7 0 0 (MQ below (Qk b0 D cA none z) args s 0 0 (Ab b0)) 11 [(0, .ref (b0 + a0)), (1, .int x1), (2, .int x2)] [] L := by
  intro n
  induction n with
  | zero => intro a0 x1 x2 L hE; cases hE
  | succ n ih => intro a0 x1 x2 L hE; exact sX10_tellMost_b11c (F := F) hC ih hE
def fX10_tellMost (F : Nat) (L : HL) (a0 : Nat) : Option HL := (o_ob L a0 9).bind fun _ => (o_gR L a0 9 3).bind fun v1 => (o_aI L v1 0 0).bind fun v2 => fX10_tellMost_b11 F F a0 ((1 : Int32) <<< (v2 &&& 31)) 0 L
theorem oX10_tellMost {F : Nat} {L : HL} {a0 : Nat} {z : HL} (hE : fX10_tellMost F L a0 = some z) : o_ob L a0 9 = some () := by
  obtain ⟨_, h, _⟩ := Option.bind_eq_some_iff.mp hE
  exact h
set_option maxHeartbeats 4000000 in
set_option maxRecDepth 100000 in
theorem sX10_tellMost (l : Launch) (b0 : Nat) (D : va_G) (cA : Nat → ClassId) {F : Nat} {L : HL} {a0 : Nat} {z : HL} (hE : fX10_tellMost F L a0 = some z) : Met l yX10_tellMost wsX10_tellMost (RM 2 0 0) (Pk b0 D cA [.ref (b0 + a0)] L) (Qk b0 D cA none z) 0 0 (Ab b0) := by
  refine Met.ofW (cc := cX10_tellMost) (maxL := 7) (ret := none) (by decide) rfl ?_
  intro p ev s m args below meth c s₁ B hml hv
  obtain ⟨rfl, hH, hK⟩ := hv
  have hx := B.exec
  have hb := B.bytes
  have hr := B.returns
  have hts := atoms_spec (ws := wsX10_tellMost) B.pre
  have hown : s.vm.findClass RX10 = some m.cls := findClass_of_methodNamed B.named
  have hlocks := B.notSynchronized
  have hC : Cx D cA p s m _ meth c cX10_tellMost 7 RX10 wsX10_tellMost none := ⟨hx, hb, hml, hown, hts, hK, hr, hlocks⟩
  have hS : va_S (Ab b0) s.heap s.heap [] := va_S.rf
  have hl := lv_entry ([.ref (b0 + a0)]) (n := 7) (Nat.le_of_ble_eq_true rfl)
  rw [lg_entry_eq]
  generalize (lg_sl ([.ref (b0 + a0)]) ++ List.replicate (7 - (lg_sl ([.ref (b0 + a0)])).length) Slot.unset).toArray = ls at hl ⊢
  have hl : lv_has ls 7 [(0, .ref (b0 + a0))] := hl
  unfold fX10_tellMost at hE
  obtain ⟨_, _, hE⟩ := Option.bind_eq_some_iff.mp hE
  refine lv_iconst (v := 1) hx hb dX10_tellMost_0 (by decide) ?_
  refine lv_aload_n hx hb dX10_tellMost_1 rfl (lv_at hl 0 rfl) ?_
  obtain ⟨v1, hv1, hE⟩ := Option.bind_eq_some_iff.mp hE
  refine r_gR 3 (C := RX10) (T := TX10) (N := 26) (ci := 9) hx hb hts (by decide +kernel) hown hK hH hv1 rfl (by decide) (hts (.fieldLink RX10 17 "KindStreetsModel" "streets" "[I") (by decide +kernel)) (fun _ h9 => h9) dX10_tellMost_2 ?_
  refine lv_iconst (v := 0) hx hb dX10_tellMost_5 (by decide) ?_
  obtain ⟨v2, hv2, hE⟩ := Option.bind_eq_some_iff.mp hE
  refine r_iald hx hb hK hH hv2 dX10_tellMost_6 ?_
  refine lv_ishl hx hb dX10_tellMost_7 ?_
  refine lv_istore_n (lv' := [(1, .int ((1 : Int32) <<< (v2 &&& 31))), (0, .ref (b0 + a0))]) hx hb dX10_tellMost_8 rfl hl (by decide) rfl (fun ls hl => ?_)
  refine lv_iconst (v := 0) hx hb dX10_tellMost_9 (by decide) ?_
  refine lv_istore_n (lv' := [(2, .int 0), (1, .int ((1 : Int32) <<< (v2 &&& 31))), (0, .ref (b0 + a0))]) hx hb dX10_tellMost_10 rfl hl (by decide) rfl (fun ls hl => ?_)
  exact sX10_tellMost_b11 (F := F) hC F _ _ _ _ hE _ _ _ hH hS (lv_sub hl [2, 1, 0] rfl)
-- X10_carriage
def fX10_carriage_b160 (F : Nat) (k39 : Nat → Int32 → Int32 → Int32 → Int32 → HL → Option (Int32 × HL)) (a0 : Nat) (x1 : Int32) (x3 : Int32) (x4 : Int32) (y0 : Int32) (y1 : Int32) (L : HL) : Option (Int32 × HL) := k39 a0 x1 (y1 ||| y0) x3 (x4 + 1) L
set_option maxHeartbeats 4000000 in
set_option maxRecDepth 100000 in
theorem sX10_carriage_b160 {b0 : Nat} {D : va_G} {cA : Nat → ClassId} {p : Program} {l : Launch} {ev : Env} {s : State} {m : MethodId} {args : Array Value} {below : List Frame} {meth : Method} {c : Code} {F : Nat} {z : (Int32 × HL)} {k39 : Nat → Int32 → Int32 → Int32 → Int32 → HL → Option (Int32 × HL)} {a0 : Nat} {x1 : Int32} {x3 : Int32} {x4 : Int32} {y0 : Int32} {y1 : Int32} {L : HL} (hC : Cx D cA p s m args meth c cX10_carriage 7 RX10 wsX10_carriage (some .int)) (hk39 : ∀ (a0' : Nat) (x1' : Int32) (x2' : Int32) (x3' : Int32) (x4' : Int32) (L' : HL), k39 a0' x1' x2' x3' x4' L' = some z → WB b0 D cA p l ev (RM 3 0 0) s m args below meth c 7 0 0 (MQ below (Qk b0 D cA (some (.int z.1)) z.2) args s 0 0 (Ab b0)) 39 [(0, .ref (b0 + a0')), (1, .int x1'), (2, .int x2'), (3, .int x3'), (4, .int x4')] [] L') (hE : fX10_carriage_b160 F k39 a0 x1 x3 x4 y0 y1 L = some z) : WB b0 D cA p l ev (RM 3 0 0) s m args below meth c 7 0 0 (MQ below (Qk b0 D cA (some (.int z.1)) z.2) args s 0 0 (Ab b0)) 160 [(0, .ref (b0 + a0)), (1, .int x1), (3, .int x3), (4, .int x4)] [.int y0, .int y1] L := by
  obtain ⟨hx, hb, hml, hown, hts, hK, hr, hlocks⟩ := id hC
  intro H locs ls hH hS hl
  unfold fX10_carriage_b160 at hE
  refine lv_ior hx hb dX10_carriage_160 ?_
  refine lv_istore_n (lv' := [(2, .int (y1 ||| y0)), (0, .ref (b0 + a0)), (1, .int x1), (3, .int x3), (4, .int x4)]) hx hb dX10_carriage_161 rfl hl (by decide) rfl (fun ls hl => ?_)
  refine lv_iinc (v := (x4 + 1)) (lv' := [(4, .int (x4 + 1)), (2, .int (y1 ||| y0)), (0, .ref (b0 + a0)), (1, .int x1), (3, .int x3)]) hx hb dX10_carriage_162 hl (k := 4) rfl rfl (by decide) rfl (fun ls hl => ?_)
  refine lv_goto (tgt := 39) hx hb dX10_carriage_165 (by decide) ?_
  exact hk39 _ _ _ _ _ _ hE _ _ _ hH hS (lv_sub hl [2, 3, 1, 4, 0] rfl)
def fX10_carriage_b139 (F : Nat) (k58 : Nat → Int32 → Int32 → Int32 → Int32 → Int32 → HL → Option (Int32 × HL)) (a0 : Nat) (x1 : Int32) (x2 : Int32) (x4 : Int32) (x5 : Int32) (y0 : Int32) (L : HL) : Option (Int32 × HL) := k58 a0 x1 x2 y0 x4 (x5 + (-1)) L
set_option maxHeartbeats 4000000 in
set_option maxRecDepth 100000 in
theorem sX10_carriage_b139 {b0 : Nat} {D : va_G} {cA : Nat → ClassId} {p : Program} {l : Launch} {ev : Env} {s : State} {m : MethodId} {args : Array Value} {below : List Frame} {meth : Method} {c : Code} {F : Nat} {z : (Int32 × HL)} {k58 : Nat → Int32 → Int32 → Int32 → Int32 → Int32 → HL → Option (Int32 × HL)} {a0 : Nat} {x1 : Int32} {x2 : Int32} {x4 : Int32} {x5 : Int32} {y0 : Int32} {L : HL} (hC : Cx D cA p s m args meth c cX10_carriage 7 RX10 wsX10_carriage (some .int)) (hk58 : ∀ (a0' : Nat) (x1' : Int32) (x2' : Int32) (x3' : Int32) (x4' : Int32) (x5' : Int32) (L' : HL), k58 a0' x1' x2' x3' x4' x5' L' = some z → WB b0 D cA p l ev (RM 3 0 0) s m args below meth c 7 0 0 (MQ below (Qk b0 D cA (some (.int z.1)) z.2) args s 0 0 (Ab b0)) 58 [(0, .ref (b0 + a0')), (1, .int x1'), (2, .int x2'), (3, .int x3'), (4, .int x4'), (5, .int x5')] [] L') (hE : fX10_carriage_b139 F k58 a0 x1 x2 x4 x5 y0 L = some z) : WB b0 D cA p l ev (RM 3 0 0) s m args below meth c 7 0 0 (MQ below (Qk b0 D cA (some (.int z.1)) z.2) args s 0 0 (Ab b0)) 139 [(0, .ref (b0 + a0)), (1, .int x1), (2, .int x2), (4, .int x4), (5, .int x5)] [.int y0] L := by
  obtain ⟨hx, hb, hml, hown, hts, hK, hr, hlocks⟩ := id hC
  intro H locs ls hH hS hl
  unfold fX10_carriage_b139 at hE
  refine lv_istore_n (lv' := [(3, .int y0), (0, .ref (b0 + a0)), (1, .int x1), (2, .int x2), (4, .int x4), (5, .int x5)]) hx hb dX10_carriage_139 rfl hl (by decide) rfl (fun ls hl => ?_)
  refine lv_iinc (v := (x5 + (-1))) (lv' := [(5, .int (x5 + (-1))), (3, .int y0), (0, .ref (b0 + a0)), (1, .int x1), (2, .int x2), (4, .int x4)]) hx hb dX10_carriage_140 hl (k := 5) rfl rfl (by decide) rfl (fun ls hl => ?_)
  refine lv_goto (tgt := 58) hx hb dX10_carriage_143 (by decide) ?_
  exact hk58 _ _ _ _ _ _ _ hE _ _ _ hH hS (lv_sub hl [2, 3, 4, 1, 5, 0] rfl)
def fX10_carriage_b138 (F : Nat) (k58 : Nat → Int32 → Int32 → Int32 → Int32 → Int32 → HL → Option (Int32 × HL)) (a0 : Nat) (x1 : Int32) (x2 : Int32) (x3 : Int32) (x4 : Int32) (x5 : Int32) (L : HL) : Option (Int32 × HL) := fX10_carriage_b139 F k58 a0 x1 x2 x4 x5 x3 L
set_option maxHeartbeats 4000000 in
set_option maxRecDepth 100000 in
theorem sX10_carriage_b138 {b0 : Nat} {D : va_G} {cA : Nat → ClassId} {p : Program} {l : Launch} {ev : Env} {s : State} {m : MethodId} {args : Array Value} {below : List Frame} {meth : Method} {c : Code} {F : Nat} {z : (Int32 × HL)} {k58 : Nat → Int32 → Int32 → Int32 → Int32 → Int32 → HL → Option (Int32 × HL)} {a0 : Nat} {x1 : Int32} {x2 : Int32} {x3 : Int32} {x4 : Int32} {x5 : Int32} {L : HL} (hC : Cx D cA p s m args meth c cX10_carriage 7 RX10 wsX10_carriage (some .int)) (hk58 : ∀ (a0' : Nat) (x1' : Int32) (x2' : Int32) (x3' : Int32) (x4' : Int32) (x5' : Int32) (L' : HL), k58 a0' x1' x2' x3' x4' x5' L' = some z → WB b0 D cA p l ev (RM 3 0 0) s m args below meth c 7 0 0 (MQ below (Qk b0 D cA (some (.int z.1)) z.2) args s 0 0 (Ab b0)) 58 [(0, .ref (b0 + a0')), (1, .int x1'), (2, .int x2'), (3, .int x3'), (4, .int x4'), (5, .int x5')] [] L') (hE : fX10_carriage_b138 F k58 a0 x1 x2 x3 x4 x5 L = some z) : WB b0 D cA p l ev (RM 3 0 0) s m args below meth c 7 0 0 (MQ below (Qk b0 D cA (some (.int z.1)) z.2) args s 0 0 (Ab b0)) 138 [(0, .ref (b0 + a0)), (1, .int x1), (2, .int x2), (3, .int x3), (4, .int x4), (5, .int x5)] [] L := by
  obtain ⟨hx, hb, hml, hown, hts, hK, hr, hlocks⟩ := id hC
  intro H locs ls hH hS hl
  unfold fX10_carriage_b138 at hE
  refine lv_iload_n hx hb dX10_carriage_138 rfl (lv_at hl 3 rfl) ?_
  exact sX10_carriage_b139 (F := F) hC hk58 hE _ _ _ hH hS (lv_sub hl [0, 1, 2, 4, 5] rfl)
def fX10_carriage_b88 (F : Nat) (k58 : Nat → Int32 → Int32 → Int32 → Int32 → Int32 → HL → Option (Int32 × HL)) (a0 : Nat) (x1 : Int32) (x2 : Int32) (x3 : Int32) (x4 : Int32) (x5 : Int32) (y0 : Int32) (L : HL) : Option (Int32 × HL) := if y0 = 0 then (fX10_carriage_b138 F k58 a0 x1 x2 x3 x4 x5 L) else ((o_gR L a0 9 21).bind fun v12 => (o_aI L v12 0 ((512 * (x4 + 1)) + (x2 ||| ((1 : Int32) <<< (x5 &&& 31))))).bind fun v13 => (o_gR L a0 9 21).bind fun v14 => (o_aI L v14 0 ((512 * x4) + x2)).bind fun v15 => if (1 + v13) = v15 then (fX10_carriage_b139 F k58 a0 x1 x2 x4 x5 x5 L) else (fX10_carriage_b138 F k58 a0 x1 x2 x3 x4 x5 L))
set_option maxHeartbeats 4000000 in
set_option maxRecDepth 100000 in
theorem sX10_carriage_b88 {b0 : Nat} {D : va_G} {cA : Nat → ClassId} {p : Program} {l : Launch} {ev : Env} {s : State} {m : MethodId} {args : Array Value} {below : List Frame} {meth : Method} {c : Code} {F : Nat} {z : (Int32 × HL)} {k58 : Nat → Int32 → Int32 → Int32 → Int32 → Int32 → HL → Option (Int32 × HL)} {a0 : Nat} {x1 : Int32} {x2 : Int32} {x3 : Int32} {x4 : Int32} {x5 : Int32} {y0 : Int32} {L : HL} (hC : Cx D cA p s m args meth c cX10_carriage 7 RX10 wsX10_carriage (some .int)) (hk58 : ∀ (a0' : Nat) (x1' : Int32) (x2' : Int32) (x3' : Int32) (x4' : Int32) (x5' : Int32) (L' : HL), k58 a0' x1' x2' x3' x4' x5' L' = some z → WB b0 D cA p l ev (RM 3 0 0) s m args below meth c 7 0 0 (MQ below (Qk b0 D cA (some (.int z.1)) z.2) args s 0 0 (Ab b0)) 58 [(0, .ref (b0 + a0')), (1, .int x1'), (2, .int x2'), (3, .int x3'), (4, .int x4'), (5, .int x5')] [] L') (hE : fX10_carriage_b88 F k58 a0 x1 x2 x3 x4 x5 y0 L = some z) : WB b0 D cA p l ev (RM 3 0 0) s m args below meth c 7 0 0 (MQ below (Qk b0 D cA (some (.int z.1)) z.2) args s 0 0 (Ab b0)) 88 [(0, .ref (b0 + a0)), (1, .int x1), (2, .int x2), (3, .int x3), (4, .int x4), (5, .int x5)] [.int y0] L := by
  obtain ⟨hx, hb, hml, hown, hts, hK, hr, hlocks⟩ := id hC
  intro H locs ls hH hS hl
  unfold fX10_carriage_b88 at hE
  refine lv_istore (lv' := [(6, .int y0), (0, .ref (b0 + a0)), (1, .int x1), (2, .int x2), (3, .int x3), (4, .int x4), (5, .int x5)]) hx hb dX10_carriage_88 hl (by decide) rfl (fun ls hl => ?_)
  refine lv_iload hx hb dX10_carriage_90 (lv_at hl 0 rfl) ?_
  refine lv_if_eq (tgt := 138) hx hb dX10_carriage_92 (by decide) (fun c11 => ?_) (fun c11 => ?_)
  · rw [if_pos c11] at hE
    exact sX10_carriage_b138 (F := F) hC hk58 hE _ _ _ hH hS (lv_sub hl [1, 2, 3, 4, 5, 6] rfl)
  · rw [if_neg c11] at hE
    refine lv_iconst (v := 1) hx hb dX10_carriage_95 (by decide) ?_
    refine lv_aload_n hx hb dX10_carriage_96 rfl (lv_at hl 1 rfl) ?_
    obtain ⟨v12, hv12, hE⟩ := Option.bind_eq_some_iff.mp hE
    refine r_gR 21 (C := RX10) (T := TX10) (N := 26) (ci := 9) hx hb hts (by decide +kernel) hown hK hH hv12 rfl (by decide) (hts (.fieldLink RX10 54 "KindStreetsModel" "most" "[I") (by decide +kernel)) (fun _ h9 => h9) dX10_carriage_97 ?_
    refine lv_sipush (v := 512) hx hb dX10_carriage_100 (by decide) ?_
    refine lv_iload hx hb dX10_carriage_103 (lv_at hl 5 rfl) ?_
    refine lv_iconst (v := 1) hx hb dX10_carriage_105 (by decide) ?_
    refine lv_iadd hx hb dX10_carriage_106 ?_
    refine lv_imul hx hb dX10_carriage_107 ?_
    refine lv_iload_n hx hb dX10_carriage_108 rfl (lv_at hl 3 rfl) ?_
    refine lv_iconst (v := 1) hx hb dX10_carriage_109 (by decide) ?_
    refine lv_iload hx hb dX10_carriage_110 (lv_at hl 6 rfl) ?_
    refine lv_ishl hx hb dX10_carriage_112 ?_
    refine lv_ior hx hb dX10_carriage_113 ?_
    refine lv_iadd hx hb dX10_carriage_114 ?_
    obtain ⟨v13, hv13, hE⟩ := Option.bind_eq_some_iff.mp hE
    refine r_iald hx hb hK hH hv13 dX10_carriage_115 ?_
    refine lv_iadd hx hb dX10_carriage_116 ?_
    refine lv_aload_n hx hb dX10_carriage_117 rfl (lv_at hl 1 rfl) ?_
    obtain ⟨v14, hv14, hE⟩ := Option.bind_eq_some_iff.mp hE
    refine r_gR 21 (C := RX10) (T := TX10) (N := 26) (ci := 9) hx hb hts (by decide +kernel) hown hK hH hv14 rfl (by decide) (hts (.fieldLink RX10 54 "KindStreetsModel" "most" "[I") (by decide +kernel)) (fun _ h9 => h9) dX10_carriage_118 ?_
    refine lv_sipush (v := 512) hx hb dX10_carriage_121 (by decide) ?_
    refine lv_iload hx hb dX10_carriage_124 (lv_at hl 5 rfl) ?_
    refine lv_imul hx hb dX10_carriage_126 ?_
    refine lv_iload_n hx hb dX10_carriage_127 rfl (lv_at hl 3 rfl) ?_
    refine lv_iadd hx hb dX10_carriage_128 ?_
    obtain ⟨v15, hv15, hE⟩ := Option.bind_eq_some_iff.mp hE
    refine r_iald hx hb hK hH hv15 dX10_carriage_129 ?_
    refine lv_icmp_ne (tgt := 138) hx hb dX10_carriage_130 (by decide) (fun c16 => ?_) (fun c16 => ?_)
    · rw [if_neg c16] at hE
      exact sX10_carriage_b138 (F := F) hC hk58 hE _ _ _ hH hS (lv_sub hl [1, 2, 3, 4, 5, 6] rfl)
    · rw [if_pos c16] at hE
      refine lv_iload hx hb dX10_carriage_133 (lv_at hl 6 rfl) ?_
      refine lv_goto (tgt := 139) hx hb dX10_carriage_135 (by decide) ?_
      exact sX10_carriage_b139 (F := F) hC hk58 hE _ _ _ hH hS (lv_sub hl [1, 2, 3, 5, 6] rfl)
def fX10_carriage_b87 (F : Nat) (k58 : Nat → Int32 → Int32 → Int32 → Int32 → Int32 → HL → Option (Int32 × HL)) (a0 : Nat) (x1 : Int32) (x2 : Int32) (x3 : Int32) (x4 : Int32) (x5 : Int32) (L : HL) : Option (Int32 × HL) := fX10_carriage_b88 F k58 a0 x1 x2 x3 x4 x5 0 L
set_option maxHeartbeats 4000000 in
set_option maxRecDepth 100000 in
theorem sX10_carriage_b87 {b0 : Nat} {D : va_G} {cA : Nat → ClassId} {p : Program} {l : Launch} {ev : Env} {s : State} {m : MethodId} {args : Array Value} {below : List Frame} {meth : Method} {c : Code} {F : Nat} {z : (Int32 × HL)} {k58 : Nat → Int32 → Int32 → Int32 → Int32 → Int32 → HL → Option (Int32 × HL)} {a0 : Nat} {x1 : Int32} {x2 : Int32} {x3 : Int32} {x4 : Int32} {x5 : Int32} {L : HL} (hC : Cx D cA p s m args meth c cX10_carriage 7 RX10 wsX10_carriage (some .int)) (hk58 : ∀ (a0' : Nat) (x1' : Int32) (x2' : Int32) (x3' : Int32) (x4' : Int32) (x5' : Int32) (L' : HL), k58 a0' x1' x2' x3' x4' x5' L' = some z → WB b0 D cA p l ev (RM 3 0 0) s m args below meth c 7 0 0 (MQ below (Qk b0 D cA (some (.int z.1)) z.2) args s 0 0 (Ab b0)) 58 [(0, .ref (b0 + a0')), (1, .int x1'), (2, .int x2'), (3, .int x3'), (4, .int x4'), (5, .int x5')] [] L') (hE : fX10_carriage_b87 F k58 a0 x1 x2 x3 x4 x5 L = some z) : WB b0 D cA p l ev (RM 3 0 0) s m args below meth c 7 0 0 (MQ below (Qk b0 D cA (some (.int z.1)) z.2) args s 0 0 (Ab b0)) 87 [(0, .ref (b0 + a0)), (1, .int x1), (2, .int x2), (3, .int x3), (4, .int x4), (5, .int x5)] [] L := by
  obtain ⟨hx, hb, hml, hown, hts, hK, hr, hlocks⟩ := id hC
  intro H locs ls hH hS hl
  unfold fX10_carriage_b87 at hE
  refine lv_iconst (v := 0) hx hb dX10_carriage_87 (by decide) ?_
  exact sX10_carriage_b88 (F := F) hC hk58 hE _ _ _ hH hS (lv_sub hl [0, 1, 2, 3, 4, 5] rfl)
def fX10_carriage_b58c (F : Nat) (k39 : Nat → Int32 → Int32 → Int32 → Int32 → HL → Option (Int32 × HL)) (k58 : Nat → Int32 → Int32 → Int32 → Int32 → Int32 → HL → Option (Int32 × HL)) (a0 : Nat) (x1 : Int32) (x2 : Int32) (x3 : Int32) (x4 : Int32) (x5 : Int32) (L : HL) : Option (Int32 × HL) := if x5 < 0 then (if x3 = (-9) then (fX10_carriage_b160 F k39 a0 x1 x3 x4 0 x2 L) else (fX10_carriage_b160 F k39 a0 x1 x3 x4 ((1 : Int32) <<< (x3 &&& 31)) x2 L)) else ((fX10_has F L x2 x5).bind fun z9 => if z9.1 = 0 then ((fX10_canHave F z9.2 a0 x4 x5).bind fun z17 => if z17.1 = 0 then (fX10_carriage_b87 F k58 a0 x1 x2 x3 x4 x5 z17.2) else (fX10_carriage_b88 F k58 a0 x1 x2 x3 x4 x5 1 z17.2)) else (fX10_carriage_b87 F k58 a0 x1 x2 x3 x4 x5 z9.2))
def fX10_carriage_b58 (F : Nat) (k39 : Nat → Int32 → Int32 → Int32 → Int32 → HL → Option (Int32 × HL)) : Nat → Nat → Int32 → Int32 → Int32 → Int32 → Int32 → HL → Option (Int32 × HL)
  | 0 => fun _ _ _ _ _ _ _ => none
  | n + 1 => fun a0 x1 x2 x3 x4 x5 L => fX10_carriage_b58c F k39 (fX10_carriage_b58 F k39 n) a0 x1 x2 x3 x4 x5 L
set_option maxHeartbeats 4000000 in
set_option maxRecDepth 100000 in
theorem sX10_carriage_b58c {b0 : Nat} {D : va_G} {cA : Nat → ClassId} {p : Program} {l : Launch} {ev : Env} {s : State} {m : MethodId} {args : Array Value} {below : List Frame} {meth : Method} {c : Code} {F : Nat} {z : (Int32 × HL)} {k39 : Nat → Int32 → Int32 → Int32 → Int32 → HL → Option (Int32 × HL)} {k58 : Nat → Int32 → Int32 → Int32 → Int32 → Int32 → HL → Option (Int32 × HL)} {a0 : Nat} {x1 : Int32} {x2 : Int32} {x3 : Int32} {x4 : Int32} {x5 : Int32} {L : HL} (hC : Cx D cA p s m args meth c cX10_carriage 7 RX10 wsX10_carriage (some .int)) (hk39 : ∀ (a0' : Nat) (x1' : Int32) (x2' : Int32) (x3' : Int32) (x4' : Int32) (L' : HL), k39 a0' x1' x2' x3' x4' L' = some z → WB b0 D cA p l ev (RM 3 0 0) s m args below meth c 7 0 0 (MQ below (Qk b0 D cA (some (.int z.1)) z.2) args s 0 0 (Ab b0)) 39 [(0, .ref (b0 + a0')), (1, .int x1'), (2, .int x2'), (3, .int x3'), (4, .int x4')] [] L') (hk58 : ∀ (a0' : Nat) (x1' : Int32) (x2' : Int32) (x3' : Int32) (x4' : Int32) (x5' : Int32) (L' : HL), k58 a0' x1' x2' x3' x4' x5' L' = some z → WB b0 D cA p l ev (RM 3 0 0) s m args below meth c 7 0 0 (MQ below (Qk b0 D cA (some (.int z.1)) z.2) args s 0 0 (Ab b0)) 58 [(0, .ref (b0 + a0')), (1, .int x1'), (2, .int x2'), (3, .int x3'), (4, .int x4'), (5, .int x5')] [] L') (hE : fX10_carriage_b58c F k39 k58 a0 x1 x2 x3 x4 x5 L = some z) : WB b0 D cA p l ev (RM 3 0 0) s m args below meth c 7 0 0 (MQ below (Qk b0 D cA (some (.int z.1)) z.2) args s 0 0 (Ab b0)) 58 [(0, .ref (b0 + a0)), (1, .int x1), (2, .int x2), (3, .int x3), (4, .int x4), (5, .int x5)] [] L := by
  obtain ⟨hx, hb, hml, hown, hts, hK, hr, hlocks⟩ := id hC
  intro H locs ls hH hS hl
  unfold fX10_carriage_b58c at hE
  refine lv_iload hx hb dX10_carriage_58 (lv_at hl 5 rfl) ?_
  refine lv_if_lt (tgt := 146) hx hb dX10_carriage_60 (by decide) (fun c7 => ?_) (fun c7 => ?_)
  · rw [if_pos c7] at hE
    refine lv_iload_n hx hb dX10_carriage_146 rfl (lv_at hl 2 rfl) ?_
    refine lv_iload_n hx hb dX10_carriage_147 rfl (lv_at hl 3 rfl) ?_
    refine lv_bipush (v := (-9)) hx hb dX10_carriage_148 (by decide) ?_
    refine lv_icmp_ne (tgt := 157) hx hb dX10_carriage_150 (by decide) (fun c8 => ?_) (fun c8 => ?_)
    · rw [if_neg c8] at hE
      refine lv_iconst (v := 1) hx hb dX10_carriage_157 (by decide) ?_
      refine lv_iload_n hx hb dX10_carriage_158 rfl (lv_at hl 3 rfl) ?_
      refine lv_ishl hx hb dX10_carriage_159 ?_
      exact sX10_carriage_b160 (F := F) hC hk39 hE _ _ _ hH hS (lv_sub hl [0, 1, 3, 4] rfl)
    · rw [if_pos c8] at hE
      refine lv_iconst (v := 0) hx hb dX10_carriage_153 (by decide) ?_
      refine lv_goto (tgt := 160) hx hb dX10_carriage_154 (by decide) ?_
      exact sX10_carriage_b160 (F := F) hC hk39 hE _ _ _ hH hS (lv_sub hl [0, 1, 3, 4] rfl)
  · rw [if_neg c7] at hE
    refine lv_iload_n hx hb dX10_carriage_63 rfl (lv_at hl 2 rfl) ?_
    refine lv_iload hx hb dX10_carriage_64 (lv_at hl 5 rfl) ?_
    obtain ⟨z9, hz9, hE⟩ := Option.bind_eq_some_iff.mp hE
    refine r_callI (va_runS (As := [.int x2, .int x5]) (rest := []) ⟨hx, hb, hml, hown, hts⟩ (sX10_has l b0 D cA hz9) (va_cwS 2 hts gX10_carriage_X10_has rfl rfl rfl (by decide +kernel) (rm_ok (by decide) (by decide))) (pre_S hK hH) rfl rfl hl.1 rfl (lv_room (Nat.le_of_ble_eq_true rfl)) dX10_carriage_66 ⟨Nat.zero_le _, Nat.zero_le _⟩) hS (fun H locs hH hS => ?_)
    refine lv_if_ne (tgt := 87) hx hb dX10_carriage_69 (by decide) (fun c10 => ?_) (fun c10 => ?_)
    · rw [if_neg c10] at hE
      exact sX10_carriage_b87 (F := F) hC hk58 hE _ _ _ hH hS (lv_sub hl [0, 1, 2, 3, 4, 5] rfl)
    · rw [if_pos c10] at hE
      refine lv_aload_n hx hb dX10_carriage_72 rfl (lv_at hl 0 rfl) ?_
      refine lv_iload hx hb dX10_carriage_73 (lv_at hl 4 rfl) ?_
      refine lv_iload hx hb dX10_carriage_75 (lv_at hl 5 rfl) ?_
      obtain ⟨z17, hz17, hE⟩ := Option.bind_eq_some_iff.mp hE
      refine r_callI (va_runV (As := [.int x4, .int x5]) (rest := []) ⟨hx, hb, hml, hown, hts⟩ (sX10_canHave l b0 D cA hz17) (cwV 2 hts gX10_carriage_X10_canHave rfl rfl rfl (by decide +kernel) (rm_ok (by decide) (by decide))) (pre_V (ci := 9) hK hH (oX10_canHave hz17) rfl) rfl rfl hl.1 rfl (lv_room (Nat.le_of_ble_eq_true rfl)) dX10_carriage_77 ⟨Nat.zero_le _, Nat.zero_le _⟩) hS (fun H locs hH hS => ?_)
      refine lv_if_eq (tgt := 87) hx hb dX10_carriage_80 (by decide) (fun c18 => ?_) (fun c18 => ?_)
      · rw [if_pos c18] at hE
        exact sX10_carriage_b87 (F := F) hC hk58 hE _ _ _ hH hS (lv_sub hl [0, 1, 2, 3, 4, 5] rfl)
      · rw [if_neg c18] at hE
        refine lv_iconst (v := 1) hx hb dX10_carriage_83 (by decide) ?_
        refine lv_goto (tgt := 88) hx hb dX10_carriage_84 (by decide) ?_
        exact sX10_carriage_b88 (F := F) hC hk58 hE _ _ _ hH hS (lv_sub hl [0, 1, 2, 3, 4, 5] rfl)
theorem sX10_carriage_b58 {b0 : Nat} {D : va_G} {cA : Nat → ClassId} {p : Program} {l : Launch} {ev : Env} {s : State} {m : MethodId} {args : Array Value} {below : List Frame} {meth : Method} {c : Code} {F : Nat} {z : (Int32 × HL)} {k39 : Nat → Int32 → Int32 → Int32 → Int32 → HL → Option (Int32 × HL)} (hC : Cx D cA p s m args meth c cX10_carriage 7 RX10 wsX10_carriage (some .int)) (hk39 : ∀ (a0' : Nat) (x1' : Int32) (x2' : Int32) (x3' : Int32) (x4' : Int32) (L' : HL), k39 a0' x1' x2' x3' x4' L' = some z → WB b0 D cA p l ev (RM 3 0 0) s m args below meth c 7 0 0 (MQ below (Qk b0 D cA (some (.int z.1)) z.2) args s 0 0 (Ab b0)) 39 [(0, .ref (b0 + a0')), (1, .int x1'), (2, .int x2'), (3, .int x3'), (4, .int x4')] [] L') : ∀ (n : Nat) (a0 : Nat) (x1 : Int32) (x2 : Int32) (x3 : Int32) (x4 : Int32) (x5 : Int32) (L : HL), fX10_carriage_b58 F k39 n a0 x1 x2 x3 x4 x5 L = some z → WB b0 D cA p l ev (RM 3 0 0) s m args below meth c 7 0 0 (MQ below (Qk b0 D cA (some (.int z.1)) z.2) args s 0 0 (Ab b0)) 58 [(0, .ref (b0 + a0)), (1, .int x1), (2, .int x2), (3, .int x3), (4, .int x4), (5, .int x5)] [] L := by
  intro n
  induction n with
  | zero => intro a0 x1 x2 x3 x4 x5 L hE; cases hE
  | succ n ih => intro a0 x1 x2 x3 x4 x5 L hE; exact sX10_carriage_b58c (F := F) hC hk39 ih hE
def fX10_carriage_b39c (F : Nat) (k39 : Nat → Int32 → Int32 → Int32 → Int32 → HL → Option (Int32 × HL)) (a0 : Nat) (x1 : Int32) (x2 : Int32) (x3 : Int32) (x4 : Int32) (L : HL) : Option (Int32 × HL) := if x1 < x4 then (some (x3, L)) else ((o_gR L a0 9 3).bind fun v5 => (o_aI L v5 0 0).bind fun v6 => fX10_carriage_b58 F k39 F a0 x1 x2 (-9) x4 (v6 - 1) L)
def fX10_carriage_b39 (F : Nat) : Nat → Nat → Int32 → Int32 → Int32 → Int32 → HL → Option (Int32 × HL)
  | 0 => fun _ _ _ _ _ _ => none
  | n + 1 => fun a0 x1 x2 x3 x4 L => fX10_carriage_b39c F (fX10_carriage_b39 F n) a0 x1 x2 x3 x4 L
set_option maxHeartbeats 4000000 in
set_option maxRecDepth 100000 in
theorem sX10_carriage_b39c {b0 : Nat} {D : va_G} {cA : Nat → ClassId} {p : Program} {l : Launch} {ev : Env} {s : State} {m : MethodId} {args : Array Value} {below : List Frame} {meth : Method} {c : Code} {F : Nat} {z : (Int32 × HL)} {k39 : Nat → Int32 → Int32 → Int32 → Int32 → HL → Option (Int32 × HL)} {a0 : Nat} {x1 : Int32} {x2 : Int32} {x3 : Int32} {x4 : Int32} {L : HL} (hC : Cx D cA p s m args meth c cX10_carriage 7 RX10 wsX10_carriage (some .int)) (hk39 : ∀ (a0' : Nat) (x1' : Int32) (x2' : Int32) (x3' : Int32) (x4' : Int32) (L' : HL), k39 a0' x1' x2' x3' x4' L' = some z → WB b0 D cA p l ev (RM 3 0 0) s m args below meth c 7 0 0 (MQ below (Qk b0 D cA (some (.int z.1)) z.2) args s 0 0 (Ab b0)) 39 [(0, .ref (b0 + a0')), (1, .int x1'), (2, .int x2'), (3, .int x3'), (4, .int x4')] [] L') (hE : fX10_carriage_b39c F k39 a0 x1 x2 x3 x4 L = some z) : WB b0 D cA p l ev (RM 3 0 0) s m args below meth c 7 0 0 (MQ below (Qk b0 D cA (some (.int z.1)) z.2) args s 0 0 (Ab b0)) 39 [(0, .ref (b0 + a0)), (1, .int x1), (2, .int x2), (3, .int x3), (4, .int x4)] [] L := by
  obtain ⟨hx, hb, hml, hown, hts, hK, hr, hlocks⟩ := id hC
  intro H locs ls hH hS hl
  unfold fX10_carriage_b39c at hE
  refine lv_iload hx hb dX10_carriage_39 (lv_at hl 4 rfl) ?_
  refine lv_iload_n hx hb dX10_carriage_41 rfl (lv_at hl 1 rfl) ?_
  refine lv_icmp_gt (tgt := 168) hx hb dX10_carriage_42 (by decide) (fun c4 => ?_) (fun c4 => ?_)
  · rw [if_pos c4] at hE
    refine lv_iload_n hx hb dX10_carriage_168 rfl (lv_at hl 3 rfl) ?_
    have hZ := Option.some.inj hE
    subst hZ
    exact W.iret (v := x3) hx hb hr (fun t ht hW => ⟨rfl, by rw [ht]; exact hH, hS.F ht⟩) hS.2.2 dX10_carriage_169
  · rw [if_neg c4] at hE
    refine lv_bipush (v := (-9)) hx hb dX10_carriage_45 (by decide) ?_
    refine lv_istore_n (lv' := [(3, .int (-9)), (0, .ref (b0 + a0)), (1, .int x1), (2, .int x2), (4, .int x4)]) hx hb dX10_carriage_47 rfl hl (by decide) rfl (fun ls hl => ?_)
    refine lv_aload_n hx hb dX10_carriage_48 rfl (lv_at hl 1 rfl) ?_
    obtain ⟨v5, hv5, hE⟩ := Option.bind_eq_some_iff.mp hE
    refine r_gR 3 (C := RX10) (T := TX10) (N := 26) (ci := 9) hx hb hts (by decide +kernel) hown hK hH hv5 rfl (by decide) (hts (.fieldLink RX10 17 "KindStreetsModel" "streets" "[I") (by decide +kernel)) (fun _ h9 => h9) dX10_carriage_49 ?_
    refine lv_iconst (v := 0) hx hb dX10_carriage_52 (by decide) ?_
    obtain ⟨v6, hv6, hE⟩ := Option.bind_eq_some_iff.mp hE
    refine r_iald hx hb hK hH hv6 dX10_carriage_53 ?_
    refine lv_iconst (v := 1) hx hb dX10_carriage_54 (by decide) ?_
    refine lv_isub hx hb dX10_carriage_55 ?_
    refine lv_istore (lv' := [(5, .int (v6 - 1)), (3, .int (-9)), (0, .ref (b0 + a0)), (1, .int x1), (2, .int x2), (4, .int x4)]) hx hb dX10_carriage_56 hl (by decide) rfl (fun ls hl => ?_)
    exact sX10_carriage_b58 (F := F) hC hk39 F _ _ _ _ _ _ _ hE _ _ _ hH hS (lv_sub hl [2, 3, 4, 1, 5, 0] rfl)
theorem sX10_carriage_b39 {b0 : Nat} {D : va_G} {cA : Nat → ClassId} {p : Program} {l : Launch} {ev : Env} {s : State} {m : MethodId} {args : Array Value} {below : List Frame} {meth : Method} {c : Code} {F : Nat} {z : (Int32 × HL)} (hC : Cx D cA p s m args meth c cX10_carriage 7 RX10 wsX10_carriage (some .int)) : ∀ (n : Nat) (a0 : Nat) (x1 : Int32) (x2 : Int32) (x3 : Int32) (x4 : Int32) (L : HL), fX10_carriage_b39 F n a0 x1 x2 x3 x4 L = some z → WB b0 D cA p l ev (RM 3 0 0) s m args below meth c 7 0 0 (MQ below (Qk b0 D cA (some (.int z.1)) z.2) args s 0 0 (Ab b0)) 39 [(0, .ref (b0 + a0)), (1, .int x1), (2, .int x2), (3, .int x3), (4, .int x4)] [] L := by
  intro n
  induction n with
  | zero => intro a0 x1 x2 x3 x4 L hE; cases hE
  | succ n ih => intro a0 x1 x2 x3 x4 L hE; exact sX10_carriage_b39c (F := F) hC ih hE
def fX10_carriage_b15 (F : Nat) (a0 : Nat) (x1 : Int32) (L : HL) : Option (Int32 × HL) := (fX10_tellMost F L a0).bind fun z2 => if x1 = (-1) then ((o_gR z2 a0 9 21).bind fun v19 => (o_aI z2 v19 0 0).bind fun v20 => some (v20, z2)) else (fX10_carriage_b39 F F a0 x1 0 (-9) 0 z2)
set_option maxHeartbeats 4000000 in
set_option maxRecDepth 100000 in
theorem sX10_carriage_b15 {b0 : Nat} {D : va_G} {cA : Nat → ClassId} {p : Program} {l : Launch} {ev : Env} {s : State} {m : MethodId} {args : Array Value} {below : List Frame} {meth : Method} {c : Code} {F : Nat} {z : (Int32 × HL)} {a0 : Nat} {x1 : Int32} {L : HL} (hC : Cx D cA p s m args meth c cX10_carriage 7 RX10 wsX10_carriage (some .int)) (hE : fX10_carriage_b15 F a0 x1 L = some z) : WB b0 D cA p l ev (RM 3 0 0) s m args below meth c 7 0 0 (MQ below (Qk b0 D cA (some (.int z.1)) z.2) args s 0 0 (Ab b0)) 15 [(0, .ref (b0 + a0)), (1, .int x1)] [] L := by
  obtain ⟨hx, hb, hml, hown, hts, hK, hr, hlocks⟩ := id hC
  intro H locs ls hH hS hl
  unfold fX10_carriage_b15 at hE
  refine lv_aload_n hx hb dX10_carriage_15 rfl (lv_at hl 0 rfl) ?_
  obtain ⟨z2, hz2, hE⟩ := Option.bind_eq_some_iff.mp hE
  refine r_callV (va_runV (As := []) (rest := []) ⟨hx, hb, hml, hown, hts⟩ (sX10_tellMost l b0 D cA hz2) (cwV 0 hts gX10_carriage_X10_tellMost rfl rfl rfl (by decide +kernel) (rm_ok (by decide) (by decide))) (pre_V (ci := 9) hK hH (oX10_tellMost hz2) rfl) rfl rfl hl.1 rfl (lv_room (Nat.le_of_ble_eq_true rfl)) dX10_carriage_16 ⟨Nat.zero_le _, Nat.zero_le _⟩) hS (fun H locs hH hS => ?_)
  refine lv_iload_n hx hb dX10_carriage_19 rfl (lv_at hl 1 rfl) ?_
  refine lv_iconst (v := (-1)) hx hb dX10_carriage_20 (by decide) ?_
  refine lv_icmp_ne (tgt := 31) hx hb dX10_carriage_21 (by decide) (fun c3 => ?_) (fun c3 => ?_)
  · rw [if_neg c3] at hE
    refine lv_iconst (v := 0) hx hb dX10_carriage_31 (by decide) ?_
    refine lv_istore_n (lv' := [(2, .int 0), (0, .ref (b0 + a0)), (1, .int x1)]) hx hb dX10_carriage_32 rfl hl (by decide) rfl (fun ls hl => ?_)
    refine lv_bipush (v := (-9)) hx hb dX10_carriage_33 (by decide) ?_
    refine lv_istore_n (lv' := [(3, .int (-9)), (2, .int 0), (0, .ref (b0 + a0)), (1, .int x1)]) hx hb dX10_carriage_35 rfl hl (by decide) rfl (fun ls hl => ?_)
    refine lv_iconst (v := 0) hx hb dX10_carriage_36 (by decide) ?_
    refine lv_istore (lv' := [(4, .int 0), (3, .int (-9)), (2, .int 0), (0, .ref (b0 + a0)), (1, .int x1)]) hx hb dX10_carriage_37 hl (by decide) rfl (fun ls hl => ?_)
    exact sX10_carriage_b39 (F := F) hC F _ _ _ _ _ _ hE _ _ _ hH hS (lv_sub hl [3, 4, 2, 1, 0] rfl)
  · rw [if_pos c3] at hE
    refine lv_aload_n hx hb dX10_carriage_24 rfl (lv_at hl 0 rfl) ?_
    obtain ⟨v19, hv19, hE⟩ := Option.bind_eq_some_iff.mp hE
    refine r_gR 21 (C := RX10) (T := TX10) (N := 26) (ci := 9) hx hb hts (by decide +kernel) hown hK hH hv19 rfl (by decide) (hts (.fieldLink RX10 54 "KindStreetsModel" "most" "[I") (by decide +kernel)) (fun _ h9 => h9) dX10_carriage_25 ?_
    refine lv_iconst (v := 0) hx hb dX10_carriage_28 (by decide) ?_
    obtain ⟨v20, hv20, hE⟩ := Option.bind_eq_some_iff.mp hE
    refine r_iald hx hb hK hH hv20 dX10_carriage_29 ?_
    have hZ := Option.some.inj hE
    subst hZ
    exact W.iret (v := v20) hx hb hr (fun t ht hW => ⟨rfl, by rw [ht]; exact hH, hS.F ht⟩) hS.2.2 dX10_carriage_30
def fX10_carriage (F : Nat) (L : HL) (a0 : Nat) (x1 : Int32) : Option (Int32 × HL) := (o_ob L a0 9).bind fun _ => if x1 = (-1) then (fX10_carriage_b15 F a0 x1 L) else ((fX10_isPerson F L a0 x1).bind fun z21 => if z21.1 = 0 then (some ((-1), z21.2)) else (fX10_carriage_b15 F a0 x1 z21.2))
theorem oX10_carriage {F : Nat} {L : HL} {a0 : Nat} {x1 : Int32} {z : (Int32 × HL)} (hE : fX10_carriage F L a0 x1 = some z) : o_ob L a0 9 = some () := by
  obtain ⟨_, h, _⟩ := Option.bind_eq_some_iff.mp hE
  exact h
set_option maxHeartbeats 4000000 in
set_option maxRecDepth 100000 in
theorem sX10_carriage (l : Launch) (b0 : Nat) (D : va_G) (cA : Nat → ClassId) {F : Nat} {L : HL} {a0 : Nat} {x1 : Int32} {z : (Int32 × HL)} (hE : fX10_carriage F L a0 x1 = some z) : Met l yX10_carriage wsX10_carriage (RM 3 0 0) (Pk b0 D cA [.ref (b0 + a0), .int x1] L) (Qk b0 D cA (some (.int z.1)) z.2) 0 0 (Ab b0) := by
  refine Met.ofW (cc := cX10_carriage) (maxL := 7) (ret := (some .int)) (by decide) rfl ?_
  intro p ev s m args below meth c s₁ B hml hv
  obtain ⟨rfl, hH, hK⟩ := hv
  have hx := B.exec
  have hb := B.bytes
  have hr := B.returns
  have hts := atoms_spec (ws := wsX10_carriage) B.pre
  have hown : s.vm.findClass RX10 = some m.cls := findClass_of_methodNamed B.named
  have hlocks := B.notSynchronized
  have hC : Cx D cA p s m _ meth c cX10_carriage 7 RX10 wsX10_carriage (some .int) := ⟨hx, hb, hml, hown, hts, hK, hr, hlocks⟩
  have hS : va_S (Ab b0) s.heap s.heap [] := va_S.rf
  have hl := lv_entry ([.ref (b0 + a0), .int x1]) (n := 7) (Nat.le_of_ble_eq_true rfl)
  rw [lg_entry_eq]
  generalize (lg_sl ([.ref (b0 + a0), .int x1]) ++ List.replicate (7 - (lg_sl ([.ref (b0 + a0), .int x1])).length) Slot.unset).toArray = ls at hl ⊢
  have hl : lv_has ls 7 [(0, .ref (b0 + a0)), (1, .int x1)] := hl
  unfold fX10_carriage at hE
  obtain ⟨_, _, hE⟩ := Option.bind_eq_some_iff.mp hE
  refine lv_iload_n hx hb dX10_carriage_0 rfl (lv_at hl 1 rfl) ?_
  refine lv_iconst (v := (-1)) hx hb dX10_carriage_1 (by decide) ?_
  refine lv_icmp_eq (tgt := 15) hx hb dX10_carriage_2 (by decide) (fun c1 => ?_) (fun c1 => ?_)
  · rw [if_pos c1] at hE
    exact sX10_carriage_b15 (F := F) hC hE _ _ _ hH hS (lv_sub hl [0, 1] rfl)
  · rw [if_neg c1] at hE
    refine lv_aload_n hx hb dX10_carriage_5 rfl (lv_at hl 0 rfl) ?_
    refine lv_iload_n hx hb dX10_carriage_6 rfl (lv_at hl 1 rfl) ?_
    obtain ⟨z21, hz21, hE⟩ := Option.bind_eq_some_iff.mp hE
    refine r_callI (va_runV (As := [.int x1]) (rest := []) ⟨hx, hb, hml, hown, hts⟩ (sX10_isPerson l b0 D cA hz21) (cwV 1 hts gX10_carriage_X10_isPerson rfl rfl rfl (by decide +kernel) (rm_ok (by decide) (by decide))) (pre_V (ci := 9) hK hH (oX10_isPerson hz21) rfl) rfl rfl hl.1 rfl (lv_room (Nat.le_of_ble_eq_true rfl)) dX10_carriage_7 ⟨Nat.zero_le _, Nat.zero_le _⟩) hS (fun H locs hH hS => ?_)
    refine lv_if_ne (tgt := 15) hx hb dX10_carriage_10 (by decide) (fun c22 => ?_) (fun c22 => ?_)
    · rw [if_neg c22] at hE
      exact sX10_carriage_b15 (F := F) hC hE _ _ _ hH hS (lv_sub hl [0, 1] rfl)
    · rw [if_pos c22] at hE
      refine lv_iconst (v := (-1)) hx hb dX10_carriage_13 (by decide) ?_
      have hZ := Option.some.inj hE
      subst hZ
      exact W.iret (v := (-1)) hx hb hr (fun t ht hW => ⟨rfl, by rw [ht]; exact hH, hS.F ht⟩) hS.2.2 dX10_carriage_14
-- X10_measures
def fX10_measures_b19 (F : Nat)  (L : HL) : Option (Int32 × HL) := some ((-1), L)
set_option maxHeartbeats 4000000 in
set_option maxRecDepth 100000 in
theorem sX10_measures_b19 {b0 : Nat} {D : va_G} {cA : Nat → ClassId} {p : Program} {l : Launch} {ev : Env} {s : State} {m : MethodId} {args : Array Value} {below : List Frame} {meth : Method} {c : Code} {F : Nat} {z : (Int32 × HL)}  {L : HL} (hC : Cx D cA p s m args meth c cX10_measures 3 RX10 wsX10_measures (some .int)) (hE : fX10_measures_b19 F  L = some z) : WB b0 D cA p l ev (RM 1 0 0) s m args below meth c 3 0 0 (MQ below (Qk b0 D cA (some (.int z.1)) z.2) args s 0 0 (Ab b0)) 19 [] [] L := by
  obtain ⟨hx, hb, hml, hown, hts, hK, hr, hlocks⟩ := id hC
  intro H locs ls hH hS hl
  unfold fX10_measures_b19 at hE
  refine lv_iconst (v := (-1)) hx hb dX10_measures_19 (by decide) ?_
  have hZ := Option.some.inj hE
  subst hZ
  exact W.iret (v := (-1)) hx hb hr (fun t ht hW => ⟨rfl, by rw [ht]; exact hH, hS.F ht⟩) hS.2.2 dX10_measures_20
def fX10_measures (F : Nat) (L : HL) (a0 : Nat) (x1 : Int32) (x2 : Int32) : Option (Int32 × HL) := (o_ob L a0 9).bind fun _ => (fX10_in F L x1 1 10).bind fun z1 => if z1.1 = 0 then (fX10_measures_b19 F z1.2) else ((fX10_in F z1.2 x2 0 1).bind fun z3 => if z3.1 = 0 then (fX10_measures_b19 F z3.2) else ((o_gI z3.2 a0 9 24).bind fun v5 => if v5 = 4 then (some ((-3), z3.2)) else ((o_gR z3.2 a0 9 22).bind fun v7 => (o_gI z3.2 a0 9 24).bind fun v8 => (o_sI z3.2 v7 0 v8 x1).bind fun L9 => (o_gR L9 a0 9 23).bind fun v10 => (o_gI L9 a0 9 24).bind fun v11 => (o_sI L9 v10 0 v11 x2).bind fun L12 => (o_gI L12 a0 9 24).bind fun v13 => (o_p L12 a0 9 24 (.int (v13 + 1))).bind fun L14 => (o_gI L14 a0 9 24).bind fun v15 => some (v15, L14))))
theorem oX10_measures {F : Nat} {L : HL} {a0 : Nat} {x1 : Int32} {x2 : Int32} {z : (Int32 × HL)} (hE : fX10_measures F L a0 x1 x2 = some z) : o_ob L a0 9 = some () := by
  obtain ⟨_, h, _⟩ := Option.bind_eq_some_iff.mp hE
  exact h
set_option maxHeartbeats 4000000 in
set_option maxRecDepth 100000 in
theorem sX10_measures (l : Launch) (b0 : Nat) (D : va_G) (cA : Nat → ClassId) {F : Nat} {L : HL} {a0 : Nat} {x1 : Int32} {x2 : Int32} {z : (Int32 × HL)} (hE : fX10_measures F L a0 x1 x2 = some z) : Met l yX10_measures wsX10_measures (RM 1 0 0) (Pk b0 D cA [.ref (b0 + a0), .int x1, .int x2] L) (Qk b0 D cA (some (.int z.1)) z.2) 0 0 (Ab b0) := by
  refine Met.ofW (cc := cX10_measures) (maxL := 3) (ret := (some .int)) (by decide) rfl ?_
  intro p ev s m args below meth c s₁ B hml hv
  obtain ⟨rfl, hH, hK⟩ := hv
  have hx := B.exec
  have hb := B.bytes
  have hr := B.returns
  have hts := atoms_spec (ws := wsX10_measures) B.pre
  have hown : s.vm.findClass RX10 = some m.cls := findClass_of_methodNamed B.named
  have hlocks := B.notSynchronized
  have hC : Cx D cA p s m _ meth c cX10_measures 3 RX10 wsX10_measures (some .int) := ⟨hx, hb, hml, hown, hts, hK, hr, hlocks⟩
  have hS : va_S (Ab b0) s.heap s.heap [] := va_S.rf
  have hl := lv_entry ([.ref (b0 + a0), .int x1, .int x2]) (n := 3) (Nat.le_of_ble_eq_true rfl)
  rw [lg_entry_eq]
  generalize (lg_sl ([.ref (b0 + a0), .int x1, .int x2]) ++ List.replicate (3 - (lg_sl ([.ref (b0 + a0), .int x1, .int x2])).length) Slot.unset).toArray = ls at hl ⊢
  have hl : lv_has ls 3 [(0, .ref (b0 + a0)), (1, .int x1), (2, .int x2)] := hl
  unfold fX10_measures at hE
  obtain ⟨_, _, hE⟩ := Option.bind_eq_some_iff.mp hE
  refine lv_iload_n hx hb dX10_measures_0 rfl (lv_at hl 1 rfl) ?_
  refine lv_iconst (v := 1) hx hb dX10_measures_1 (by decide) ?_
  refine lv_bipush (v := 10) hx hb dX10_measures_2 (by decide) ?_
  obtain ⟨z1, hz1, hE⟩ := Option.bind_eq_some_iff.mp hE
  refine r_callI (va_runS (As := [.int x1, .int 1, .int 10]) (rest := []) ⟨hx, hb, hml, hown, hts⟩ (sX10_in l b0 D cA hz1) (va_cwS 3 hts gX10_measures_X10_in rfl rfl rfl (by decide +kernel) (rm_ok (by decide) (by decide))) (pre_S hK hH) rfl rfl hl.1 rfl (lv_room (Nat.le_of_ble_eq_true rfl)) dX10_measures_4 ⟨Nat.zero_le _, Nat.zero_le _⟩) hS (fun H locs hH hS => ?_)
  refine lv_if_eq (tgt := 19) hx hb dX10_measures_7 (by decide) (fun c2 => ?_) (fun c2 => ?_)
  · rw [if_pos c2] at hE
    exact sX10_measures_b19 (F := F) hC hE _ _ _ hH hS (lv_sub hl [] rfl)
  · rw [if_neg c2] at hE
    refine lv_iload_n hx hb dX10_measures_10 rfl (lv_at hl 2 rfl) ?_
    refine lv_iconst (v := 0) hx hb dX10_measures_11 (by decide) ?_
    refine lv_iconst (v := 1) hx hb dX10_measures_12 (by decide) ?_
    obtain ⟨z3, hz3, hE⟩ := Option.bind_eq_some_iff.mp hE
    refine r_callI (va_runS (As := [.int x2, .int 0, .int 1]) (rest := []) ⟨hx, hb, hml, hown, hts⟩ (sX10_in l b0 D cA hz3) (va_cwS 3 hts gX10_measures_X10_in rfl rfl rfl (by decide +kernel) (rm_ok (by decide) (by decide))) (pre_S hK hH) rfl rfl hl.1 rfl (lv_room (Nat.le_of_ble_eq_true rfl)) dX10_measures_13 ⟨Nat.zero_le _, Nat.zero_le _⟩) hS (fun H locs hH hS => ?_)
    refine lv_if_ne (tgt := 21) hx hb dX10_measures_16 (by decide) (fun c4 => ?_) (fun c4 => ?_)
    · rw [if_neg c4] at hE
      refine lv_aload_n hx hb dX10_measures_21 rfl (lv_at hl 0 rfl) ?_
      obtain ⟨v5, hv5, hE⟩ := Option.bind_eq_some_iff.mp hE
      refine r_gI 24 (C := RX10) (T := TX10) (N := 26) (ci := 9) hx hb hts (by decide +kernel) hown hK hH hv5 rfl (by decide) (hts (.fieldLink RX10 116 "KindStreetsModel" "facts" "I") (by decide +kernel)) (fun _ h9 => h9) dX10_measures_22 ?_
      refine lv_iconst (v := 4) hx hb dX10_measures_25 (by decide) ?_
      refine lv_icmp_ne (tgt := 32) hx hb dX10_measures_26 (by decide) (fun c6 => ?_) (fun c6 => ?_)
      · rw [if_neg c6] at hE
        refine lv_aload_n hx hb dX10_measures_32 rfl (lv_at hl 0 rfl) ?_
        obtain ⟨v7, hv7, hE⟩ := Option.bind_eq_some_iff.mp hE
        refine r_gR 22 (C := RX10) (T := TX10) (N := 26) (ci := 9) hx hb hts (by decide +kernel) hown hK hH hv7 rfl (by decide) (hts (.fieldLink RX10 57 "KindStreetsModel" "factWidth" "[I") (by decide +kernel)) (fun _ h9 => h9) dX10_measures_33 ?_
        refine lv_aload_n hx hb dX10_measures_36 rfl (lv_at hl 0 rfl) ?_
        obtain ⟨v8, hv8, hE⟩ := Option.bind_eq_some_iff.mp hE
        refine r_gI 24 (C := RX10) (T := TX10) (N := 26) (ci := 9) hx hb hts (by decide +kernel) hown hK hH hv8 rfl (by decide) (hts (.fieldLink RX10 116 "KindStreetsModel" "facts" "I") (by decide +kernel)) (fun _ h9 => h9) dX10_measures_37 ?_
        refine lv_iload_n hx hb dX10_measures_40 rfl (lv_at hl 1 rfl) ?_
        obtain ⟨L9, hL9, hE⟩ := Option.bind_eq_some_iff.mp hE
        refine r_iast hx hb hK hH hS hL9 dX10_measures_41 (fun H locs hH hS => ?_)
        refine lv_aload_n hx hb dX10_measures_42 rfl (lv_at hl 0 rfl) ?_
        obtain ⟨v10, hv10, hE⟩ := Option.bind_eq_some_iff.mp hE
        refine r_gR 23 (C := RX10) (T := TX10) (N := 26) (ci := 9) hx hb hts (by decide +kernel) hown hK hH hv10 rfl (by decide) (hts (.fieldLink RX10 60 "KindStreetsModel" "factNight" "[I") (by decide +kernel)) (fun _ h9 => h9) dX10_measures_43 ?_
        refine lv_aload_n hx hb dX10_measures_46 rfl (lv_at hl 0 rfl) ?_
        obtain ⟨v11, hv11, hE⟩ := Option.bind_eq_some_iff.mp hE
        refine r_gI 24 (C := RX10) (T := TX10) (N := 26) (ci := 9) hx hb hts (by decide +kernel) hown hK hH hv11 rfl (by decide) (hts (.fieldLink RX10 116 "KindStreetsModel" "facts" "I") (by decide +kernel)) (fun _ h9 => h9) dX10_measures_47 ?_
        refine lv_iload_n hx hb dX10_measures_50 rfl (lv_at hl 2 rfl) ?_
        obtain ⟨L12, hL12, hE⟩ := Option.bind_eq_some_iff.mp hE
        refine r_iast hx hb hK hH hS hL12 dX10_measures_51 (fun H locs hH hS => ?_)
        refine lv_aload_n hx hb dX10_measures_52 rfl (lv_at hl 0 rfl) ?_
        refine lv_dup hx hb dX10_measures_53 rfl ?_
        obtain ⟨v13, hv13, hE⟩ := Option.bind_eq_some_iff.mp hE
        refine r_gI 24 (C := RX10) (T := TX10) (N := 26) (ci := 9) hx hb hts (by decide +kernel) hown hK hH hv13 rfl (by decide) (hts (.fieldLink RX10 116 "KindStreetsModel" "facts" "I") (by decide +kernel)) (fun _ h9 => h9) dX10_measures_54 ?_
        refine lv_iconst (v := 1) hx hb dX10_measures_57 (by decide) ?_
        refine lv_iadd hx hb dX10_measures_58 ?_
        obtain ⟨L14, hL14, hE⟩ := Option.bind_eq_some_iff.mp hE
        refine r_p 24 (v := .int (v13 + 1)) (ty := .int) (C := RX10) (T := TX10) (N := 26) (ci := 9) hx hb hts (by decide +kernel) tyX10 tyX10_ok nmX10 hown hK hH hS hL14 rfl (by decide) (hts (.fieldLink RX10 116 "KindStreetsModel" "facts" "I") (by decide +kernel)) (fun _ h9 => h9) rfl (by decide +kernel) rfl rfl dX10_measures_59 (fun H locs hH hS => ?_)
        refine lv_aload_n hx hb dX10_measures_62 rfl (lv_at hl 0 rfl) ?_
        obtain ⟨v15, hv15, hE⟩ := Option.bind_eq_some_iff.mp hE
        refine r_gI 24 (C := RX10) (T := TX10) (N := 26) (ci := 9) hx hb hts (by decide +kernel) hown hK hH hv15 rfl (by decide) (hts (.fieldLink RX10 116 "KindStreetsModel" "facts" "I") (by decide +kernel)) (fun _ h9 => h9) dX10_measures_63 ?_
        have hZ := Option.some.inj hE
        subst hZ
        exact W.iret (v := v15) hx hb hr (fun t ht hW => ⟨rfl, by rw [ht]; exact hH, hS.F ht⟩) hS.2.2 dX10_measures_66
      · rw [if_pos c6] at hE
        refine lv_bipush (v := (-3)) hx hb dX10_measures_29 (by decide) ?_
        have hZ := Option.some.inj hE
        subst hZ
        exact W.iret (v := (-3)) hx hb hr (fun t ht hW => ⟨rfl, by rw [ht]; exact hH, hS.F ht⟩) hS.2.2 dX10_measures_31
    · rw [if_pos c4] at hE
      exact sX10_measures_b19 (F := F) hC hE _ _ _ hH hS (lv_sub hl [] rfl)
-- X10_forget
def fX10_forget (F : Nat) (L : HL) (a0 : Nat) : Option (Int32 × HL) := (o_ob L a0 9).bind fun _ => (o_gI L a0 9 24).bind fun v1 => (o_p L a0 9 24 (.int 0)).bind fun L2 => some (v1, L2)
theorem oX10_forget {F : Nat} {L : HL} {a0 : Nat} {z : (Int32 × HL)} (hE : fX10_forget F L a0 = some z) : o_ob L a0 9 = some () := by
  obtain ⟨_, h, _⟩ := Option.bind_eq_some_iff.mp hE
  exact h
set_option maxHeartbeats 4000000 in
set_option maxRecDepth 100000 in
theorem sX10_forget (l : Launch) (b0 : Nat) (D : va_G) (cA : Nat → ClassId) {F : Nat} {L : HL} {a0 : Nat} {z : (Int32 × HL)} (hE : fX10_forget F L a0 = some z) : Met l yX10_forget wsX10_forget (RM 0 0 0) (Pk b0 D cA [.ref (b0 + a0)] L) (Qk b0 D cA (some (.int z.1)) z.2) 0 0 (Ab b0) := by
  refine Met.ofW (cc := cX10_forget) (maxL := 2) (ret := (some .int)) (by decide) rfl ?_
  intro p ev s m args below meth c s₁ B hml hv
  obtain ⟨rfl, hH, hK⟩ := hv
  have hx := B.exec
  have hb := B.bytes
  have hr := B.returns
  have hts := atoms_spec (ws := wsX10_forget) B.pre
  have hown : s.vm.findClass RX10 = some m.cls := findClass_of_methodNamed B.named
  have hlocks := B.notSynchronized
  have hC : Cx D cA p s m _ meth c cX10_forget 2 RX10 wsX10_forget (some .int) := ⟨hx, hb, hml, hown, hts, hK, hr, hlocks⟩
  have hS : va_S (Ab b0) s.heap s.heap [] := va_S.rf
  have hl := lv_entry ([.ref (b0 + a0)]) (n := 2) (Nat.le_of_ble_eq_true rfl)
  rw [lg_entry_eq]
  generalize (lg_sl ([.ref (b0 + a0)]) ++ List.replicate (2 - (lg_sl ([.ref (b0 + a0)])).length) Slot.unset).toArray = ls at hl ⊢
  have hl : lv_has ls 2 [(0, .ref (b0 + a0))] := hl
  unfold fX10_forget at hE
  obtain ⟨_, _, hE⟩ := Option.bind_eq_some_iff.mp hE
  refine lv_aload_n hx hb dX10_forget_0 rfl (lv_at hl 0 rfl) ?_
  obtain ⟨v1, hv1, hE⟩ := Option.bind_eq_some_iff.mp hE
  refine r_gI 24 (C := RX10) (T := TX10) (N := 26) (ci := 9) hx hb hts (by decide +kernel) hown hK hH hv1 rfl (by decide) (hts (.fieldLink RX10 116 "KindStreetsModel" "facts" "I") (by decide +kernel)) (fun _ h9 => h9) dX10_forget_1 ?_
  refine lv_istore_n (lv' := [(1, .int v1), (0, .ref (b0 + a0))]) hx hb dX10_forget_4 rfl hl (by decide) rfl (fun ls hl => ?_)
  refine lv_aload_n hx hb dX10_forget_5 rfl (lv_at hl 1 rfl) ?_
  refine lv_iconst (v := 0) hx hb dX10_forget_6 (by decide) ?_
  obtain ⟨L2, hL2, hE⟩ := Option.bind_eq_some_iff.mp hE
  refine r_p 24 (v := .int 0) (ty := .int) (C := RX10) (T := TX10) (N := 26) (ci := 9) hx hb hts (by decide +kernel) tyX10 tyX10_ok nmX10 hown hK hH hS hL2 rfl (by decide) (hts (.fieldLink RX10 116 "KindStreetsModel" "facts" "I") (by decide +kernel)) (fun _ h9 => h9) rfl (by decide +kernel) rfl rfl dX10_forget_7 (fun H locs hH hS => ?_)
  refine lv_iload_n hx hb dX10_forget_10 rfl (lv_at hl 0 rfl) ?_
  have hZ := Option.some.inj hE
  subst hZ
  exact W.iret (v := v1) hx hb hr (fun t ht hW => ⟨rfl, by rw [ht]; exact hH, hS.F ht⟩) hS.2.2 dX10_forget_11
-- X10_widthBy
def fX10_widthBy_b30 (F : Nat) (y0 : Int32) (y1 : Int32) (L : HL) : Option (Int32 × HL) := some (y1 + y0, L)
set_option maxHeartbeats 4000000 in
set_option maxRecDepth 100000 in
theorem sX10_widthBy_b30 {b0 : Nat} {D : va_G} {cA : Nat → ClassId} {p : Program} {l : Launch} {ev : Env} {s : State} {m : MethodId} {args : Array Value} {below : List Frame} {meth : Method} {c : Code} {F : Nat} {z : (Int32 × HL)} {y0 : Int32} {y1 : Int32} {L : HL} (hC : Cx D cA p s m args meth c cX10_widthBy 4 RX10 wsX10_widthBy (some .int)) (hE : fX10_widthBy_b30 F y0 y1 L = some z) : WB b0 D cA p l ev (RM 0 0 0) s m args below meth c 4 0 0 (MQ below (Qk b0 D cA (some (.int z.1)) z.2) args s 0 0 (Ab b0)) 30 [] [.int y0, .int y1] L := by
  obtain ⟨hx, hb, hml, hown, hts, hK, hr, hlocks⟩ := id hC
  intro H locs ls hH hS hl
  unfold fX10_widthBy_b30 at hE
  refine lv_iadd hx hb dX10_widthBy_30 ?_
  have hZ := Option.some.inj hE
  subst hZ
  exact W.iret (v := (y1 + y0)) hx hb hr (fun t ht hW => ⟨rfl, by rw [ht]; exact hH, hS.F ht⟩) hS.2.2 dX10_widthBy_31
def fX10_widthBy_b18 (F : Nat) (x2 : Int32) (y0 : Int32) (L : HL) : Option (Int32 × HL) := if x2 ≤ y0 then (fX10_widthBy_b30 F y0 1 L) else (fX10_widthBy_b30 F x2 1 L)
set_option maxHeartbeats 4000000 in
set_option maxRecDepth 100000 in
theorem sX10_widthBy_b18 {b0 : Nat} {D : va_G} {cA : Nat → ClassId} {p : Program} {l : Launch} {ev : Env} {s : State} {m : MethodId} {args : Array Value} {below : List Frame} {meth : Method} {c : Code} {F : Nat} {z : (Int32 × HL)} {x2 : Int32} {y0 : Int32} {L : HL} (hC : Cx D cA p s m args meth c cX10_widthBy 4 RX10 wsX10_widthBy (some .int)) (hE : fX10_widthBy_b18 F x2 y0 L = some z) : WB b0 D cA p l ev (RM 0 0 0) s m args below meth c 4 0 0 (MQ below (Qk b0 D cA (some (.int z.1)) z.2) args s 0 0 (Ab b0)) 18 [(2, .int x2)] [.int y0] L := by
  obtain ⟨hx, hb, hml, hown, hts, hK, hr, hlocks⟩ := id hC
  intro H locs ls hH hS hl
  unfold fX10_widthBy_b18 at hE
  refine lv_istore_n (lv' := [(3, .int y0), (2, .int x2)]) hx hb dX10_widthBy_18 rfl hl (by decide) rfl (fun ls hl => ?_)
  refine lv_iconst (v := 1) hx hb dX10_widthBy_19 (by decide) ?_
  refine lv_iload_n hx hb dX10_widthBy_20 rfl (lv_at hl 1 rfl) ?_
  refine lv_iload_n hx hb dX10_widthBy_21 rfl (lv_at hl 0 rfl) ?_
  refine lv_icmp_le (tgt := 29) hx hb dX10_widthBy_22 (by decide) (fun c2 => ?_) (fun c2 => ?_)
  · rw [if_pos c2] at hE
    refine lv_iload_n hx hb dX10_widthBy_29 rfl (lv_at hl 0 rfl) ?_
    exact sX10_widthBy_b30 (F := F) hC hE _ _ _ hH hS (lv_sub hl [] rfl)
  · rw [if_neg c2] at hE
    refine lv_iload_n hx hb dX10_widthBy_25 rfl (lv_at hl 1 rfl) ?_
    refine lv_goto (tgt := 30) hx hb dX10_widthBy_26 (by decide) ?_
    exact sX10_widthBy_b30 (F := F) hC hE _ _ _ hH hS (lv_sub hl [] rfl)
def fX10_widthBy (F : Nat) (L : HL) (x0 : Int32) (x1 : Int32) : Option (Int32 × HL) := if x1 = 1 then (fX10_widthBy_b18 F (x0 / 10) 0 L) else (fX10_widthBy_b18 F (x0 / 10) (x0 - x0 / 10 * 10) L)
set_option maxHeartbeats 4000000 in
set_option maxRecDepth 100000 in
theorem sX10_widthBy (l : Launch) (b0 : Nat) (D : va_G) (cA : Nat → ClassId) {F : Nat} {L : HL} {x0 : Int32} {x1 : Int32} {z : (Int32 × HL)} (hE : fX10_widthBy F L x0 x1 = some z) : Met l yX10_widthBy wsX10_widthBy (RM 0 0 0) (Pk b0 D cA [.int x0, .int x1] L) (Qk b0 D cA (some (.int z.1)) z.2) 0 0 (Ab b0) := by
  refine Met.ofW (cc := cX10_widthBy) (maxL := 4) (ret := (some .int)) (by decide) rfl ?_
  intro p ev s m args below meth c s₁ B hml hv
  obtain ⟨rfl, hH, hK⟩ := hv
  have hx := B.exec
  have hb := B.bytes
  have hr := B.returns
  have hts := atoms_spec (ws := wsX10_widthBy) B.pre
  have hown : s.vm.findClass RX10 = some m.cls := findClass_of_methodNamed B.named
  have hlocks := B.notSynchronized
  have hC : Cx D cA p s m _ meth c cX10_widthBy 4 RX10 wsX10_widthBy (some .int) := ⟨hx, hb, hml, hown, hts, hK, hr, hlocks⟩
  have hS : va_S (Ab b0) s.heap s.heap [] := va_S.rf
  have hl := lv_entry ([.int x0, .int x1]) (n := 4) (Nat.le_of_ble_eq_true rfl)
  rw [lg_entry_eq]
  generalize (lg_sl ([.int x0, .int x1]) ++ List.replicate (4 - (lg_sl ([.int x0, .int x1])).length) Slot.unset).toArray = ls at hl ⊢
  have hl : lv_has ls 4 [(0, .int x0), (1, .int x1)] := hl
  unfold fX10_widthBy at hE
  refine lv_iload_n hx hb dX10_widthBy_0 rfl (lv_at hl 0 rfl) ?_
  refine lv_bipush (v := 10) hx hb dX10_widthBy_1 (by decide) ?_
  refine lv_idiv hx hb dX10_widthBy_3 (by decide) ?_
  refine lv_istore_n (lv' := [(2, .int (x0 / 10)), (0, .int x0), (1, .int x1)]) hx hb dX10_widthBy_4 rfl hl (by decide) rfl (fun ls hl => ?_)
  refine lv_iload_n hx hb dX10_widthBy_5 rfl (lv_at hl 2 rfl) ?_
  refine lv_iconst (v := 1) hx hb dX10_widthBy_6 (by decide) ?_
  refine lv_icmp_ne (tgt := 14) hx hb dX10_widthBy_7 (by decide) (fun c1 => ?_) (fun c1 => ?_)
  · rw [if_neg c1] at hE
    refine lv_iload_n hx hb dX10_widthBy_14 rfl (lv_at hl 1 rfl) ?_
    refine lv_bipush (v := 10) hx hb dX10_widthBy_15 (by decide) ?_
    refine lv_irem hx hb dX10_widthBy_17 (by decide) ?_
    exact sX10_widthBy_b18 (F := F) hC hE _ _ _ hH hS (lv_sub hl [0] rfl)
  · rw [if_pos c1] at hE
    refine lv_iconst (v := 0) hx hb dX10_widthBy_10 (by decide) ?_
    refine lv_goto (tgt := 18) hx hb dX10_widthBy_11 (by decide) ?_
    exact sX10_widthBy_b18 (F := F) hC hE _ _ _ hH hS (lv_sub hl [0] rfl)
-- X10_isSo
def fX10_isSo_b40 (F : Nat) (k4 : Nat → Int32 → Int32 → Int32 → HL → Option (Int32 × HL)) (a0 : Nat) (x1 : Int32) (x3 : Int32) (y0 : Int32) (L : HL) : Option (Int32 × HL) := k4 a0 x1 y0 (x3 + 1) L
set_option maxHeartbeats 4000000 in
set_option maxRecDepth 100000 in
theorem sX10_isSo_b40 {b0 : Nat} {D : va_G} {cA : Nat → ClassId} {p : Program} {l : Launch} {ev : Env} {s : State} {m : MethodId} {args : Array Value} {below : List Frame} {meth : Method} {c : Code} {F : Nat} {z : (Int32 × HL)} {k4 : Nat → Int32 → Int32 → Int32 → HL → Option (Int32 × HL)} {a0 : Nat} {x1 : Int32} {x3 : Int32} {y0 : Int32} {L : HL} (hC : Cx D cA p s m args meth c cX10_isSo 4 RX10 wsX10_isSo (some .boolean)) (hk4 : ∀ (a0' : Nat) (x1' : Int32) (x2' : Int32) (x3' : Int32) (L' : HL), k4 a0' x1' x2' x3' L' = some z → WB b0 D cA p l ev (RM 1 0 0) s m args below meth c 4 0 0 (MQ below (Qk b0 D cA (some (.int z.1)) z.2) args s 0 0 (Ab b0)) 4 [(0, .ref (b0 + a0')), (1, .int x1'), (2, .int x2'), (3, .int x3')] [] L') (hE : fX10_isSo_b40 F k4 a0 x1 x3 y0 L = some z) : WB b0 D cA p l ev (RM 1 0 0) s m args below meth c 4 0 0 (MQ below (Qk b0 D cA (some (.int z.1)) z.2) args s 0 0 (Ab b0)) 40 [(0, .ref (b0 + a0)), (1, .int x1), (3, .int x3)] [.int y0] L := by
  obtain ⟨hx, hb, hml, hown, hts, hK, hr, hlocks⟩ := id hC
  intro H locs ls hH hS hl
  unfold fX10_isSo_b40 at hE
  refine lv_istore_n (lv' := [(2, .int y0), (0, .ref (b0 + a0)), (1, .int x1), (3, .int x3)]) hx hb dX10_isSo_40 rfl hl (by decide) rfl (fun ls hl => ?_)
  refine lv_iinc (v := (x3 + 1)) (lv' := [(3, .int (x3 + 1)), (2, .int y0), (0, .ref (b0 + a0)), (1, .int x1)]) hx hb dX10_isSo_41 hl (k := 3) rfl rfl (by decide) rfl (fun ls hl => ?_)
  refine lv_goto (tgt := 4) hx hb dX10_isSo_44 (by decide) ?_
  exact hk4 _ _ _ _ _ hE _ _ _ hH hS (lv_sub hl [2, 3, 1, 0] rfl)
def fX10_isSo_b39 (F : Nat) (k4 : Nat → Int32 → Int32 → Int32 → HL → Option (Int32 × HL)) (a0 : Nat) (x1 : Int32) (x3 : Int32) (L : HL) : Option (Int32 × HL) := fX10_isSo_b40 F k4 a0 x1 x3 0 L
set_option maxHeartbeats 4000000 in
set_option maxRecDepth 100000 in
theorem sX10_isSo_b39 {b0 : Nat} {D : va_G} {cA : Nat → ClassId} {p : Program} {l : Launch} {ev : Env} {s : State} {m : MethodId} {args : Array Value} {below : List Frame} {meth : Method} {c : Code} {F : Nat} {z : (Int32 × HL)} {k4 : Nat → Int32 → Int32 → Int32 → HL → Option (Int32 × HL)} {a0 : Nat} {x1 : Int32} {x3 : Int32} {L : HL} (hC : Cx D cA p s m args meth c cX10_isSo 4 RX10 wsX10_isSo (some .boolean)) (hk4 : ∀ (a0' : Nat) (x1' : Int32) (x2' : Int32) (x3' : Int32) (L' : HL), k4 a0' x1' x2' x3' L' = some z → WB b0 D cA p l ev (RM 1 0 0) s m args below meth c 4 0 0 (MQ below (Qk b0 D cA (some (.int z.1)) z.2) args s 0 0 (Ab b0)) 4 [(0, .ref (b0 + a0')), (1, .int x1'), (2, .int x2'), (3, .int x3')] [] L') (hE : fX10_isSo_b39 F k4 a0 x1 x3 L = some z) : WB b0 D cA p l ev (RM 1 0 0) s m args below meth c 4 0 0 (MQ below (Qk b0 D cA (some (.int z.1)) z.2) args s 0 0 (Ab b0)) 39 [(0, .ref (b0 + a0)), (1, .int x1), (3, .int x3)] [] L := by
  obtain ⟨hx, hb, hml, hown, hts, hK, hr, hlocks⟩ := id hC
  intro H locs ls hH hS hl
  unfold fX10_isSo_b39 at hE
  refine lv_iconst (v := 0) hx hb dX10_isSo_39 (by decide) ?_
  exact sX10_isSo_b40 (F := F) hC hk4 hE _ _ _ hH hS (lv_sub hl [0, 1, 2] rfl)
def fX10_isSo_b4c (F : Nat) (k4 : Nat → Int32 → Int32 → Int32 → HL → Option (Int32 × HL)) (a0 : Nat) (x1 : Int32) (x2 : Int32) (x3 : Int32) (L : HL) : Option (Int32 × HL) := (o_gI L a0 9 24).bind fun v1 => if v1 ≤ x3 then ((o_b x2).bind fun u3 => some (x2, L)) else (if x2 = 0 then (fX10_isSo_b39 F k4 a0 x1 x3 L) else ((o_gR L a0 9 23).bind fun v5 => (o_aI L v5 0 x3).bind fun v6 => (fX10_widthBy F L x1 v6).bind fun z7 => (o_gR z7.2 a0 9 22).bind fun v8 => (o_aI z7.2 v8 0 x3).bind fun v9 => if z7.1 = v9 then (fX10_isSo_b40 F k4 a0 x1 x3 1 z7.2) else (fX10_isSo_b39 F k4 a0 x1 x3 z7.2)))
def fX10_isSo_b4 (F : Nat) : Nat → Nat → Int32 → Int32 → Int32 → HL → Option (Int32 × HL)
  | 0 => fun _ _ _ _ _ => none
  | n + 1 => fun a0 x1 x2 x3 L => fX10_isSo_b4c F (fX10_isSo_b4 F n) a0 x1 x2 x3 L
set_option maxHeartbeats 4000000 in
set_option maxRecDepth 100000 in
theorem sX10_isSo_b4c {b0 : Nat} {D : va_G} {cA : Nat → ClassId} {p : Program} {l : Launch} {ev : Env} {s : State} {m : MethodId} {args : Array Value} {below : List Frame} {meth : Method} {c : Code} {F : Nat} {z : (Int32 × HL)} {k4 : Nat → Int32 → Int32 → Int32 → HL → Option (Int32 × HL)} {a0 : Nat} {x1 : Int32} {x2 : Int32} {x3 : Int32} {L : HL} (hC : Cx D cA p s m args meth c cX10_isSo 4 RX10 wsX10_isSo (some .boolean)) (hk4 : ∀ (a0' : Nat) (x1' : Int32) (x2' : Int32) (x3' : Int32) (L' : HL), k4 a0' x1' x2' x3' L' = some z → WB b0 D cA p l ev (RM 1 0 0) s m args below meth c 4 0 0 (MQ below (Qk b0 D cA (some (.int z.1)) z.2) args s 0 0 (Ab b0)) 4 [(0, .ref (b0 + a0')), (1, .int x1'), (2, .int x2'), (3, .int x3')] [] L') (hE : fX10_isSo_b4c F k4 a0 x1 x2 x3 L = some z) : WB b0 D cA p l ev (RM 1 0 0) s m args below meth c 4 0 0 (MQ below (Qk b0 D cA (some (.int z.1)) z.2) args s 0 0 (Ab b0)) 4 [(0, .ref (b0 + a0)), (1, .int x1), (2, .int x2), (3, .int x3)] [] L := by
  obtain ⟨hx, hb, hml, hown, hts, hK, hr, hlocks⟩ := id hC
  intro H locs ls hH hS hl
  unfold fX10_isSo_b4c at hE
  refine lv_iload_n hx hb dX10_isSo_4 rfl (lv_at hl 3 rfl) ?_
  refine lv_aload_n hx hb dX10_isSo_5 rfl (lv_at hl 0 rfl) ?_
  obtain ⟨v1, hv1, hE⟩ := Option.bind_eq_some_iff.mp hE
  refine r_gI 24 (C := RX10) (T := TX10) (N := 26) (ci := 9) hx hb hts (by decide +kernel) hown hK hH hv1 rfl (by decide) (hts (.fieldLink RX10 116 "KindStreetsModel" "facts" "I") (by decide +kernel)) (fun _ h9 => h9) dX10_isSo_6 ?_
  refine lv_icmp_ge (tgt := 47) hx hb dX10_isSo_9 (by decide) (fun c2 => ?_) (fun c2 => ?_)
  · rw [if_pos c2] at hE
    refine lv_iload_n hx hb dX10_isSo_47 rfl (lv_at hl 2 rfl) ?_
    obtain ⟨u3, hu3, hE⟩ := Option.bind_eq_some_iff.mp hE
    have hZ := Option.some.inj hE
    subst hZ
    exact W.zret (v := x2) (ty := .boolean) hx hb hr (o_b_nar hu3) (fun t ht hW => ⟨rfl, by rw [ht]; exact hH, hS.F ht⟩) hS.2.2 dX10_isSo_48
  · rw [if_neg c2] at hE
    refine lv_iload_n hx hb dX10_isSo_12 rfl (lv_at hl 2 rfl) ?_
    refine lv_if_eq (tgt := 39) hx hb dX10_isSo_13 (by decide) (fun c4 => ?_) (fun c4 => ?_)
    · rw [if_pos c4] at hE
      exact sX10_isSo_b39 (F := F) hC hk4 hE _ _ _ hH hS (lv_sub hl [0, 1, 3] rfl)
    · rw [if_neg c4] at hE
      refine lv_iload_n hx hb dX10_isSo_16 rfl (lv_at hl 1 rfl) ?_
      refine lv_aload_n hx hb dX10_isSo_17 rfl (lv_at hl 0 rfl) ?_
      obtain ⟨v5, hv5, hE⟩ := Option.bind_eq_some_iff.mp hE
      refine r_gR 23 (C := RX10) (T := TX10) (N := 26) (ci := 9) hx hb hts (by decide +kernel) hown hK hH hv5 rfl (by decide) (hts (.fieldLink RX10 60 "KindStreetsModel" "factNight" "[I") (by decide +kernel)) (fun _ h9 => h9) dX10_isSo_18 ?_
      refine lv_iload_n hx hb dX10_isSo_21 rfl (lv_at hl 3 rfl) ?_
      obtain ⟨v6, hv6, hE⟩ := Option.bind_eq_some_iff.mp hE
      refine r_iald hx hb hK hH hv6 dX10_isSo_22 ?_
      obtain ⟨z7, hz7, hE⟩ := Option.bind_eq_some_iff.mp hE
      refine r_callI (va_runS (As := [.int x1, .int v6]) (rest := []) ⟨hx, hb, hml, hown, hts⟩ (sX10_widthBy l b0 D cA hz7) (va_cwS 2 hts gX10_isSo_X10_widthBy rfl rfl rfl (by decide +kernel) (rm_ok (by decide) (by decide))) (pre_S hK hH) rfl rfl hl.1 rfl (lv_room (Nat.le_of_ble_eq_true rfl)) dX10_isSo_23 ⟨Nat.zero_le _, Nat.zero_le _⟩) hS (fun H locs hH hS => ?_)
      refine lv_aload_n hx hb dX10_isSo_26 rfl (lv_at hl 0 rfl) ?_
      obtain ⟨v8, hv8, hE⟩ := Option.bind_eq_some_iff.mp hE
      refine r_gR 22 (C := RX10) (T := TX10) (N := 26) (ci := 9) hx hb hts (by decide +kernel) hown hK hH hv8 rfl (by decide) (hts (.fieldLink RX10 57 "KindStreetsModel" "factWidth" "[I") (by decide +kernel)) (fun _ h9 => h9) dX10_isSo_27 ?_
      refine lv_iload_n hx hb dX10_isSo_30 rfl (lv_at hl 3 rfl) ?_
      obtain ⟨v9, hv9, hE⟩ := Option.bind_eq_some_iff.mp hE
      refine r_iald hx hb hK hH hv9 dX10_isSo_31 ?_
      refine lv_icmp_ne (tgt := 39) hx hb dX10_isSo_32 (by decide) (fun c10 => ?_) (fun c10 => ?_)
      · rw [if_neg c10] at hE
        exact sX10_isSo_b39 (F := F) hC hk4 hE _ _ _ hH hS (lv_sub hl [0, 1, 3] rfl)
      · rw [if_pos c10] at hE
        refine lv_iconst (v := 1) hx hb dX10_isSo_35 (by decide) ?_
        refine lv_goto (tgt := 40) hx hb dX10_isSo_36 (by decide) ?_
        exact sX10_isSo_b40 (F := F) hC hk4 hE _ _ _ hH hS (lv_sub hl [0, 1, 3] rfl)
theorem sX10_isSo_b4 {b0 : Nat} {D : va_G} {cA : Nat → ClassId} {p : Program} {l : Launch} {ev : Env} {s : State} {m : MethodId} {args : Array Value} {below : List Frame} {meth : Method} {c : Code} {F : Nat} {z : (Int32 × HL)} (hC : Cx D cA p s m args meth c cX10_isSo 4 RX10 wsX10_isSo (some .boolean)) : ∀ (n : Nat) (a0 : Nat) (x1 : Int32) (x2 : Int32) (x3 : Int32) (L : HL), fX10_isSo_b4 F n a0 x1 x2 x3 L = some z → WB b0 D cA p l ev (RM 1 0 0) s m args below meth c 4 0 0 (MQ below (Qk b0 D cA (some (.int z.1)) z.2) args s 0 0 (Ab b0)) 4 [(0, .ref (b0 + a0)), (1, .int x1), (2, .int x2), (3, .int x3)] [] L := by
  intro n
  induction n with
  | zero => intro a0 x1 x2 x3 L hE; cases hE
  | succ n ih => intro a0 x1 x2 x3 L hE; exact sX10_isSo_b4c (F := F) hC ih hE
def fX10_isSo (F : Nat) (L : HL) (a0 : Nat) (x1 : Int32) : Option (Int32 × HL) := (o_ob L a0 9).bind fun _ => fX10_isSo_b4 F F a0 x1 1 0 L
theorem oX10_isSo {F : Nat} {L : HL} {a0 : Nat} {x1 : Int32} {z : (Int32 × HL)} (hE : fX10_isSo F L a0 x1 = some z) : o_ob L a0 9 = some () := by
  obtain ⟨_, h, _⟩ := Option.bind_eq_some_iff.mp hE
  exact h
set_option maxHeartbeats 4000000 in
set_option maxRecDepth 100000 in
theorem sX10_isSo (l : Launch) (b0 : Nat) (D : va_G) (cA : Nat → ClassId) {F : Nat} {L : HL} {a0 : Nat} {x1 : Int32} {z : (Int32 × HL)} (hE : fX10_isSo F L a0 x1 = some z) : Met l yX10_isSo wsX10_isSo (RM 1 0 0) (Pk b0 D cA [.ref (b0 + a0), .int x1] L) (Qk b0 D cA (some (.int z.1)) z.2) 0 0 (Ab b0) := by
  refine Met.ofW (cc := cX10_isSo) (maxL := 4) (ret := (some .boolean)) (by decide) rfl ?_
  intro p ev s m args below meth c s₁ B hml hv
  obtain ⟨rfl, hH, hK⟩ := hv
  have hx := B.exec
  have hb := B.bytes
  have hr := B.returns
  have hts := atoms_spec (ws := wsX10_isSo) B.pre
  have hown : s.vm.findClass RX10 = some m.cls := findClass_of_methodNamed B.named
  have hlocks := B.notSynchronized
  have hC : Cx D cA p s m _ meth c cX10_isSo 4 RX10 wsX10_isSo (some .boolean) := ⟨hx, hb, hml, hown, hts, hK, hr, hlocks⟩
  have hS : va_S (Ab b0) s.heap s.heap [] := va_S.rf
  have hl := lv_entry ([.ref (b0 + a0), .int x1]) (n := 4) (Nat.le_of_ble_eq_true rfl)
  rw [lg_entry_eq]
  generalize (lg_sl ([.ref (b0 + a0), .int x1]) ++ List.replicate (4 - (lg_sl ([.ref (b0 + a0), .int x1])).length) Slot.unset).toArray = ls at hl ⊢
  have hl : lv_has ls 4 [(0, .ref (b0 + a0)), (1, .int x1)] := hl
  unfold fX10_isSo at hE
  obtain ⟨_, _, hE⟩ := Option.bind_eq_some_iff.mp hE
  refine lv_iconst (v := 1) hx hb dX10_isSo_0 (by decide) ?_
  refine lv_istore_n (lv' := [(2, .int 1), (0, .ref (b0 + a0)), (1, .int x1)]) hx hb dX10_isSo_1 rfl hl (by decide) rfl (fun ls hl => ?_)
  refine lv_iconst (v := 0) hx hb dX10_isSo_2 (by decide) ?_
  refine lv_istore_n (lv' := [(3, .int 0), (2, .int 1), (0, .ref (b0 + a0)), (1, .int x1)]) hx hb dX10_isSo_3 rfl hl (by decide) rfl (fun ls hl => ?_)
  exact sX10_isSo_b4 (F := F) hC F _ _ _ _ _ hE _ _ _ hH hS (lv_sub hl [2, 3, 1, 0] rfl)
-- X10_deeds
def fX10_deeds_b40 (F : Nat) (k20 : Nat → Int32 → Int32 → Int32 → Int32 → HL → Option (Int32 × HL)) (a0 : Nat) (x1 : Int32) (x2 : Int32) (x3 : Int32) (x4 : Int32) (L : HL) : Option (Int32 × HL) := k20 a0 x1 x2 x3 (x4 + (-1)) L
set_option maxHeartbeats 4000000 in
set_option maxRecDepth 100000 in
theorem sX10_deeds_b40 {b0 : Nat} {D : va_G} {cA : Nat → ClassId} {p : Program} {l : Launch} {ev : Env} {s : State} {m : MethodId} {args : Array Value} {below : List Frame} {meth : Method} {c : Code} {F : Nat} {z : (Int32 × HL)} {k20 : Nat → Int32 → Int32 → Int32 → Int32 → HL → Option (Int32 × HL)} {a0 : Nat} {x1 : Int32} {x2 : Int32} {x3 : Int32} {x4 : Int32} {L : HL} (hC : Cx D cA p s m args meth c cX10_deeds 5 RX10 wsX10_deeds (some .int)) (hk20 : ∀ (a0' : Nat) (x1' : Int32) (x2' : Int32) (x3' : Int32) (x4' : Int32) (L' : HL), k20 a0' x1' x2' x3' x4' L' = some z → WB b0 D cA p l ev (RM 2 0 0) s m args below meth c 5 0 0 (MQ below (Qk b0 D cA (some (.int z.1)) z.2) args s 0 0 (Ab b0)) 20 [(0, .ref (b0 + a0')), (1, .int x1'), (2, .int x2'), (3, .int x3'), (4, .int x4')] [] L') (hE : fX10_deeds_b40 F k20 a0 x1 x2 x3 x4 L = some z) : WB b0 D cA p l ev (RM 2 0 0) s m args below meth c 5 0 0 (MQ below (Qk b0 D cA (some (.int z.1)) z.2) args s 0 0 (Ab b0)) 40 [(0, .ref (b0 + a0)), (1, .int x1), (2, .int x2), (3, .int x3), (4, .int x4)] [] L := by
  obtain ⟨hx, hb, hml, hown, hts, hK, hr, hlocks⟩ := id hC
  intro H locs ls hH hS hl
  unfold fX10_deeds_b40 at hE
  refine lv_iinc (v := (x4 + (-1))) (lv' := [(4, .int (x4 + (-1))), (0, .ref (b0 + a0)), (1, .int x1), (2, .int x2), (3, .int x3)]) hx hb dX10_deeds_40 hl (k := 4) rfl rfl (by decide) rfl (fun ls hl => ?_)
  refine lv_goto (tgt := 20) hx hb dX10_deeds_43 (by decide) ?_
  exact hk20 _ _ _ _ _ _ hE _ _ _ hH hS (lv_sub hl [1, 2, 3, 4, 0] rfl)
def fX10_deeds_b20c (F : Nat) (k20 : Nat → Int32 → Int32 → Int32 → Int32 → HL → Option (Int32 × HL)) (a0 : Nat) (x1 : Int32) (x2 : Int32) (x3 : Int32) (x4 : Int32) (L : HL) : Option (Int32 × HL) := if x4 < 0 then (if x1 = 0 then (some (x2, L)) else (some (x3, L))) else ((fX10_isSo F L a0 x4).bind fun z5 => if z5.1 = 0 then (fX10_deeds_b40 F k20 a0 x1 x2 x3 x4 z5.2) else (fX10_deeds_b40 F k20 a0 x1 (x2 + 1) x4 x4 z5.2))
def fX10_deeds_b20 (F : Nat) : Nat → Nat → Int32 → Int32 → Int32 → Int32 → HL → Option (Int32 × HL)
  | 0 => fun _ _ _ _ _ _ => none
  | n + 1 => fun a0 x1 x2 x3 x4 L => fX10_deeds_b20c F (fX10_deeds_b20 F n) a0 x1 x2 x3 x4 L
set_option maxHeartbeats 4000000 in
set_option maxRecDepth 100000 in
theorem sX10_deeds_b20c {b0 : Nat} {D : va_G} {cA : Nat → ClassId} {p : Program} {l : Launch} {ev : Env} {s : State} {m : MethodId} {args : Array Value} {below : List Frame} {meth : Method} {c : Code} {F : Nat} {z : (Int32 × HL)} {k20 : Nat → Int32 → Int32 → Int32 → Int32 → HL → Option (Int32 × HL)} {a0 : Nat} {x1 : Int32} {x2 : Int32} {x3 : Int32} {x4 : Int32} {L : HL} (hC : Cx D cA p s m args meth c cX10_deeds 5 RX10 wsX10_deeds (some .int)) (hk20 : ∀ (a0' : Nat) (x1' : Int32) (x2' : Int32) (x3' : Int32) (x4' : Int32) (L' : HL), k20 a0' x1' x2' x3' x4' L' = some z → WB b0 D cA p l ev (RM 2 0 0) s m args below meth c 5 0 0 (MQ below (Qk b0 D cA (some (.int z.1)) z.2) args s 0 0 (Ab b0)) 20 [(0, .ref (b0 + a0')), (1, .int x1'), (2, .int x2'), (3, .int x3'), (4, .int x4')] [] L') (hE : fX10_deeds_b20c F k20 a0 x1 x2 x3 x4 L = some z) : WB b0 D cA p l ev (RM 2 0 0) s m args below meth c 5 0 0 (MQ below (Qk b0 D cA (some (.int z.1)) z.2) args s 0 0 (Ab b0)) 20 [(0, .ref (b0 + a0)), (1, .int x1), (2, .int x2), (3, .int x3), (4, .int x4)] [] L := by
  obtain ⟨hx, hb, hml, hown, hts, hK, hr, hlocks⟩ := id hC
  intro H locs ls hH hS hl
  unfold fX10_deeds_b20c at hE
  refine lv_iload hx hb dX10_deeds_20 (lv_at hl 4 rfl) ?_
  refine lv_if_lt (tgt := 46) hx hb dX10_deeds_22 (by decide) (fun c3 => ?_) (fun c3 => ?_)
  · rw [if_pos c3] at hE
    refine lv_iload_n hx hb dX10_deeds_46 rfl (lv_at hl 1 rfl) ?_
    refine lv_if_ne (tgt := 54) hx hb dX10_deeds_47 (by decide) (fun c4 => ?_) (fun c4 => ?_)
    · rw [if_neg c4] at hE
      refine lv_iload_n hx hb dX10_deeds_54 rfl (lv_at hl 3 rfl) ?_
      have hZ := Option.some.inj hE
      subst hZ
      exact W.iret (v := x3) hx hb hr (fun t ht hW => ⟨rfl, by rw [ht]; exact hH, hS.F ht⟩) hS.2.2 dX10_deeds_55
    · rw [if_pos c4] at hE
      refine lv_iload_n hx hb dX10_deeds_50 rfl (lv_at hl 2 rfl) ?_
      refine lv_goto (tgt := 55) hx hb dX10_deeds_51 (by decide) ?_
      have hZ := Option.some.inj hE
      subst hZ
      exact W.iret (v := x2) hx hb hr (fun t ht hW => ⟨rfl, by rw [ht]; exact hH, hS.F ht⟩) hS.2.2 dX10_deeds_55
  · rw [if_neg c3] at hE
    refine lv_aload_n hx hb dX10_deeds_25 rfl (lv_at hl 0 rfl) ?_
    refine lv_iload hx hb dX10_deeds_26 (lv_at hl 4 rfl) ?_
    obtain ⟨z5, hz5, hE⟩ := Option.bind_eq_some_iff.mp hE
    refine r_callI (va_runV (As := [.int x4]) (rest := []) ⟨hx, hb, hml, hown, hts⟩ (sX10_isSo l b0 D cA hz5) (cwV 1 hts gX10_deeds_X10_isSo rfl rfl rfl (by decide +kernel) (rm_ok (by decide) (by decide))) (pre_V (ci := 9) hK hH (oX10_isSo hz5) rfl) rfl rfl hl.1 rfl (lv_room (Nat.le_of_ble_eq_true rfl)) dX10_deeds_28 ⟨Nat.zero_le _, Nat.zero_le _⟩) hS (fun H locs hH hS => ?_)
    refine lv_if_eq (tgt := 40) hx hb dX10_deeds_31 (by decide) (fun c6 => ?_) (fun c6 => ?_)
    · rw [if_pos c6] at hE
      exact sX10_deeds_b40 (F := F) hC hk20 hE _ _ _ hH hS (lv_sub hl [0, 1, 2, 3, 4] rfl)
    · rw [if_neg c6] at hE
      refine lv_iinc (v := (x2 + 1)) (lv' := [(2, .int (x2 + 1)), (0, .ref (b0 + a0)), (1, .int x1), (3, .int x3), (4, .int x4)]) hx hb dX10_deeds_34 hl (k := 2) rfl rfl (by decide) rfl (fun ls hl => ?_)
      refine lv_iload hx hb dX10_deeds_37 (lv_at hl 4 rfl) ?_
      refine lv_istore_n (lv' := [(3, .int x4), (2, .int (x2 + 1)), (0, .ref (b0 + a0)), (1, .int x1), (4, .int x4)]) hx hb dX10_deeds_39 rfl hl (by decide) rfl (fun ls hl => ?_)
      exact sX10_deeds_b40 (F := F) hC hk20 hE _ _ _ hH hS (lv_sub hl [2, 3, 1, 0, 4] rfl)
theorem sX10_deeds_b20 {b0 : Nat} {D : va_G} {cA : Nat → ClassId} {p : Program} {l : Launch} {ev : Env} {s : State} {m : MethodId} {args : Array Value} {below : List Frame} {meth : Method} {c : Code} {F : Nat} {z : (Int32 × HL)} (hC : Cx D cA p s m args meth c cX10_deeds 5 RX10 wsX10_deeds (some .int)) : ∀ (n : Nat) (a0 : Nat) (x1 : Int32) (x2 : Int32) (x3 : Int32) (x4 : Int32) (L : HL), fX10_deeds_b20 F n a0 x1 x2 x3 x4 L = some z → WB b0 D cA p l ev (RM 2 0 0) s m args below meth c 5 0 0 (MQ below (Qk b0 D cA (some (.int z.1)) z.2) args s 0 0 (Ab b0)) 20 [(0, .ref (b0 + a0)), (1, .int x1), (2, .int x2), (3, .int x3), (4, .int x4)] [] L := by
  intro n
  induction n with
  | zero => intro a0 x1 x2 x3 x4 L hE; cases hE
  | succ n ih => intro a0 x1 x2 x3 x4 L hE; exact sX10_deeds_b20c (F := F) hC ih hE
def fX10_deeds (F : Nat) (L : HL) (a0 : Nat) (x1 : Int32) : Option (Int32 × HL) := (o_ob L a0 9).bind fun _ => (fX10_in F L x1 0 1).bind fun z1 => if z1.1 = 0 then (some ((-1), z1.2)) else (fX10_deeds_b20 F F a0 x1 0 (-9) 99 z1.2)
theorem oX10_deeds {F : Nat} {L : HL} {a0 : Nat} {x1 : Int32} {z : (Int32 × HL)} (hE : fX10_deeds F L a0 x1 = some z) : o_ob L a0 9 = some () := by
  obtain ⟨_, h, _⟩ := Option.bind_eq_some_iff.mp hE
  exact h
set_option maxHeartbeats 4000000 in
set_option maxRecDepth 100000 in
theorem sX10_deeds (l : Launch) (b0 : Nat) (D : va_G) (cA : Nat → ClassId) {F : Nat} {L : HL} {a0 : Nat} {x1 : Int32} {z : (Int32 × HL)} (hE : fX10_deeds F L a0 x1 = some z) : Met l yX10_deeds wsX10_deeds (RM 2 0 0) (Pk b0 D cA [.ref (b0 + a0), .int x1] L) (Qk b0 D cA (some (.int z.1)) z.2) 0 0 (Ab b0) := by
  refine Met.ofW (cc := cX10_deeds) (maxL := 5) (ret := (some .int)) (by decide) rfl ?_
  intro p ev s m args below meth c s₁ B hml hv
  obtain ⟨rfl, hH, hK⟩ := hv
  have hx := B.exec
  have hb := B.bytes
  have hr := B.returns
  have hts := atoms_spec (ws := wsX10_deeds) B.pre
  have hown : s.vm.findClass RX10 = some m.cls := findClass_of_methodNamed B.named
  have hlocks := B.notSynchronized
  have hC : Cx D cA p s m _ meth c cX10_deeds 5 RX10 wsX10_deeds (some .int) := ⟨hx, hb, hml, hown, hts, hK, hr, hlocks⟩
  have hS : va_S (Ab b0) s.heap s.heap [] := va_S.rf
  have hl := lv_entry ([.ref (b0 + a0), .int x1]) (n := 5) (Nat.le_of_ble_eq_true rfl)
  rw [lg_entry_eq]
  generalize (lg_sl ([.ref (b0 + a0), .int x1]) ++ List.replicate (5 - (lg_sl ([.ref (b0 + a0), .int x1])).length) Slot.unset).toArray = ls at hl ⊢
  have hl : lv_has ls 5 [(0, .ref (b0 + a0)), (1, .int x1)] := hl
  unfold fX10_deeds at hE
  obtain ⟨_, _, hE⟩ := Option.bind_eq_some_iff.mp hE
  refine lv_iload_n hx hb dX10_deeds_0 rfl (lv_at hl 1 rfl) ?_
  refine lv_iconst (v := 0) hx hb dX10_deeds_1 (by decide) ?_
  refine lv_iconst (v := 1) hx hb dX10_deeds_2 (by decide) ?_
  obtain ⟨z1, hz1, hE⟩ := Option.bind_eq_some_iff.mp hE
  refine r_callI (va_runS (As := [.int x1, .int 0, .int 1]) (rest := []) ⟨hx, hb, hml, hown, hts⟩ (sX10_in l b0 D cA hz1) (va_cwS 3 hts gX10_deeds_X10_in rfl rfl rfl (by decide +kernel) (rm_ok (by decide) (by decide))) (pre_S hK hH) rfl rfl hl.1 rfl (lv_room (Nat.le_of_ble_eq_true rfl)) dX10_deeds_3 ⟨Nat.zero_le _, Nat.zero_le _⟩) hS (fun H locs hH hS => ?_)
  refine lv_if_ne (tgt := 11) hx hb dX10_deeds_6 (by decide) (fun c2 => ?_) (fun c2 => ?_)
  · rw [if_neg c2] at hE
    refine lv_iconst (v := 0) hx hb dX10_deeds_11 (by decide) ?_
    refine lv_istore_n (lv' := [(2, .int 0), (0, .ref (b0 + a0)), (1, .int x1)]) hx hb dX10_deeds_12 rfl hl (by decide) rfl (fun ls hl => ?_)
    refine lv_bipush (v := (-9)) hx hb dX10_deeds_13 (by decide) ?_
    refine lv_istore_n (lv' := [(3, .int (-9)), (2, .int 0), (0, .ref (b0 + a0)), (1, .int x1)]) hx hb dX10_deeds_15 rfl hl (by decide) rfl (fun ls hl => ?_)
    refine lv_bipush (v := 99) hx hb dX10_deeds_16 (by decide) ?_
    refine lv_istore (lv' := [(4, .int 99), (3, .int (-9)), (2, .int 0), (0, .ref (b0 + a0)), (1, .int x1)]) hx hb dX10_deeds_18 hl (by decide) rfl (fun ls hl => ?_)
    exact sX10_deeds_b20 (F := F) hC F _ _ _ _ _ _ hE _ _ _ hH hS (lv_sub hl [3, 4, 2, 1, 0] rfl)
  · rw [if_pos c2] at hE
    refine lv_iconst (v := (-1)) hx hb dX10_deeds_9 (by decide) ?_
    have hZ := Option.some.inj hE
    subst hZ
    exact W.iret (v := (-1)) hx hb hr (fun t ht hW => ⟨rfl, by rw [ht]; exact hH, hS.F ht⟩) hS.2.2 dX10_deeds_10
-- X10_greatest
def fX10_greatest_b70 (F : Nat) (k4 : Nat → Int32 → Int32 → Int32 → HL → Option (Int32 × HL)) (a0 : Nat) (x1 : Int32) (x3 : Int32) (y0 : Int32) (L : HL) : Option (Int32 × HL) := k4 a0 x1 y0 (x3 + 1) L
set_option maxHeartbeats 4000000 in
set_option maxRecDepth 100000 in
theorem sX10_greatest_b70 {b0 : Nat} {D : va_G} {cA : Nat → ClassId} {p : Program} {l : Launch} {ev : Env} {s : State} {m : MethodId} {args : Array Value} {below : List Frame} {meth : Method} {c : Code} {F : Nat} {z : (Int32 × HL)} {k4 : Nat → Int32 → Int32 → Int32 → HL → Option (Int32 × HL)} {a0 : Nat} {x1 : Int32} {x3 : Int32} {y0 : Int32} {L : HL} (hC : Cx D cA p s m args meth c cX10_greatest 6 RX10 wsX10_greatest (some .int)) (hk4 : ∀ (a0' : Nat) (x1' : Int32) (x2' : Int32) (x3' : Int32) (L' : HL), k4 a0' x1' x2' x3' L' = some z → WB b0 D cA p l ev (RM 2 0 0) s m args below meth c 6 0 0 (MQ below (Qk b0 D cA (some (.int z.1)) z.2) args s 0 0 (Ab b0)) 4 [(0, .ref (b0 + a0')), (1, .int x1'), (2, .int x2'), (3, .int x3')] [] L') (hE : fX10_greatest_b70 F k4 a0 x1 x3 y0 L = some z) : WB b0 D cA p l ev (RM 2 0 0) s m args below meth c 6 0 0 (MQ below (Qk b0 D cA (some (.int z.1)) z.2) args s 0 0 (Ab b0)) 70 [(0, .ref (b0 + a0)), (1, .int x1), (3, .int x3)] [.int y0] L := by
  obtain ⟨hx, hb, hml, hown, hts, hK, hr, hlocks⟩ := id hC
  intro H locs ls hH hS hl
  unfold fX10_greatest_b70 at hE
  refine lv_istore_n (lv' := [(2, .int y0), (0, .ref (b0 + a0)), (1, .int x1), (3, .int x3)]) hx hb dX10_greatest_70 rfl hl (by decide) rfl (fun ls hl => ?_)
  refine lv_iinc (v := (x3 + 1)) (lv' := [(3, .int (x3 + 1)), (2, .int y0), (0, .ref (b0 + a0)), (1, .int x1)]) hx hb dX10_greatest_71 hl (k := 3) rfl rfl (by decide) rfl (fun ls hl => ?_)
  refine lv_goto (tgt := 4) hx hb dX10_greatest_74 (by decide) ?_
  exact hk4 _ _ _ _ _ hE _ _ _ hH hS (lv_sub hl [2, 3, 1, 0] rfl)
def fX10_greatest_b49 (F : Nat) (k16 : Nat → Int32 → Int32 → Int32 → Int32 → Int32 → HL → Option (Int32 × HL)) (a0 : Nat) (x1 : Int32) (x2 : Int32) (x3 : Int32) (x5 : Int32) (y0 : Int32) (y1 : Int32) (L : HL) : Option (Int32 × HL) := k16 a0 x1 x2 x3 (y1 + y0) (x5 + 1) L
set_option maxHeartbeats 4000000 in
set_option maxRecDepth 100000 in
theorem sX10_greatest_b49 {b0 : Nat} {D : va_G} {cA : Nat → ClassId} {p : Program} {l : Launch} {ev : Env} {s : State} {m : MethodId} {args : Array Value} {below : List Frame} {meth : Method} {c : Code} {F : Nat} {z : (Int32 × HL)} {k16 : Nat → Int32 → Int32 → Int32 → Int32 → Int32 → HL → Option (Int32 × HL)} {a0 : Nat} {x1 : Int32} {x2 : Int32} {x3 : Int32} {x5 : Int32} {y0 : Int32} {y1 : Int32} {L : HL} (hC : Cx D cA p s m args meth c cX10_greatest 6 RX10 wsX10_greatest (some .int)) (hk16 : ∀ (a0' : Nat) (x1' : Int32) (x2' : Int32) (x3' : Int32) (x4' : Int32) (x5' : Int32) (L' : HL), k16 a0' x1' x2' x3' x4' x5' L' = some z → WB b0 D cA p l ev (RM 2 0 0) s m args below meth c 6 0 0 (MQ below (Qk b0 D cA (some (.int z.1)) z.2) args s 0 0 (Ab b0)) 16 [(0, .ref (b0 + a0')), (1, .int x1'), (2, .int x2'), (3, .int x3'), (4, .int x4'), (5, .int x5')] [] L') (hE : fX10_greatest_b49 F k16 a0 x1 x2 x3 x5 y0 y1 L = some z) : WB b0 D cA p l ev (RM 2 0 0) s m args below meth c 6 0 0 (MQ below (Qk b0 D cA (some (.int z.1)) z.2) args s 0 0 (Ab b0)) 49 [(0, .ref (b0 + a0)), (1, .int x1), (2, .int x2), (3, .int x3), (5, .int x5)] [.int y0, .int y1] L := by
  obtain ⟨hx, hb, hml, hown, hts, hK, hr, hlocks⟩ := id hC
  intro H locs ls hH hS hl
  unfold fX10_greatest_b49 at hE
  refine lv_iadd hx hb dX10_greatest_49 ?_
  refine lv_istore (lv' := [(4, .int (y1 + y0)), (0, .ref (b0 + a0)), (1, .int x1), (2, .int x2), (3, .int x3), (5, .int x5)]) hx hb dX10_greatest_50 hl (by decide) rfl (fun ls hl => ?_)
  refine lv_iinc (v := (x5 + 1)) (lv' := [(5, .int (x5 + 1)), (4, .int (y1 + y0)), (0, .ref (b0 + a0)), (1, .int x1), (2, .int x2), (3, .int x3)]) hx hb dX10_greatest_52 hl (k := 5) rfl rfl (by decide) rfl (fun ls hl => ?_)
  refine lv_goto (tgt := 16) hx hb dX10_greatest_55 (by decide) ?_
  exact hk16 _ _ _ _ _ _ _ hE _ _ _ hH hS (lv_sub hl [2, 3, 4, 5, 1, 0] rfl)
def fX10_greatest_b48 (F : Nat) (k16 : Nat → Int32 → Int32 → Int32 → Int32 → Int32 → HL → Option (Int32 × HL)) (a0 : Nat) (x1 : Int32) (x2 : Int32) (x3 : Int32) (x5 : Int32) (y0 : Int32) (L : HL) : Option (Int32 × HL) := fX10_greatest_b49 F k16 a0 x1 x2 x3 x5 0 y0 L
set_option maxHeartbeats 4000000 in
set_option maxRecDepth 100000 in
theorem sX10_greatest_b48 {b0 : Nat} {D : va_G} {cA : Nat → ClassId} {p : Program} {l : Launch} {ev : Env} {s : State} {m : MethodId} {args : Array Value} {below : List Frame} {meth : Method} {c : Code} {F : Nat} {z : (Int32 × HL)} {k16 : Nat → Int32 → Int32 → Int32 → Int32 → Int32 → HL → Option (Int32 × HL)} {a0 : Nat} {x1 : Int32} {x2 : Int32} {x3 : Int32} {x5 : Int32} {y0 : Int32} {L : HL} (hC : Cx D cA p s m args meth c cX10_greatest 6 RX10 wsX10_greatest (some .int)) (hk16 : ∀ (a0' : Nat) (x1' : Int32) (x2' : Int32) (x3' : Int32) (x4' : Int32) (x5' : Int32) (L' : HL), k16 a0' x1' x2' x3' x4' x5' L' = some z → WB b0 D cA p l ev (RM 2 0 0) s m args below meth c 6 0 0 (MQ below (Qk b0 D cA (some (.int z.1)) z.2) args s 0 0 (Ab b0)) 16 [(0, .ref (b0 + a0')), (1, .int x1'), (2, .int x2'), (3, .int x3'), (4, .int x4'), (5, .int x5')] [] L') (hE : fX10_greatest_b48 F k16 a0 x1 x2 x3 x5 y0 L = some z) : WB b0 D cA p l ev (RM 2 0 0) s m args below meth c 6 0 0 (MQ below (Qk b0 D cA (some (.int z.1)) z.2) args s 0 0 (Ab b0)) 48 [(0, .ref (b0 + a0)), (1, .int x1), (2, .int x2), (3, .int x3), (5, .int x5)] [.int y0] L := by
  obtain ⟨hx, hb, hml, hown, hts, hK, hr, hlocks⟩ := id hC
  intro H locs ls hH hS hl
  unfold fX10_greatest_b48 at hE
  refine lv_iconst (v := 0) hx hb dX10_greatest_48 (by decide) ?_
  exact sX10_greatest_b49 (F := F) hC hk16 hE _ _ _ hH hS (lv_sub hl [0, 1, 2, 3, 4] rfl)
def fX10_greatest_b16c (F : Nat) (k4 : Nat → Int32 → Int32 → Int32 → HL → Option (Int32 × HL)) (k16 : Nat → Int32 → Int32 → Int32 → Int32 → Int32 → HL → Option (Int32 × HL)) (a0 : Nat) (x1 : Int32) (x2 : Int32) (x3 : Int32) (x4 : Int32) (x5 : Int32) (L : HL) : Option (Int32 × HL) := if 100 ≤ x5 then (if x4 ≤ x2 then (fX10_greatest_b70 F k4 a0 x1 x3 x2 L) else (fX10_greatest_b70 F k4 a0 x1 x3 x4 L)) else ((fX10_isSo F L a0 x5).bind fun z4 => if z4.1 = 0 then (fX10_greatest_b48 F k16 a0 x1 x2 x3 x5 x4 z4.2) else ((fX10_widthBy F z4.2 x5 x1).bind fun z6 => if z6.1 = x3 then (fX10_greatest_b49 F k16 a0 x1 x2 x3 x5 1 x4 z6.2) else (fX10_greatest_b48 F k16 a0 x1 x2 x3 x5 x4 z6.2)))
def fX10_greatest_b16 (F : Nat) (k4 : Nat → Int32 → Int32 → Int32 → HL → Option (Int32 × HL)) : Nat → Nat → Int32 → Int32 → Int32 → Int32 → Int32 → HL → Option (Int32 × HL)
  | 0 => fun _ _ _ _ _ _ _ => none
  | n + 1 => fun a0 x1 x2 x3 x4 x5 L => fX10_greatest_b16c F k4 (fX10_greatest_b16 F k4 n) a0 x1 x2 x3 x4 x5 L
set_option maxHeartbeats 4000000 in
set_option maxRecDepth 100000 in
theorem sX10_greatest_b16c {b0 : Nat} {D : va_G} {cA : Nat → ClassId} {p : Program} {l : Launch} {ev : Env} {s : State} {m : MethodId} {args : Array Value} {below : List Frame} {meth : Method} {c : Code} {F : Nat} {z : (Int32 × HL)} {k4 : Nat → Int32 → Int32 → Int32 → HL → Option (Int32 × HL)} {k16 : Nat → Int32 → Int32 → Int32 → Int32 → Int32 → HL → Option (Int32 × HL)} {a0 : Nat} {x1 : Int32} {x2 : Int32} {x3 : Int32} {x4 : Int32} {x5 : Int32} {L : HL} (hC : Cx D cA p s m args meth c cX10_greatest 6 RX10 wsX10_greatest (some .int)) (hk4 : ∀ (a0' : Nat) (x1' : Int32) (x2' : Int32) (x3' : Int32) (L' : HL), k4 a0' x1' x2' x3' L' = some z → WB b0 D cA p l ev (RM 2 0 0) s m args below meth c 6 0 0 (MQ below (Qk b0 D cA (some (.int z.1)) z.2) args s 0 0 (Ab b0)) 4 [(0, .ref (b0 + a0')), (1, .int x1'), (2, .int x2'), (3, .int x3')] [] L') (hk16 : ∀ (a0' : Nat) (x1' : Int32) (x2' : Int32) (x3' : Int32) (x4' : Int32) (x5' : Int32) (L' : HL), k16 a0' x1' x2' x3' x4' x5' L' = some z → WB b0 D cA p l ev (RM 2 0 0) s m args below meth c 6 0 0 (MQ below (Qk b0 D cA (some (.int z.1)) z.2) args s 0 0 (Ab b0)) 16 [(0, .ref (b0 + a0')), (1, .int x1'), (2, .int x2'), (3, .int x3'), (4, .int x4'), (5, .int x5')] [] L') (hE : fX10_greatest_b16c F k4 k16 a0 x1 x2 x3 x4 x5 L = some z) : WB b0 D cA p l ev (RM 2 0 0) s m args below meth c 6 0 0 (MQ below (Qk b0 D cA (some (.int z.1)) z.2) args s 0 0 (Ab b0)) 16 [(0, .ref (b0 + a0)), (1, .int x1), (2, .int x2), (3, .int x3), (4, .int x4), (5, .int x5)] [] L := by
  obtain ⟨hx, hb, hml, hown, hts, hK, hr, hlocks⟩ := id hC
  intro H locs ls hH hS hl
  unfold fX10_greatest_b16c at hE
  refine lv_iload hx hb dX10_greatest_16 (lv_at hl 5 rfl) ?_
  refine lv_bipush (v := 100) hx hb dX10_greatest_18 (by decide) ?_
  refine lv_icmp_ge (tgt := 58) hx hb dX10_greatest_20 (by decide) (fun c2 => ?_) (fun c2 => ?_)
  · rw [if_pos c2] at hE
    refine lv_iload hx hb dX10_greatest_58 (lv_at hl 4 rfl) ?_
    refine lv_iload_n hx hb dX10_greatest_60 rfl (lv_at hl 2 rfl) ?_
    refine lv_icmp_le (tgt := 69) hx hb dX10_greatest_61 (by decide) (fun c3 => ?_) (fun c3 => ?_)
    · rw [if_pos c3] at hE
      refine lv_iload_n hx hb dX10_greatest_69 rfl (lv_at hl 2 rfl) ?_
      exact sX10_greatest_b70 (F := F) hC hk4 hE _ _ _ hH hS (lv_sub hl [0, 1, 3] rfl)
    · rw [if_neg c3] at hE
      refine lv_iload hx hb dX10_greatest_64 (lv_at hl 4 rfl) ?_
      refine lv_goto (tgt := 70) hx hb dX10_greatest_66 (by decide) ?_
      exact sX10_greatest_b70 (F := F) hC hk4 hE _ _ _ hH hS (lv_sub hl [0, 1, 3] rfl)
  · rw [if_neg c2] at hE
    refine lv_iload hx hb dX10_greatest_23 (lv_at hl 4 rfl) ?_
    refine lv_aload_n hx hb dX10_greatest_25 rfl (lv_at hl 0 rfl) ?_
    refine lv_iload hx hb dX10_greatest_26 (lv_at hl 5 rfl) ?_
    obtain ⟨z4, hz4, hE⟩ := Option.bind_eq_some_iff.mp hE
    refine r_callI (va_runV (As := [.int x5]) (rest := [.int x4]) ⟨hx, hb, hml, hown, hts⟩ (sX10_isSo l b0 D cA hz4) (cwV 1 hts gX10_greatest_X10_isSo rfl rfl rfl (by decide +kernel) (rm_ok (by decide) (by decide))) (pre_V (ci := 9) hK hH (oX10_isSo hz4) rfl) rfl rfl hl.1 rfl (lv_room (Nat.le_of_ble_eq_true rfl)) dX10_greatest_28 ⟨Nat.zero_le _, Nat.zero_le _⟩) hS (fun H locs hH hS => ?_)
    refine lv_if_eq (tgt := 48) hx hb dX10_greatest_31 (by decide) (fun c5 => ?_) (fun c5 => ?_)
    · rw [if_pos c5] at hE
      exact sX10_greatest_b48 (F := F) hC hk16 hE _ _ _ hH hS (lv_sub hl [0, 1, 2, 3, 5] rfl)
    · rw [if_neg c5] at hE
      refine lv_iload hx hb dX10_greatest_34 (lv_at hl 5 rfl) ?_
      refine lv_iload_n hx hb dX10_greatest_36 rfl (lv_at hl 1 rfl) ?_
      obtain ⟨z6, hz6, hE⟩ := Option.bind_eq_some_iff.mp hE
      refine r_callI (va_runS (As := [.int x5, .int x1]) (rest := [.int x4]) ⟨hx, hb, hml, hown, hts⟩ (sX10_widthBy l b0 D cA hz6) (va_cwS 2 hts gX10_greatest_X10_widthBy rfl rfl rfl (by decide +kernel) (rm_ok (by decide) (by decide))) (pre_S hK hH) rfl rfl hl.1 rfl (lv_room (Nat.le_of_ble_eq_true rfl)) dX10_greatest_37 ⟨Nat.zero_le _, Nat.zero_le _⟩) hS (fun H locs hH hS => ?_)
      refine lv_iload_n hx hb dX10_greatest_40 rfl (lv_at hl 3 rfl) ?_
      refine lv_icmp_ne (tgt := 48) hx hb dX10_greatest_41 (by decide) (fun c7 => ?_) (fun c7 => ?_)
      · rw [if_neg c7] at hE
        exact sX10_greatest_b48 (F := F) hC hk16 hE _ _ _ hH hS (lv_sub hl [0, 1, 2, 3, 5] rfl)
      · rw [if_pos c7] at hE
        refine lv_iconst (v := 1) hx hb dX10_greatest_44 (by decide) ?_
        refine lv_goto (tgt := 49) hx hb dX10_greatest_45 (by decide) ?_
        exact sX10_greatest_b49 (F := F) hC hk16 hE _ _ _ hH hS (lv_sub hl [0, 1, 2, 3, 5] rfl)
theorem sX10_greatest_b16 {b0 : Nat} {D : va_G} {cA : Nat → ClassId} {p : Program} {l : Launch} {ev : Env} {s : State} {m : MethodId} {args : Array Value} {below : List Frame} {meth : Method} {c : Code} {F : Nat} {z : (Int32 × HL)} {k4 : Nat → Int32 → Int32 → Int32 → HL → Option (Int32 × HL)} (hC : Cx D cA p s m args meth c cX10_greatest 6 RX10 wsX10_greatest (some .int)) (hk4 : ∀ (a0' : Nat) (x1' : Int32) (x2' : Int32) (x3' : Int32) (L' : HL), k4 a0' x1' x2' x3' L' = some z → WB b0 D cA p l ev (RM 2 0 0) s m args below meth c 6 0 0 (MQ below (Qk b0 D cA (some (.int z.1)) z.2) args s 0 0 (Ab b0)) 4 [(0, .ref (b0 + a0')), (1, .int x1'), (2, .int x2'), (3, .int x3')] [] L') : ∀ (n : Nat) (a0 : Nat) (x1 : Int32) (x2 : Int32) (x3 : Int32) (x4 : Int32) (x5 : Int32) (L : HL), fX10_greatest_b16 F k4 n a0 x1 x2 x3 x4 x5 L = some z → WB b0 D cA p l ev (RM 2 0 0) s m args below meth c 6 0 0 (MQ below (Qk b0 D cA (some (.int z.1)) z.2) args s 0 0 (Ab b0)) 16 [(0, .ref (b0 + a0)), (1, .int x1), (2, .int x2), (3, .int x3), (4, .int x4), (5, .int x5)] [] L := by
  intro n
  induction n with
  | zero => intro a0 x1 x2 x3 x4 x5 L hE; cases hE
  | succ n ih => intro a0 x1 x2 x3 x4 x5 L hE; exact sX10_greatest_b16c (F := F) hC hk4 ih hE
def fX10_greatest_b4c (F : Nat) (k4 : Nat → Int32 → Int32 → Int32 → HL → Option (Int32 × HL)) (a0 : Nat) (x1 : Int32) (x2 : Int32) (x3 : Int32) (L : HL) : Option (Int32 × HL) := if 10 < x3 then (some (x2, L)) else (fX10_greatest_b16 F k4 F a0 x1 x2 x3 0 0 L)
def fX10_greatest_b4 (F : Nat) : Nat → Nat → Int32 → Int32 → Int32 → HL → Option (Int32 × HL)
  | 0 => fun _ _ _ _ _ => none
  | n + 1 => fun a0 x1 x2 x3 L => fX10_greatest_b4c F (fX10_greatest_b4 F n) a0 x1 x2 x3 L
set_option maxHeartbeats 4000000 in
set_option maxRecDepth 100000 in
theorem sX10_greatest_b4c {b0 : Nat} {D : va_G} {cA : Nat → ClassId} {p : Program} {l : Launch} {ev : Env} {s : State} {m : MethodId} {args : Array Value} {below : List Frame} {meth : Method} {c : Code} {F : Nat} {z : (Int32 × HL)} {k4 : Nat → Int32 → Int32 → Int32 → HL → Option (Int32 × HL)} {a0 : Nat} {x1 : Int32} {x2 : Int32} {x3 : Int32} {L : HL} (hC : Cx D cA p s m args meth c cX10_greatest 6 RX10 wsX10_greatest (some .int)) (hk4 : ∀ (a0' : Nat) (x1' : Int32) (x2' : Int32) (x3' : Int32) (L' : HL), k4 a0' x1' x2' x3' L' = some z → WB b0 D cA p l ev (RM 2 0 0) s m args below meth c 6 0 0 (MQ below (Qk b0 D cA (some (.int z.1)) z.2) args s 0 0 (Ab b0)) 4 [(0, .ref (b0 + a0')), (1, .int x1'), (2, .int x2'), (3, .int x3')] [] L') (hE : fX10_greatest_b4c F k4 a0 x1 x2 x3 L = some z) : WB b0 D cA p l ev (RM 2 0 0) s m args below meth c 6 0 0 (MQ below (Qk b0 D cA (some (.int z.1)) z.2) args s 0 0 (Ab b0)) 4 [(0, .ref (b0 + a0)), (1, .int x1), (2, .int x2), (3, .int x3)] [] L := by
  obtain ⟨hx, hb, hml, hown, hts, hK, hr, hlocks⟩ := id hC
  intro H locs ls hH hS hl
  unfold fX10_greatest_b4c at hE
  refine lv_iload_n hx hb dX10_greatest_4 rfl (lv_at hl 3 rfl) ?_
  refine lv_bipush (v := 10) hx hb dX10_greatest_5 (by decide) ?_
  refine lv_icmp_gt (tgt := 77) hx hb dX10_greatest_7 (by decide) (fun c1 => ?_) (fun c1 => ?_)
  · rw [if_pos c1] at hE
    refine lv_iload_n hx hb dX10_greatest_77 rfl (lv_at hl 2 rfl) ?_
    have hZ := Option.some.inj hE
    subst hZ
    exact W.iret (v := x2) hx hb hr (fun t ht hW => ⟨rfl, by rw [ht]; exact hH, hS.F ht⟩) hS.2.2 dX10_greatest_78
  · rw [if_neg c1] at hE
    refine lv_iconst (v := 0) hx hb dX10_greatest_10 (by decide) ?_
    refine lv_istore (lv' := [(4, .int 0), (0, .ref (b0 + a0)), (1, .int x1), (2, .int x2), (3, .int x3)]) hx hb dX10_greatest_11 hl (by decide) rfl (fun ls hl => ?_)
    refine lv_iconst (v := 0) hx hb dX10_greatest_13 (by decide) ?_
    refine lv_istore (lv' := [(5, .int 0), (4, .int 0), (0, .ref (b0 + a0)), (1, .int x1), (2, .int x2), (3, .int x3)]) hx hb dX10_greatest_14 hl (by decide) rfl (fun ls hl => ?_)
    exact sX10_greatest_b16 (F := F) hC hk4 F _ _ _ _ _ _ _ hE _ _ _ hH hS (lv_sub hl [2, 3, 4, 5, 1, 0] rfl)
theorem sX10_greatest_b4 {b0 : Nat} {D : va_G} {cA : Nat → ClassId} {p : Program} {l : Launch} {ev : Env} {s : State} {m : MethodId} {args : Array Value} {below : List Frame} {meth : Method} {c : Code} {F : Nat} {z : (Int32 × HL)} (hC : Cx D cA p s m args meth c cX10_greatest 6 RX10 wsX10_greatest (some .int)) : ∀ (n : Nat) (a0 : Nat) (x1 : Int32) (x2 : Int32) (x3 : Int32) (L : HL), fX10_greatest_b4 F n a0 x1 x2 x3 L = some z → WB b0 D cA p l ev (RM 2 0 0) s m args below meth c 6 0 0 (MQ below (Qk b0 D cA (some (.int z.1)) z.2) args s 0 0 (Ab b0)) 4 [(0, .ref (b0 + a0)), (1, .int x1), (2, .int x2), (3, .int x3)] [] L := by
  intro n
  induction n with
  | zero => intro a0 x1 x2 x3 L hE; cases hE
  | succ n ih => intro a0 x1 x2 x3 L hE; exact sX10_greatest_b4c (F := F) hC ih hE
def fX10_greatest (F : Nat) (L : HL) (a0 : Nat) (x1 : Int32) : Option (Int32 × HL) := (o_ob L a0 9).bind fun _ => fX10_greatest_b4 F F a0 x1 0 1 L
theorem oX10_greatest {F : Nat} {L : HL} {a0 : Nat} {x1 : Int32} {z : (Int32 × HL)} (hE : fX10_greatest F L a0 x1 = some z) : o_ob L a0 9 = some () := by
  obtain ⟨_, h, _⟩ := Option.bind_eq_some_iff.mp hE
  exact h
set_option maxHeartbeats 4000000 in
set_option maxRecDepth 100000 in
theorem sX10_greatest (l : Launch) (b0 : Nat) (D : va_G) (cA : Nat → ClassId) {F : Nat} {L : HL} {a0 : Nat} {x1 : Int32} {z : (Int32 × HL)} (hE : fX10_greatest F L a0 x1 = some z) : Met l yX10_greatest wsX10_greatest (RM 2 0 0) (Pk b0 D cA [.ref (b0 + a0), .int x1] L) (Qk b0 D cA (some (.int z.1)) z.2) 0 0 (Ab b0) := by
  refine Met.ofW (cc := cX10_greatest) (maxL := 6) (ret := (some .int)) (by decide) rfl ?_
  intro p ev s m args below meth c s₁ B hml hv
  obtain ⟨rfl, hH, hK⟩ := hv
  have hx := B.exec
  have hb := B.bytes
  have hr := B.returns
  have hts := atoms_spec (ws := wsX10_greatest) B.pre
  have hown : s.vm.findClass RX10 = some m.cls := findClass_of_methodNamed B.named
  have hlocks := B.notSynchronized
  have hC : Cx D cA p s m _ meth c cX10_greatest 6 RX10 wsX10_greatest (some .int) := ⟨hx, hb, hml, hown, hts, hK, hr, hlocks⟩
  have hS : va_S (Ab b0) s.heap s.heap [] := va_S.rf
  have hl := lv_entry ([.ref (b0 + a0), .int x1]) (n := 6) (Nat.le_of_ble_eq_true rfl)
  rw [lg_entry_eq]
  generalize (lg_sl ([.ref (b0 + a0), .int x1]) ++ List.replicate (6 - (lg_sl ([.ref (b0 + a0), .int x1])).length) Slot.unset).toArray = ls at hl ⊢
  have hl : lv_has ls 6 [(0, .ref (b0 + a0)), (1, .int x1)] := hl
  unfold fX10_greatest at hE
  obtain ⟨_, _, hE⟩ := Option.bind_eq_some_iff.mp hE
  refine lv_iconst (v := 0) hx hb dX10_greatest_0 (by decide) ?_
  refine lv_istore_n (lv' := [(2, .int 0), (0, .ref (b0 + a0)), (1, .int x1)]) hx hb dX10_greatest_1 rfl hl (by decide) rfl (fun ls hl => ?_)
  refine lv_iconst (v := 1) hx hb dX10_greatest_2 (by decide) ?_
  refine lv_istore_n (lv' := [(3, .int 1), (2, .int 0), (0, .ref (b0 + a0)), (1, .int x1)]) hx hb dX10_greatest_3 rfl hl (by decide) rfl (fun ls hl => ?_)
  exact sX10_greatest_b4 (F := F) hC F _ _ _ _ _ hE _ _ _ hH hS (lv_sub hl [2, 3, 1, 0] rfl)
-- X10_when
def fX10_when (F : Nat) (L : HL) (a0 : Nat) : Option (Int32 × HL) := (o_ob L a0 9).bind fun _ => (fX10_greatest F L a0 0).bind fun z1 => if z1.1 = 0 then (some ((-9), z1.2)) else ((fX10_greatest F z1.2 a0 1).bind fun z3 => if z1.1 ≤ z3.1 then (some (0, z3.2)) else (some (1, z3.2)))
theorem oX10_when {F : Nat} {L : HL} {a0 : Nat} {z : (Int32 × HL)} (hE : fX10_when F L a0 = some z) : o_ob L a0 9 = some () := by
  obtain ⟨_, h, _⟩ := Option.bind_eq_some_iff.mp hE
  exact h
set_option maxHeartbeats 4000000 in
set_option maxRecDepth 100000 in
theorem sX10_when (l : Launch) (b0 : Nat) (D : va_G) (cA : Nat → ClassId) {F : Nat} {L : HL} {a0 : Nat} {z : (Int32 × HL)} (hE : fX10_when F L a0 = some z) : Met l yX10_when wsX10_when (RM 3 0 0) (Pk b0 D cA [.ref (b0 + a0)] L) (Qk b0 D cA (some (.int z.1)) z.2) 0 0 (Ab b0) := by
  refine Met.ofW (cc := cX10_when) (maxL := 2) (ret := (some .int)) (by decide) rfl ?_
  intro p ev s m args below meth c s₁ B hml hv
  obtain ⟨rfl, hH, hK⟩ := hv
  have hx := B.exec
  have hb := B.bytes
  have hr := B.returns
  have hts := atoms_spec (ws := wsX10_when) B.pre
  have hown : s.vm.findClass RX10 = some m.cls := findClass_of_methodNamed B.named
  have hlocks := B.notSynchronized
  have hC : Cx D cA p s m _ meth c cX10_when 2 RX10 wsX10_when (some .int) := ⟨hx, hb, hml, hown, hts, hK, hr, hlocks⟩
  have hS : va_S (Ab b0) s.heap s.heap [] := va_S.rf
  have hl := lv_entry ([.ref (b0 + a0)]) (n := 2) (Nat.le_of_ble_eq_true rfl)
  rw [lg_entry_eq]
  generalize (lg_sl ([.ref (b0 + a0)]) ++ List.replicate (2 - (lg_sl ([.ref (b0 + a0)])).length) Slot.unset).toArray = ls at hl ⊢
  have hl : lv_has ls 2 [(0, .ref (b0 + a0))] := hl
  unfold fX10_when at hE
  obtain ⟨_, _, hE⟩ := Option.bind_eq_some_iff.mp hE
  refine lv_aload_n hx hb dX10_when_0 rfl (lv_at hl 0 rfl) ?_
  refine lv_iconst (v := 0) hx hb dX10_when_1 (by decide) ?_
  obtain ⟨z1, hz1, hE⟩ := Option.bind_eq_some_iff.mp hE
  refine r_callI (va_runV (As := [.int 0]) (rest := []) ⟨hx, hb, hml, hown, hts⟩ (sX10_greatest l b0 D cA hz1) (cwV 1 hts gX10_when_X10_greatest rfl rfl rfl (by decide +kernel) (rm_ok (by decide) (by decide))) (pre_V (ci := 9) hK hH (oX10_greatest hz1) rfl) rfl rfl hl.1 rfl (lv_room (Nat.le_of_ble_eq_true rfl)) dX10_when_2 ⟨Nat.zero_le _, Nat.zero_le _⟩) hS (fun H locs hH hS => ?_)
  refine lv_istore_n (lv' := [(1, .int z1.1), (0, .ref (b0 + a0))]) hx hb dX10_when_5 rfl hl (by decide) rfl (fun ls hl => ?_)
  refine lv_iload_n hx hb dX10_when_6 rfl (lv_at hl 0 rfl) ?_
  refine lv_if_ne (tgt := 15) hx hb dX10_when_7 (by decide) (fun c2 => ?_) (fun c2 => ?_)
  · rw [if_neg c2] at hE
    refine lv_aload_n hx hb dX10_when_15 rfl (lv_at hl 1 rfl) ?_
    refine lv_iconst (v := 1) hx hb dX10_when_16 (by decide) ?_
    obtain ⟨z3, hz3, hE⟩ := Option.bind_eq_some_iff.mp hE
    refine r_callI (va_runV (As := [.int 1]) (rest := []) ⟨hx, hb, hml, hown, hts⟩ (sX10_greatest l b0 D cA hz3) (cwV 1 hts gX10_when_X10_greatest rfl rfl rfl (by decide +kernel) (rm_ok (by decide) (by decide))) (pre_V (ci := 9) hK hH (oX10_greatest hz3) rfl) rfl rfl hl.1 rfl (lv_room (Nat.le_of_ble_eq_true rfl)) dX10_when_17 ⟨Nat.zero_le _, Nat.zero_le _⟩) hS (fun H locs hH hS => ?_)
    refine lv_iload_n hx hb dX10_when_20 rfl (lv_at hl 0 rfl) ?_
    refine lv_icmp_ge (tgt := 28) hx hb dX10_when_21 (by decide) (fun c4 => ?_) (fun c4 => ?_)
    · rw [if_pos c4] at hE
      refine lv_iconst (v := 0) hx hb dX10_when_28 (by decide) ?_
      have hZ := Option.some.inj hE
      subst hZ
      exact W.iret (v := 0) hx hb hr (fun t ht hW => ⟨rfl, by rw [ht]; exact hH, hS.F ht⟩) hS.2.2 dX10_when_29
    · rw [if_neg c4] at hE
      refine lv_iconst (v := 1) hx hb dX10_when_24 (by decide) ?_
      refine lv_goto (tgt := 29) hx hb dX10_when_25 (by decide) ?_
      have hZ := Option.some.inj hE
      subst hZ
      exact W.iret (v := 1) hx hb hr (fun t ht hW => ⟨rfl, by rw [ht]; exact hH, hS.F ht⟩) hS.2.2 dX10_when_29
  · rw [if_pos c2] at hE
    refine lv_bipush (v := (-9)) hx hb dX10_when_10 (by decide) ?_
    refine lv_goto (tgt := 29) hx hb dX10_when_12 (by decide) ?_
    have hZ := Option.some.inj hE
    subst hZ
    exact W.iret (v := (-9)) hx hb hr (fun t ht hW => ⟨rfl, by rw [ht]; exact hH, hS.F ht⟩) hS.2.2 dX10_when_29
-- X10_bodiesOf
def fX10_bodiesOf (F : Nat) (L : HL) (x0 : Int32) : Option (Int32 × HL) := if x0 = 0 then (some (1, L)) else if x0 = 1 then (some (3, L)) else if x0 = 2 then (some (5, L)) else if x0 = 3 then (some (11, L)) else if x0 = 4 then (some (21, L)) else some (33, L)
set_option maxHeartbeats 4000000 in
set_option maxRecDepth 100000 in
theorem sX10_bodiesOf (l : Launch) (b0 : Nat) (D : va_G) (cA : Nat → ClassId) {F : Nat} {L : HL} {x0 : Int32} {z : (Int32 × HL)} (hE : fX10_bodiesOf F L x0 = some z) : Met l yX10_bodiesOf wsX10_bodiesOf (RM 0 0 0) (Pk b0 D cA [.int x0] L) (Qk b0 D cA (some (.int z.1)) z.2) 0 0 (Ab b0) := by
  refine Met.ofW (cc := cX10_bodiesOf) (maxL := 1) (ret := (some .int)) (by decide) rfl ?_
  intro p ev s m args below meth c s₁ B hml hv
  obtain ⟨rfl, hH, hK⟩ := hv
  have hx := B.exec
  have hb := B.bytes
  have hr := B.returns
  have hts := atoms_spec (ws := wsX10_bodiesOf) B.pre
  have hown : s.vm.findClass RX10 = some m.cls := findClass_of_methodNamed B.named
  have hlocks := B.notSynchronized
  have hC : Cx D cA p s m _ meth c cX10_bodiesOf 1 RX10 wsX10_bodiesOf (some .int) := ⟨hx, hb, hml, hown, hts, hK, hr, hlocks⟩
  have hS : va_S (Ab b0) s.heap s.heap [] := va_S.rf
  have hl := lv_entry ([.int x0]) (n := 1) (Nat.le_of_ble_eq_true rfl)
  rw [lg_entry_eq]
  generalize (lg_sl ([.int x0]) ++ List.replicate (1 - (lg_sl ([.int x0])).length) Slot.unset).toArray = ls at hl ⊢
  have hl : lv_has ls 1 [(0, .int x0)] := hl
  unfold fX10_bodiesOf at hE
  refine lv_iload_n hx hb dX10_bodiesOf_0 rfl (lv_at hl 0 rfl) ?_
  by_cases c1 : x0 = 0
  · rw [if_pos c1] at hE
    refine lv_tableIn (tgt := 36) (off := 35) hx hb dX10_bodiesOf_1 (by rw [c1]; decide) (by rw [c1]; decide) (by rw [c1]; rfl) (by decide) ?_
    refine lv_iconst (v := 1) hx hb dX10_bodiesOf_36 (by decide) ?_
    have hZ := Option.some.inj hE
    subst hZ
    exact W.iret (v := 1) hx hb hr (fun t ht hW => ⟨rfl, by rw [ht]; exact hH, hS.F ht⟩) hS.2.2 dX10_bodiesOf_37
  rw [if_neg c1] at hE
  by_cases c2 : x0 = 1
  · rw [if_pos c2] at hE
    refine lv_tableIn (tgt := 38) (off := 37) hx hb dX10_bodiesOf_1 (by rw [c2]; decide) (by rw [c2]; decide) (by rw [c2]; rfl) (by decide) ?_
    refine lv_iconst (v := 3) hx hb dX10_bodiesOf_38 (by decide) ?_
    have hZ := Option.some.inj hE
    subst hZ
    exact W.iret (v := 3) hx hb hr (fun t ht hW => ⟨rfl, by rw [ht]; exact hH, hS.F ht⟩) hS.2.2 dX10_bodiesOf_39
  rw [if_neg c2] at hE
  by_cases c3 : x0 = 2
  · rw [if_pos c3] at hE
    refine lv_tableIn (tgt := 40) (off := 39) hx hb dX10_bodiesOf_1 (by rw [c3]; decide) (by rw [c3]; decide) (by rw [c3]; rfl) (by decide) ?_
    refine lv_iconst (v := 5) hx hb dX10_bodiesOf_40 (by decide) ?_
    have hZ := Option.some.inj hE
    subst hZ
    exact W.iret (v := 5) hx hb hr (fun t ht hW => ⟨rfl, by rw [ht]; exact hH, hS.F ht⟩) hS.2.2 dX10_bodiesOf_41
  rw [if_neg c3] at hE
  by_cases c4 : x0 = 3
  · rw [if_pos c4] at hE
    refine lv_tableIn (tgt := 42) (off := 41) hx hb dX10_bodiesOf_1 (by rw [c4]; decide) (by rw [c4]; decide) (by rw [c4]; rfl) (by decide) ?_
    refine lv_bipush (v := 11) hx hb dX10_bodiesOf_42 (by decide) ?_
    have hZ := Option.some.inj hE
    subst hZ
    exact W.iret (v := 11) hx hb hr (fun t ht hW => ⟨rfl, by rw [ht]; exact hH, hS.F ht⟩) hS.2.2 dX10_bodiesOf_44
  rw [if_neg c4] at hE
  by_cases c5 : x0 = 4
  · rw [if_pos c5] at hE
    refine lv_tableIn (tgt := 45) (off := 44) hx hb dX10_bodiesOf_1 (by rw [c5]; decide) (by rw [c5]; decide) (by rw [c5]; rfl) (by decide) ?_
    refine lv_bipush (v := 21) hx hb dX10_bodiesOf_45 (by decide) ?_
    have hZ := Option.some.inj hE
    subst hZ
    exact W.iret (v := 21) hx hb hr (fun t ht hW => ⟨rfl, by rw [ht]; exact hH, hS.F ht⟩) hS.2.2 dX10_bodiesOf_47
  rw [if_neg c5] at hE
  refine lv_tableOut (tgt := 48) hx hb dX10_bodiesOf_1 (by have q0 := sw_ne (k := 0) (by decide) c1; have q1 := sw_ne (k := 1) (by decide) c2; have q2 := sw_ne (k := 2) (by decide) c3; have q3 := sw_ne (k := 3) (by decide) c4; have q4 := sw_ne (k := 4) (by decide) c5; omega) (by decide) ?_
  refine lv_bipush (v := 33) hx hb dX10_bodiesOf_48 (by decide) ?_
  have hZ := Option.some.inj hE
  subst hZ
  exact W.iret (v := 33) hx hb hr (fun t ht hW => ⟨rfl, by rw [ht]; exact hH, hS.F ht⟩) hS.2.2 dX10_bodiesOf_50
-- X10_mark
def fX10_mark_b17 (F : Nat)  (L : HL) : Option (Int32 × HL) := some ((-1000000), L)
set_option maxHeartbeats 4000000 in
set_option maxRecDepth 100000 in
theorem sX10_mark_b17 {b0 : Nat} {D : va_G} {cA : Nat → ClassId} {p : Program} {l : Launch} {ev : Env} {s : State} {m : MethodId} {args : Array Value} {below : List Frame} {meth : Method} {c : Code} {F : Nat} {z : (Int32 × HL)}  {L : HL} (hC : Cx D cA p s m args meth c cX10_mark 8 RX10 wsX10_mark (some .int)) (hE : fX10_mark_b17 F  L = some z) : WB b0 D cA p l ev (RM 2 0 0) s m args below meth c 8 0 0 (MQ below (Qk b0 D cA (some (.int z.1)) z.2) args s 0 0 (Ab b0)) 17 [] [] L := by
  obtain ⟨hx, hb, hml, hown, hts, hK, hr, hlocks⟩ := id hC
  intro H locs ls hH hS hl
  unfold fX10_mark_b17 at hE
  refine lv_ldc hx hb hown (hts (.constant RX10 182 (-1000000)) (by decide +kernel)) dX10_mark_17 ?_
  have hZ := Option.some.inj hE
  subst hZ
  exact W.iret (v := (-1000000)) hx hb hr (fun t ht hW => ⟨rfl, by rw [ht]; exact hH, hS.F ht⟩) hS.2.2 dX10_mark_19
def fX10_mark_b210 (F : Nat) (k174 : Nat → Int32 → Int32 → Int32 → Int32 → HL → Option (Int32 × HL)) (a0 : Nat) (x2 : Int32) (x3 : Int32) (x7 : Int32) (y0 : Int32) (y1 : Int32) (L : HL) : Option (Int32 × HL) := k174 a0 x2 x3 (y1 + y0) (x7 + 1) L
set_option maxHeartbeats 4000000 in
set_option maxRecDepth 100000 in
theorem sX10_mark_b210 {b0 : Nat} {D : va_G} {cA : Nat → ClassId} {p : Program} {l : Launch} {ev : Env} {s : State} {m : MethodId} {args : Array Value} {below : List Frame} {meth : Method} {c : Code} {F : Nat} {z : (Int32 × HL)} {k174 : Nat → Int32 → Int32 → Int32 → Int32 → HL → Option (Int32 × HL)} {a0 : Nat} {x2 : Int32} {x3 : Int32} {x7 : Int32} {y0 : Int32} {y1 : Int32} {L : HL} (hC : Cx D cA p s m args meth c cX10_mark 8 RX10 wsX10_mark (some .int)) (hk174 : ∀ (a0' : Nat) (x2' : Int32) (x3' : Int32) (x6' : Int32) (x7' : Int32) (L' : HL), k174 a0' x2' x3' x6' x7' L' = some z → WB b0 D cA p l ev (RM 2 0 0) s m args below meth c 8 0 0 (MQ below (Qk b0 D cA (some (.int z.1)) z.2) args s 0 0 (Ab b0)) 174 [(0, .ref (b0 + a0')), (2, .int x2'), (3, .int x3'), (6, .int x6'), (7, .int x7')] [] L') (hE : fX10_mark_b210 F k174 a0 x2 x3 x7 y0 y1 L = some z) : WB b0 D cA p l ev (RM 2 0 0) s m args below meth c 8 0 0 (MQ below (Qk b0 D cA (some (.int z.1)) z.2) args s 0 0 (Ab b0)) 210 [(0, .ref (b0 + a0)), (2, .int x2), (3, .int x3), (7, .int x7)] [.int y0, .int y1] L := by
  obtain ⟨hx, hb, hml, hown, hts, hK, hr, hlocks⟩ := id hC
  intro H locs ls hH hS hl
  unfold fX10_mark_b210 at hE
  refine lv_iadd hx hb dX10_mark_210 ?_
  refine lv_istore (lv' := [(6, .int (y1 + y0)), (0, .ref (b0 + a0)), (2, .int x2), (3, .int x3), (7, .int x7)]) hx hb dX10_mark_211 hl (by decide) rfl (fun ls hl => ?_)
  refine lv_iinc (v := (x7 + 1)) (lv' := [(7, .int (x7 + 1)), (6, .int (y1 + y0)), (0, .ref (b0 + a0)), (2, .int x2), (3, .int x3)]) hx hb dX10_mark_213 hl (k := 4) rfl rfl (by decide) rfl (fun ls hl => ?_)
  refine lv_goto (tgt := 174) hx hb dX10_mark_216 (by decide) ?_
  exact hk174 _ _ _ _ _ _ hE _ _ _ hH hS (lv_sub hl [2, 3, 4, 1, 0] rfl)
def fX10_mark_b209 (F : Nat) (k174 : Nat → Int32 → Int32 → Int32 → Int32 → HL → Option (Int32 × HL)) (a0 : Nat) (x2 : Int32) (x3 : Int32) (x7 : Int32) (y0 : Int32) (L : HL) : Option (Int32 × HL) := fX10_mark_b210 F k174 a0 x2 x3 x7 0 y0 L
set_option maxHeartbeats 4000000 in
set_option maxRecDepth 100000 in
theorem sX10_mark_b209 {b0 : Nat} {D : va_G} {cA : Nat → ClassId} {p : Program} {l : Launch} {ev : Env} {s : State} {m : MethodId} {args : Array Value} {below : List Frame} {meth : Method} {c : Code} {F : Nat} {z : (Int32 × HL)} {k174 : Nat → Int32 → Int32 → Int32 → Int32 → HL → Option (Int32 × HL)} {a0 : Nat} {x2 : Int32} {x3 : Int32} {x7 : Int32} {y0 : Int32} {L : HL} (hC : Cx D cA p s m args meth c cX10_mark 8 RX10 wsX10_mark (some .int)) (hk174 : ∀ (a0' : Nat) (x2' : Int32) (x3' : Int32) (x6' : Int32) (x7' : Int32) (L' : HL), k174 a0' x2' x3' x6' x7' L' = some z → WB b0 D cA p l ev (RM 2 0 0) s m args below meth c 8 0 0 (MQ below (Qk b0 D cA (some (.int z.1)) z.2) args s 0 0 (Ab b0)) 174 [(0, .ref (b0 + a0')), (2, .int x2'), (3, .int x3'), (6, .int x6'), (7, .int x7')] [] L') (hE : fX10_mark_b209 F k174 a0 x2 x3 x7 y0 L = some z) : WB b0 D cA p l ev (RM 2 0 0) s m args below meth c 8 0 0 (MQ below (Qk b0 D cA (some (.int z.1)) z.2) args s 0 0 (Ab b0)) 209 [(0, .ref (b0 + a0)), (2, .int x2), (3, .int x3), (7, .int x7)] [.int y0] L := by
  obtain ⟨hx, hb, hml, hown, hts, hK, hr, hlocks⟩ := id hC
  intro H locs ls hH hS hl
  unfold fX10_mark_b209 at hE
  refine lv_iconst (v := 0) hx hb dX10_mark_209 (by decide) ?_
  exact sX10_mark_b210 (F := F) hC hk174 hE _ _ _ hH hS (lv_sub hl [0, 1, 2, 3] rfl)
def fX10_mark_b174c (F : Nat) (k174 : Nat → Int32 → Int32 → Int32 → Int32 → HL → Option (Int32 × HL)) (a0 : Nat) (x2 : Int32) (x3 : Int32) (x6 : Int32) (x7 : Int32) (L : HL) : Option (Int32 × HL) := (o_gR L a0 9 3).bind fun v16 => (o_aI L v16 0 0).bind fun v17 => if v17 ≤ x7 then (some (x6, L)) else ((fX10_has F L x3 5).bind fun z19 => if z19.1 = 0 then (fX10_mark_b209 F k174 a0 x2 x3 x7 x6 z19.2) else ((fX10_doMeet F z19.2 a0 x2 x7).bind fun z21 => if z21.1 = 0 then (fX10_mark_b209 F k174 a0 x2 x3 x7 x6 z21.2) else (fX10_mark_b210 F k174 a0 x2 x3 x7 1 x6 z21.2)))
def fX10_mark_b174 (F : Nat) : Nat → Nat → Int32 → Int32 → Int32 → Int32 → HL → Option (Int32 × HL)
  | 0 => fun _ _ _ _ _ _ => none
  | n + 1 => fun a0 x2 x3 x6 x7 L => fX10_mark_b174c F (fX10_mark_b174 F n) a0 x2 x3 x6 x7 L
set_option maxHeartbeats 4000000 in
set_option maxRecDepth 100000 in
theorem sX10_mark_b174c {b0 : Nat} {D : va_G} {cA : Nat → ClassId} {p : Program} {l : Launch} {ev : Env} {s : State} {m : MethodId} {args : Array Value} {below : List Frame} {meth : Method} {c : Code} {F : Nat} {z : (Int32 × HL)} {k174 : Nat → Int32 → Int32 → Int32 → Int32 → HL → Option (Int32 × HL)} {a0 : Nat} {x2 : Int32} {x3 : Int32} {x6 : Int32} {x7 : Int32} {L : HL} (hC : Cx D cA p s m args meth c cX10_mark 8 RX10 wsX10_mark (some .int)) (hk174 : ∀ (a0' : Nat) (x2' : Int32) (x3' : Int32) (x6' : Int32) (x7' : Int32) (L' : HL), k174 a0' x2' x3' x6' x7' L' = some z → WB b0 D cA p l ev (RM 2 0 0) s m args below meth c 8 0 0 (MQ below (Qk b0 D cA (some (.int z.1)) z.2) args s 0 0 (Ab b0)) 174 [(0, .ref (b0 + a0')), (2, .int x2'), (3, .int x3'), (6, .int x6'), (7, .int x7')] [] L') (hE : fX10_mark_b174c F k174 a0 x2 x3 x6 x7 L = some z) : WB b0 D cA p l ev (RM 2 0 0) s m args below meth c 8 0 0 (MQ below (Qk b0 D cA (some (.int z.1)) z.2) args s 0 0 (Ab b0)) 174 [(0, .ref (b0 + a0)), (2, .int x2), (3, .int x3), (6, .int x6), (7, .int x7)] [] L := by
  obtain ⟨hx, hb, hml, hown, hts, hK, hr, hlocks⟩ := id hC
  intro H locs ls hH hS hl
  unfold fX10_mark_b174c at hE
  refine lv_iload hx hb dX10_mark_174 (lv_at hl 4 rfl) ?_
  refine lv_aload_n hx hb dX10_mark_176 rfl (lv_at hl 0 rfl) ?_
  obtain ⟨v16, hv16, hE⟩ := Option.bind_eq_some_iff.mp hE
  refine r_gR 3 (C := RX10) (T := TX10) (N := 26) (ci := 9) hx hb hts (by decide +kernel) hown hK hH hv16 rfl (by decide) (hts (.fieldLink RX10 17 "KindStreetsModel" "streets" "[I") (by decide +kernel)) (fun _ h9 => h9) dX10_mark_177 ?_
  refine lv_iconst (v := 0) hx hb dX10_mark_180 (by decide) ?_
  obtain ⟨v17, hv17, hE⟩ := Option.bind_eq_some_iff.mp hE
  refine r_iald hx hb hK hH hv17 dX10_mark_181 ?_
  refine lv_icmp_ge (tgt := 219) hx hb dX10_mark_182 (by decide) (fun c18 => ?_) (fun c18 => ?_)
  · rw [if_pos c18] at hE
    refine lv_iload hx hb dX10_mark_219 (lv_at hl 3 rfl) ?_
    have hZ := Option.some.inj hE
    subst hZ
    exact W.iret (v := x6) hx hb hr (fun t ht hW => ⟨rfl, by rw [ht]; exact hH, hS.F ht⟩) hS.2.2 dX10_mark_221
  · rw [if_neg c18] at hE
    refine lv_iload hx hb dX10_mark_185 (lv_at hl 3 rfl) ?_
    refine lv_iload_n hx hb dX10_mark_187 rfl (lv_at hl 2 rfl) ?_
    refine lv_iconst (v := 5) hx hb dX10_mark_188 (by decide) ?_
    obtain ⟨z19, hz19, hE⟩ := Option.bind_eq_some_iff.mp hE
    refine r_callI (va_runS (As := [.int x3, .int 5]) (rest := [.int x6]) ⟨hx, hb, hml, hown, hts⟩ (sX10_has l b0 D cA hz19) (va_cwS 2 hts gX10_mark_X10_has rfl rfl rfl (by decide +kernel) (rm_ok (by decide) (by decide))) (pre_S hK hH) rfl rfl hl.1 rfl (lv_room (Nat.le_of_ble_eq_true rfl)) dX10_mark_189 ⟨Nat.zero_le _, Nat.zero_le _⟩) hS (fun H locs hH hS => ?_)
    refine lv_if_eq (tgt := 209) hx hb dX10_mark_192 (by decide) (fun c20 => ?_) (fun c20 => ?_)
    · rw [if_pos c20] at hE
      exact sX10_mark_b209 (F := F) hC hk174 hE _ _ _ hH hS (lv_sub hl [0, 1, 2, 4] rfl)
    · rw [if_neg c20] at hE
      refine lv_aload_n hx hb dX10_mark_195 rfl (lv_at hl 0 rfl) ?_
      refine lv_iload_n hx hb dX10_mark_196 rfl (lv_at hl 1 rfl) ?_
      refine lv_iload hx hb dX10_mark_197 (lv_at hl 4 rfl) ?_
      obtain ⟨z21, hz21, hE⟩ := Option.bind_eq_some_iff.mp hE
      refine r_callI (va_runV (As := [.int x2, .int x7]) (rest := [.int x6]) ⟨hx, hb, hml, hown, hts⟩ (sX10_doMeet l b0 D cA hz21) (cwV 2 hts gX10_mark_X10_doMeet rfl rfl rfl (by decide +kernel) (rm_ok (by decide) (by decide))) (pre_V (ci := 9) hK hH (oX10_doMeet hz21) rfl) rfl rfl hl.1 rfl (lv_room (Nat.le_of_ble_eq_true rfl)) dX10_mark_199 ⟨Nat.zero_le _, Nat.zero_le _⟩) hS (fun H locs hH hS => ?_)
      refine lv_if_eq (tgt := 209) hx hb dX10_mark_202 (by decide) (fun c22 => ?_) (fun c22 => ?_)
      · rw [if_pos c22] at hE
        exact sX10_mark_b209 (F := F) hC hk174 hE _ _ _ hH hS (lv_sub hl [0, 1, 2, 4] rfl)
      · rw [if_neg c22] at hE
        refine lv_iconst (v := 1) hx hb dX10_mark_205 (by decide) ?_
        refine lv_goto (tgt := 210) hx hb dX10_mark_206 (by decide) ?_
        exact sX10_mark_b210 (F := F) hC hk174 hE _ _ _ hH hS (lv_sub hl [0, 1, 2, 4] rfl)
theorem sX10_mark_b174 {b0 : Nat} {D : va_G} {cA : Nat → ClassId} {p : Program} {l : Launch} {ev : Env} {s : State} {m : MethodId} {args : Array Value} {below : List Frame} {meth : Method} {c : Code} {F : Nat} {z : (Int32 × HL)} (hC : Cx D cA p s m args meth c cX10_mark 8 RX10 wsX10_mark (some .int)) : ∀ (n : Nat) (a0 : Nat) (x2 : Int32) (x3 : Int32) (x6 : Int32) (x7 : Int32) (L : HL), fX10_mark_b174 F n a0 x2 x3 x6 x7 L = some z → WB b0 D cA p l ev (RM 2 0 0) s m args below meth c 8 0 0 (MQ below (Qk b0 D cA (some (.int z.1)) z.2) args s 0 0 (Ab b0)) 174 [(0, .ref (b0 + a0)), (2, .int x2), (3, .int x3), (6, .int x6), (7, .int x7)] [] L := by
  intro n
  induction n with
  | zero => intro a0 x2 x3 x6 x7 L hE; cases hE
  | succ n ih => intro a0 x2 x3 x6 x7 L hE; exact sX10_mark_b174c (F := F) hC ih hE
def fX10_mark_b168 (F : Nat) (a0 : Nat) (x2 : Int32) (x3 : Int32) (y0 : Int32) (y1 : Int32) (L : HL) : Option (Int32 × HL) := fX10_mark_b174 F F a0 x2 x3 (y1 + y0) 0 L
set_option maxHeartbeats 4000000 in
set_option maxRecDepth 100000 in
theorem sX10_mark_b168 {b0 : Nat} {D : va_G} {cA : Nat → ClassId} {p : Program} {l : Launch} {ev : Env} {s : State} {m : MethodId} {args : Array Value} {below : List Frame} {meth : Method} {c : Code} {F : Nat} {z : (Int32 × HL)} {a0 : Nat} {x2 : Int32} {x3 : Int32} {y0 : Int32} {y1 : Int32} {L : HL} (hC : Cx D cA p s m args meth c cX10_mark 8 RX10 wsX10_mark (some .int)) (hE : fX10_mark_b168 F a0 x2 x3 y0 y1 L = some z) : WB b0 D cA p l ev (RM 2 0 0) s m args below meth c 8 0 0 (MQ below (Qk b0 D cA (some (.int z.1)) z.2) args s 0 0 (Ab b0)) 168 [(0, .ref (b0 + a0)), (2, .int x2), (3, .int x3)] [.int y0, .int y1] L := by
  obtain ⟨hx, hb, hml, hown, hts, hK, hr, hlocks⟩ := id hC
  intro H locs ls hH hS hl
  unfold fX10_mark_b168 at hE
  refine lv_iadd hx hb dX10_mark_168 ?_
  refine lv_istore (lv' := [(6, .int (y1 + y0)), (0, .ref (b0 + a0)), (2, .int x2), (3, .int x3)]) hx hb dX10_mark_169 hl (by decide) rfl (fun ls hl => ?_)
  refine lv_iconst (v := 0) hx hb dX10_mark_171 (by decide) ?_
  refine lv_istore (lv' := [(7, .int 0), (6, .int (y1 + y0)), (0, .ref (b0 + a0)), (2, .int x2), (3, .int x3)]) hx hb dX10_mark_172 hl (by decide) rfl (fun ls hl => ?_)
  exact sX10_mark_b174 (F := F) hC F _ _ _ _ _ _ hE _ _ _ hH hS (lv_sub hl [2, 3, 4, 1, 0] rfl)
def fX10_mark_b151 (F : Nat) (a0 : Nat) (x2 : Int32) (x3 : Int32) (y0 : Int32) (L : HL) : Option (Int32 × HL) := (fX10_has F L x3 4).bind fun z14 => if z14.1 = 0 then (fX10_mark_b168 F a0 x2 x3 0 y0 z14.2) else (fX10_mark_b168 F a0 x2 x3 x2 y0 z14.2)
set_option maxHeartbeats 4000000 in
set_option maxRecDepth 100000 in
theorem sX10_mark_b151 {b0 : Nat} {D : va_G} {cA : Nat → ClassId} {p : Program} {l : Launch} {ev : Env} {s : State} {m : MethodId} {args : Array Value} {below : List Frame} {meth : Method} {c : Code} {F : Nat} {z : (Int32 × HL)} {a0 : Nat} {x2 : Int32} {x3 : Int32} {y0 : Int32} {L : HL} (hC : Cx D cA p s m args meth c cX10_mark 8 RX10 wsX10_mark (some .int)) (hE : fX10_mark_b151 F a0 x2 x3 y0 L = some z) : WB b0 D cA p l ev (RM 2 0 0) s m args below meth c 8 0 0 (MQ below (Qk b0 D cA (some (.int z.1)) z.2) args s 0 0 (Ab b0)) 151 [(0, .ref (b0 + a0)), (2, .int x2), (3, .int x3)] [.int y0] L := by
  obtain ⟨hx, hb, hml, hown, hts, hK, hr, hlocks⟩ := id hC
  intro H locs ls hH hS hl
  unfold fX10_mark_b151 at hE
  refine lv_istore (lv' := [(6, .int y0), (0, .ref (b0 + a0)), (2, .int x2), (3, .int x3)]) hx hb dX10_mark_151 hl (by decide) rfl (fun ls hl => ?_)
  refine lv_iload hx hb dX10_mark_153 (lv_at hl 0 rfl) ?_
  refine lv_iload_n hx hb dX10_mark_155 rfl (lv_at hl 3 rfl) ?_
  refine lv_iconst (v := 4) hx hb dX10_mark_156 (by decide) ?_
  obtain ⟨z14, hz14, hE⟩ := Option.bind_eq_some_iff.mp hE
  refine r_callI (va_runS (As := [.int x3, .int 4]) (rest := [.int y0]) ⟨hx, hb, hml, hown, hts⟩ (sX10_has l b0 D cA hz14) (va_cwS 2 hts gX10_mark_X10_has rfl rfl rfl (by decide +kernel) (rm_ok (by decide) (by decide))) (pre_S hK hH) rfl rfl hl.1 rfl (lv_room (Nat.le_of_ble_eq_true rfl)) dX10_mark_157 ⟨Nat.zero_le _, Nat.zero_le _⟩) hS (fun H locs hH hS => ?_)
  refine lv_if_eq (tgt := 167) hx hb dX10_mark_160 (by decide) (fun c15 => ?_) (fun c15 => ?_)
  · rw [if_pos c15] at hE
    refine lv_iconst (v := 0) hx hb dX10_mark_167 (by decide) ?_
    exact sX10_mark_b168 (F := F) hC hE _ _ _ hH hS (lv_sub hl [1, 2, 3] rfl)
  · rw [if_neg c15] at hE
    refine lv_iload_n hx hb dX10_mark_163 rfl (lv_at hl 2 rfl) ?_
    refine lv_goto (tgt := 168) hx hb dX10_mark_164 (by decide) ?_
    exact sX10_mark_b168 (F := F) hC hE _ _ _ hH hS (lv_sub hl [1, 2, 3] rfl)
def fX10_mark_b131 (F : Nat) (a0 : Nat) (x2 : Int32) (x3 : Int32) (y0 : Int32) (y1 : Int32) (L : HL) : Option (Int32 × HL) := (fX10_has F L x3 3).bind fun z12 => if z12.1 = 0 then (fX10_mark_b151 F a0 x2 x3 (y1 - y0) z12.2) else (fX10_mark_b151 F a0 x2 x3 (2 * (y1 - y0)) z12.2)
set_option maxHeartbeats 4000000 in
set_option maxRecDepth 100000 in
theorem sX10_mark_b131 {b0 : Nat} {D : va_G} {cA : Nat → ClassId} {p : Program} {l : Launch} {ev : Env} {s : State} {m : MethodId} {args : Array Value} {below : List Frame} {meth : Method} {c : Code} {F : Nat} {z : (Int32 × HL)} {a0 : Nat} {x2 : Int32} {x3 : Int32} {y0 : Int32} {y1 : Int32} {L : HL} (hC : Cx D cA p s m args meth c cX10_mark 8 RX10 wsX10_mark (some .int)) (hE : fX10_mark_b131 F a0 x2 x3 y0 y1 L = some z) : WB b0 D cA p l ev (RM 2 0 0) s m args below meth c 8 0 0 (MQ below (Qk b0 D cA (some (.int z.1)) z.2) args s 0 0 (Ab b0)) 131 [(0, .ref (b0 + a0)), (2, .int x2), (3, .int x3)] [.int y0, .int y1] L := by
  obtain ⟨hx, hb, hml, hown, hts, hK, hr, hlocks⟩ := id hC
  intro H locs ls hH hS hl
  unfold fX10_mark_b131 at hE
  refine lv_isub hx hb dX10_mark_131 ?_
  refine lv_istore (lv' := [(6, .int (y1 - y0)), (0, .ref (b0 + a0)), (2, .int x2), (3, .int x3)]) hx hb dX10_mark_132 hl (by decide) rfl (fun ls hl => ?_)
  refine lv_iload_n hx hb dX10_mark_134 rfl (lv_at hl 3 rfl) ?_
  refine lv_iconst (v := 3) hx hb dX10_mark_135 (by decide) ?_
  obtain ⟨z12, hz12, hE⟩ := Option.bind_eq_some_iff.mp hE
  refine r_callI (va_runS (As := [.int x3, .int 3]) (rest := []) ⟨hx, hb, hml, hown, hts⟩ (sX10_has l b0 D cA hz12) (va_cwS 2 hts gX10_mark_X10_has rfl rfl rfl (by decide +kernel) (rm_ok (by decide) (by decide))) (pre_S hK hH) rfl rfl hl.1 rfl (lv_room (Nat.le_of_ble_eq_true rfl)) dX10_mark_136 ⟨Nat.zero_le _, Nat.zero_le _⟩) hS (fun H locs hH hS => ?_)
  refine lv_if_eq (tgt := 149) hx hb dX10_mark_139 (by decide) (fun c13 => ?_) (fun c13 => ?_)
  · rw [if_pos c13] at hE
    refine lv_iload hx hb dX10_mark_149 (lv_at hl 0 rfl) ?_
    exact sX10_mark_b151 (F := F) hC hE _ _ _ hH hS (lv_sub hl [1, 2, 3] rfl)
  · rw [if_neg c13] at hE
    refine lv_iconst (v := 2) hx hb dX10_mark_142 (by decide) ?_
    refine lv_iload hx hb dX10_mark_143 (lv_at hl 0 rfl) ?_
    refine lv_imul hx hb dX10_mark_145 ?_
    refine lv_goto (tgt := 151) hx hb dX10_mark_146 (by decide) ?_
    exact sX10_mark_b151 (F := F) hC hE _ _ _ hH hS (lv_sub hl [1, 2, 3] rfl)
def fX10_mark_b105 (F : Nat) (a0 : Nat) (x2 : Int32) (x3 : Int32) (y0 : Int32) (y1 : Int32) (L : HL) : Option (Int32 × HL) := (fX10_has F L x3 2).bind fun z10 => if z10.1 = 0 then (fX10_mark_b131 F a0 x2 x3 0 (y1 + y0) z10.2) else ((o_gR z10.2 a0 9 16).bind fun v23 => (o_aI z10.2 v23 0 (10 + x2)).bind fun v24 => fX10_mark_b131 F a0 x2 x3 v24 (y1 + y0) z10.2)
set_option maxHeartbeats 4000000 in
set_option maxRecDepth 100000 in
theorem sX10_mark_b105 {b0 : Nat} {D : va_G} {cA : Nat → ClassId} {p : Program} {l : Launch} {ev : Env} {s : State} {m : MethodId} {args : Array Value} {below : List Frame} {meth : Method} {c : Code} {F : Nat} {z : (Int32 × HL)} {a0 : Nat} {x2 : Int32} {x3 : Int32} {y0 : Int32} {y1 : Int32} {L : HL} (hC : Cx D cA p s m args meth c cX10_mark 8 RX10 wsX10_mark (some .int)) (hE : fX10_mark_b105 F a0 x2 x3 y0 y1 L = some z) : WB b0 D cA p l ev (RM 2 0 0) s m args below meth c 8 0 0 (MQ below (Qk b0 D cA (some (.int z.1)) z.2) args s 0 0 (Ab b0)) 105 [(0, .ref (b0 + a0)), (2, .int x2), (3, .int x3)] [.int y0, .int y1] L := by
  obtain ⟨hx, hb, hml, hown, hts, hK, hr, hlocks⟩ := id hC
  intro H locs ls hH hS hl
  unfold fX10_mark_b105 at hE
  refine lv_iadd hx hb dX10_mark_105 ?_
  refine lv_istore (lv' := [(6, .int (y1 + y0)), (0, .ref (b0 + a0)), (2, .int x2), (3, .int x3)]) hx hb dX10_mark_106 hl (by decide) rfl (fun ls hl => ?_)
  refine lv_iload hx hb dX10_mark_108 (lv_at hl 0 rfl) ?_
  refine lv_iload_n hx hb dX10_mark_110 rfl (lv_at hl 3 rfl) ?_
  refine lv_iconst (v := 2) hx hb dX10_mark_111 (by decide) ?_
  obtain ⟨z10, hz10, hE⟩ := Option.bind_eq_some_iff.mp hE
  refine r_callI (va_runS (As := [.int x3, .int 2]) (rest := [.int (y1 + y0)]) ⟨hx, hb, hml, hown, hts⟩ (sX10_has l b0 D cA hz10) (va_cwS 2 hts gX10_mark_X10_has rfl rfl rfl (by decide +kernel) (rm_ok (by decide) (by decide))) (pre_S hK hH) rfl rfl hl.1 rfl (lv_room (Nat.le_of_ble_eq_true rfl)) dX10_mark_112 ⟨Nat.zero_le _, Nat.zero_le _⟩) hS (fun H locs hH hS => ?_)
  refine lv_if_eq (tgt := 130) hx hb dX10_mark_115 (by decide) (fun c11 => ?_) (fun c11 => ?_)
  · rw [if_pos c11] at hE
    refine lv_iconst (v := 0) hx hb dX10_mark_130 (by decide) ?_
    exact sX10_mark_b131 (F := F) hC hE _ _ _ hH hS (lv_sub hl [1, 2, 3] rfl)
  · rw [if_neg c11] at hE
    refine lv_aload_n hx hb dX10_mark_118 rfl (lv_at hl 1 rfl) ?_
    obtain ⟨v23, hv23, hE⟩ := Option.bind_eq_some_iff.mp hE
    refine r_gR 16 (C := RX10) (T := TX10) (N := 26) (ci := 9) hx hb hts (by decide +kernel) hown hK hH hv23 rfl (by decide) (hts (.fieldLink RX10 38 "KindStreetsModel" "now" "[I") (by decide +kernel)) (fun _ h9 => h9) dX10_mark_119 ?_
    refine lv_bipush (v := 10) hx hb dX10_mark_122 (by decide) ?_
    refine lv_iload_n hx hb dX10_mark_124 rfl (lv_at hl 2 rfl) ?_
    refine lv_iadd hx hb dX10_mark_125 ?_
    obtain ⟨v24, hv24, hE⟩ := Option.bind_eq_some_iff.mp hE
    refine r_iald hx hb hK hH hv24 dX10_mark_126 ?_
    refine lv_goto (tgt := 131) hx hb dX10_mark_127 (by decide) ?_
    exact sX10_mark_b131 (F := F) hC hE _ _ _ hH hS (lv_sub hl [1, 2, 3] rfl)
def fX10_mark_b58 (F : Nat) (k31 : Nat → Int32 → Int32 → Int64 → Int32 → HL → Option (Int32 × HL)) (a0 : Nat) (x2 : Int32) (x3 : Int32) (x4 : Int64) (x6 : Int32) (y0 : Int64) (y1 : Int64) (y2 : Nat) (L : HL) : Option (Int32 × HL) := (o_p L y2 9 25 (.long (y1 + y0))).bind fun L30 => k31 a0 x2 x3 (x4 * 10) (x6 + 1) L30
set_option maxHeartbeats 4000000 in
set_option maxRecDepth 100000 in
theorem sX10_mark_b58 {b0 : Nat} {D : va_G} {cA : Nat → ClassId} {p : Program} {l : Launch} {ev : Env} {s : State} {m : MethodId} {args : Array Value} {below : List Frame} {meth : Method} {c : Code} {F : Nat} {z : (Int32 × HL)} {k31 : Nat → Int32 → Int32 → Int64 → Int32 → HL → Option (Int32 × HL)} {a0 : Nat} {x2 : Int32} {x3 : Int32} {x4 : Int64} {x6 : Int32} {y0 : Int64} {y1 : Int64} {y2 : Nat} {L : HL} (hC : Cx D cA p s m args meth c cX10_mark 8 RX10 wsX10_mark (some .int)) (hk31 : ∀ (a0' : Nat) (x2' : Int32) (x3' : Int32) (x4' : Int64) (x6' : Int32) (L' : HL), k31 a0' x2' x3' x4' x6' L' = some z → WB b0 D cA p l ev (RM 2 0 0) s m args below meth c 8 0 0 (MQ below (Qk b0 D cA (some (.int z.1)) z.2) args s 0 0 (Ab b0)) 31 [(0, .ref (b0 + a0')), (2, .int x2'), (3, .int x3'), (4, .long x4'), (6, .int x6')] [] L') (hE : fX10_mark_b58 F k31 a0 x2 x3 x4 x6 y0 y1 y2 L = some z) : WB b0 D cA p l ev (RM 2 0 0) s m args below meth c 8 0 0 (MQ below (Qk b0 D cA (some (.int z.1)) z.2) args s 0 0 (Ab b0)) 58 [(0, .ref (b0 + a0)), (2, .int x2), (3, .int x3), (4, .long x4), (6, .int x6)] [.long y0, .long y1, .ref (b0 + y2)] L := by
  obtain ⟨hx, hb, hml, hown, hts, hK, hr, hlocks⟩ := id hC
  intro H locs ls hH hS hl
  unfold fX10_mark_b58 at hE
  refine lv_ladd hx hb dX10_mark_58 ?_
  obtain ⟨L30, hL30, hE⟩ := Option.bind_eq_some_iff.mp hE
  refine r_p 25 (v := .long (y1 + y0)) (ty := .long) (C := RX10) (T := TX10) (N := 26) (ci := 9) hx hb hts (by decide +kernel) tyX10 tyX10_ok nmX10 hown hK hH hS hL30 rfl (by decide) (hts (.fieldLink RX10 186 "KindStreetsModel" "trace" "J") (by decide +kernel)) (fun _ h9 => h9) rfl (by decide +kernel) rfl rfl dX10_mark_59 (fun H locs hH hS => ?_)
  refine lv_lload hx hb dX10_mark_62 (lv_at hl 3 rfl) ?_
  refine lv_ldc2 hx hb hown (hts (.constantLong RX10 190 (10)) (by decide +kernel)) dX10_mark_64 ?_
  refine lv_lmul hx hb dX10_mark_67 ?_
  refine lv_lstore (lv' := [(4, .long (x4 * 10)), (0, .ref (b0 + a0)), (2, .int x2), (3, .int x3), (6, .int x6)]) hx hb dX10_mark_68 hl (by decide) rfl (fun ls hl => ?_)
  refine lv_iinc (v := (x6 + 1)) (lv' := [(6, .int (x6 + 1)), (4, .long (x4 * 10)), (0, .ref (b0 + a0)), (2, .int x2), (3, .int x3)]) hx hb dX10_mark_70 hl (k := 4) rfl rfl (by decide) rfl (fun ls hl => ?_)
  refine lv_goto (tgt := 31) hx hb dX10_mark_73 (by decide) ?_
  exact hk31 _ _ _ _ _ _ hE _ _ _ hH hS (lv_sub hl [2, 3, 4, 1, 0] rfl)
def fX10_mark_b31c (F : Nat) (k31 : Nat → Int32 → Int32 → Int64 → Int32 → HL → Option (Int32 × HL)) (a0 : Nat) (x2 : Int32) (x3 : Int32) (x4 : Int64) (x6 : Int32) (L : HL) : Option (Int32 × HL) := if 6 ≤ x6 then ((fX10_widthOf F L a0 x2).bind fun z7 => (fX10_has F z7.2 x3 1).bind fun z8 => if z8.1 = 0 then (fX10_mark_b105 F a0 x2 x3 0 z7.1 z8.2) else ((fX10_livingIn F z8.2 a0 x2).bind fun z25 => (fX10_bitsOf F z25.2 z25.1).bind fun z26 => fX10_mark_b105 F a0 x2 x3 z26.1 z7.1 z26.2)) else ((o_gJ L a0 9 25).bind fun v27 => (fX10_has F L x3 x6).bind fun z28 => if z28.1 = 0 then (fX10_mark_b58 F k31 a0 x2 x3 x4 x6 0 v27 a0 z28.2) else (fX10_mark_b58 F k31 a0 x2 x3 x4 x6 x4 v27 a0 z28.2))
def fX10_mark_b31 (F : Nat) : Nat → Nat → Int32 → Int32 → Int64 → Int32 → HL → Option (Int32 × HL)
  | 0 => fun _ _ _ _ _ _ => none
  | n + 1 => fun a0 x2 x3 x4 x6 L => fX10_mark_b31c F (fX10_mark_b31 F n) a0 x2 x3 x4 x6 L
set_option maxHeartbeats 4000000 in
set_option maxRecDepth 100000 in
theorem sX10_mark_b31c {b0 : Nat} {D : va_G} {cA : Nat → ClassId} {p : Program} {l : Launch} {ev : Env} {s : State} {m : MethodId} {args : Array Value} {below : List Frame} {meth : Method} {c : Code} {F : Nat} {z : (Int32 × HL)} {k31 : Nat → Int32 → Int32 → Int64 → Int32 → HL → Option (Int32 × HL)} {a0 : Nat} {x2 : Int32} {x3 : Int32} {x4 : Int64} {x6 : Int32} {L : HL} (hC : Cx D cA p s m args meth c cX10_mark 8 RX10 wsX10_mark (some .int)) (hk31 : ∀ (a0' : Nat) (x2' : Int32) (x3' : Int32) (x4' : Int64) (x6' : Int32) (L' : HL), k31 a0' x2' x3' x4' x6' L' = some z → WB b0 D cA p l ev (RM 2 0 0) s m args below meth c 8 0 0 (MQ below (Qk b0 D cA (some (.int z.1)) z.2) args s 0 0 (Ab b0)) 31 [(0, .ref (b0 + a0')), (2, .int x2'), (3, .int x3'), (4, .long x4'), (6, .int x6')] [] L') (hE : fX10_mark_b31c F k31 a0 x2 x3 x4 x6 L = some z) : WB b0 D cA p l ev (RM 2 0 0) s m args below meth c 8 0 0 (MQ below (Qk b0 D cA (some (.int z.1)) z.2) args s 0 0 (Ab b0)) 31 [(0, .ref (b0 + a0)), (2, .int x2), (3, .int x3), (4, .long x4), (6, .int x6)] [] L := by
  obtain ⟨hx, hb, hml, hown, hts, hK, hr, hlocks⟩ := id hC
  intro H locs ls hH hS hl
  unfold fX10_mark_b31c at hE
  refine lv_iload hx hb dX10_mark_31 (lv_at hl 4 rfl) ?_
  refine lv_bipush (v := 6) hx hb dX10_mark_33 (by decide) ?_
  refine lv_icmp_ge (tgt := 76) hx hb dX10_mark_35 (by decide) (fun c6 => ?_) (fun c6 => ?_)
  · rw [if_pos c6] at hE
    refine lv_aload_n hx hb dX10_mark_76 rfl (lv_at hl 0 rfl) ?_
    refine lv_iload_n hx hb dX10_mark_77 rfl (lv_at hl 1 rfl) ?_
    obtain ⟨z7, hz7, hE⟩ := Option.bind_eq_some_iff.mp hE
    refine r_callI (va_runV (As := [.int x2]) (rest := []) ⟨hx, hb, hml, hown, hts⟩ (sX10_widthOf l b0 D cA hz7) (cwV 1 hts gX10_mark_X10_widthOf rfl rfl rfl (by decide +kernel) (rm_ok (by decide) (by decide))) (pre_V (ci := 9) hK hH (oX10_widthOf hz7) rfl) rfl rfl hl.1 rfl (lv_room (Nat.le_of_ble_eq_true rfl)) dX10_mark_78 ⟨Nat.zero_le _, Nat.zero_le _⟩) hS (fun H locs hH hS => ?_)
    refine lv_istore (lv' := [(6, .int z7.1), (0, .ref (b0 + a0)), (2, .int x2), (3, .int x3), (4, .long x4)]) hx hb dX10_mark_81 hl (by decide) rfl (fun ls hl => ?_)
    refine lv_iload hx hb dX10_mark_83 (lv_at hl 0 rfl) ?_
    refine lv_iload_n hx hb dX10_mark_85 rfl (lv_at hl 3 rfl) ?_
    refine lv_iconst (v := 1) hx hb dX10_mark_86 (by decide) ?_
    obtain ⟨z8, hz8, hE⟩ := Option.bind_eq_some_iff.mp hE
    refine r_callI (va_runS (As := [.int x3, .int 1]) (rest := [.int z7.1]) ⟨hx, hb, hml, hown, hts⟩ (sX10_has l b0 D cA hz8) (va_cwS 2 hts gX10_mark_X10_has rfl rfl rfl (by decide +kernel) (rm_ok (by decide) (by decide))) (pre_S hK hH) rfl rfl hl.1 rfl (lv_room (Nat.le_of_ble_eq_true rfl)) dX10_mark_87 ⟨Nat.zero_le _, Nat.zero_le _⟩) hS (fun H locs hH hS => ?_)
    refine lv_if_eq (tgt := 104) hx hb dX10_mark_90 (by decide) (fun c9 => ?_) (fun c9 => ?_)
    · rw [if_pos c9] at hE
      refine lv_iconst (v := 0) hx hb dX10_mark_104 (by decide) ?_
      exact sX10_mark_b105 (F := F) hC hE _ _ _ hH hS (lv_sub hl [1, 2, 3] rfl)
    · rw [if_neg c9] at hE
      refine lv_aload_n hx hb dX10_mark_93 rfl (lv_at hl 1 rfl) ?_
      refine lv_iload_n hx hb dX10_mark_94 rfl (lv_at hl 2 rfl) ?_
      obtain ⟨z25, hz25, hE⟩ := Option.bind_eq_some_iff.mp hE
      refine r_callI (va_runV (As := [.int x2]) (rest := [.int z7.1]) ⟨hx, hb, hml, hown, hts⟩ (sX10_livingIn l b0 D cA hz25) (cwV 1 hts gX10_mark_X10_livingIn rfl rfl rfl (by decide +kernel) (rm_ok (by decide) (by decide))) (pre_V (ci := 9) hK hH (oX10_livingIn hz25) rfl) rfl rfl hl.1 rfl (lv_room (Nat.le_of_ble_eq_true rfl)) dX10_mark_95 ⟨Nat.zero_le _, Nat.zero_le _⟩) hS (fun H locs hH hS => ?_)
      obtain ⟨z26, hz26, hE⟩ := Option.bind_eq_some_iff.mp hE
      refine r_callI (va_runS (As := [.int z25.1]) (rest := [.int z7.1]) ⟨hx, hb, hml, hown, hts⟩ (sX10_bitsOf l b0 D cA hz26) (va_cwS 1 hts gX10_mark_X10_bitsOf rfl rfl rfl (by decide +kernel) (rm_ok (by decide) (by decide))) (pre_S hK hH) rfl rfl hl.1 rfl (lv_room (Nat.le_of_ble_eq_true rfl)) dX10_mark_98 ⟨Nat.zero_le _, Nat.zero_le _⟩) hS (fun H locs hH hS => ?_)
      refine lv_goto (tgt := 105) hx hb dX10_mark_101 (by decide) ?_
      exact sX10_mark_b105 (F := F) hC hE _ _ _ hH hS (lv_sub hl [1, 2, 3] rfl)
  · rw [if_neg c6] at hE
    refine lv_aload_n hx hb dX10_mark_38 rfl (lv_at hl 0 rfl) ?_
    refine lv_dup hx hb dX10_mark_39 rfl ?_
    obtain ⟨v27, hv27, hE⟩ := Option.bind_eq_some_iff.mp hE
    refine r_gJ 25 (C := RX10) (T := TX10) (N := 26) (ci := 9) hx hb hts (by decide +kernel) hown hK hH hv27 rfl (by decide) (hts (.fieldLink RX10 186 "KindStreetsModel" "trace" "J") (by decide +kernel)) (fun _ h9 => h9) dX10_mark_40 ?_
    refine lv_iload_n hx hb dX10_mark_43 rfl (lv_at hl 2 rfl) ?_
    refine lv_iload hx hb dX10_mark_44 (lv_at hl 4 rfl) ?_
    obtain ⟨z28, hz28, hE⟩ := Option.bind_eq_some_iff.mp hE
    refine r_callI (va_runS (As := [.int x3, .int x6]) (rest := [.long v27, .ref (b0 + a0)]) ⟨hx, hb, hml, hown, hts⟩ (sX10_has l b0 D cA hz28) (va_cwS 2 hts gX10_mark_X10_has rfl rfl rfl (by decide +kernel) (rm_ok (by decide) (by decide))) (pre_S hK hH) rfl rfl hl.1 rfl (lv_room (Nat.le_of_ble_eq_true rfl)) dX10_mark_46 ⟨Nat.zero_le _, Nat.zero_le _⟩) hS (fun H locs hH hS => ?_)
    refine lv_if_eq (tgt := 57) hx hb dX10_mark_49 (by decide) (fun c29 => ?_) (fun c29 => ?_)
    · rw [if_pos c29] at hE
      refine lv_lconst (v := 0) hx hb dX10_mark_57 (by decide) ?_
      exact sX10_mark_b58 (F := F) hC hk31 hE _ _ _ hH hS (lv_sub hl [0, 1, 2, 3, 4] rfl)
    · rw [if_neg c29] at hE
      refine lv_lload hx hb dX10_mark_52 (lv_at hl 3 rfl) ?_
      refine lv_goto (tgt := 58) hx hb dX10_mark_54 (by decide) ?_
      exact sX10_mark_b58 (F := F) hC hk31 hE _ _ _ hH hS (lv_sub hl [0, 1, 2, 3, 4] rfl)
theorem sX10_mark_b31 {b0 : Nat} {D : va_G} {cA : Nat → ClassId} {p : Program} {l : Launch} {ev : Env} {s : State} {m : MethodId} {args : Array Value} {below : List Frame} {meth : Method} {c : Code} {F : Nat} {z : (Int32 × HL)} (hC : Cx D cA p s m args meth c cX10_mark 8 RX10 wsX10_mark (some .int)) : ∀ (n : Nat) (a0 : Nat) (x2 : Int32) (x3 : Int32) (x4 : Int64) (x6 : Int32) (L : HL), fX10_mark_b31 F n a0 x2 x3 x4 x6 L = some z → WB b0 D cA p l ev (RM 2 0 0) s m args below meth c 8 0 0 (MQ below (Qk b0 D cA (some (.int z.1)) z.2) args s 0 0 (Ab b0)) 31 [(0, .ref (b0 + a0)), (2, .int x2), (3, .int x3), (4, .long x4), (6, .int x6)] [] L := by
  intro n
  induction n with
  | zero => intro a0 x2 x3 x4 x6 L hE; cases hE
  | succ n ih => intro a0 x2 x3 x4 x6 L hE; exact sX10_mark_b31c (F := F) hC ih hE
def fX10_mark (F : Nat) (L : HL) (a0 : Nat) (x1 : Int32) (x2 : Int32) : Option (Int32 × HL) := (o_ob L a0 9).bind fun _ => (fX10_in F L x1 0 5).bind fun z1 => if z1.1 = 0 then (fX10_mark_b17 F z1.2) else ((fX10_isStreet F z1.2 a0 x2).bind fun z3 => if z3.1 = 0 then (fX10_mark_b17 F z3.2) else ((fX10_bodiesOf F z3.2 x1).bind fun z5 => fX10_mark_b31 F F a0 x2 z5.1 1 0 z5.2))
theorem oX10_mark {F : Nat} {L : HL} {a0 : Nat} {x1 : Int32} {x2 : Int32} {z : (Int32 × HL)} (hE : fX10_mark F L a0 x1 x2 = some z) : o_ob L a0 9 = some () := by
  obtain ⟨_, h, _⟩ := Option.bind_eq_some_iff.mp hE
  exact h
set_option maxHeartbeats 4000000 in
set_option maxRecDepth 100000 in
theorem sX10_mark (l : Launch) (b0 : Nat) (D : va_G) (cA : Nat → ClassId) {F : Nat} {L : HL} {a0 : Nat} {x1 : Int32} {x2 : Int32} {z : (Int32 × HL)} (hE : fX10_mark F L a0 x1 x2 = some z) : Met l yX10_mark wsX10_mark (RM 2 0 0) (Pk b0 D cA [.ref (b0 + a0), .int x1, .int x2] L) (Qk b0 D cA (some (.int z.1)) z.2) 0 0 (Ab b0) := by
  refine Met.ofW (cc := cX10_mark) (maxL := 8) (ret := (some .int)) (by decide) rfl ?_
  intro p ev s m args below meth c s₁ B hml hv
  obtain ⟨rfl, hH, hK⟩ := hv
  have hx := B.exec
  have hb := B.bytes
  have hr := B.returns
  have hts := atoms_spec (ws := wsX10_mark) B.pre
  have hown : s.vm.findClass RX10 = some m.cls := findClass_of_methodNamed B.named
  have hlocks := B.notSynchronized
  have hC : Cx D cA p s m _ meth c cX10_mark 8 RX10 wsX10_mark (some .int) := ⟨hx, hb, hml, hown, hts, hK, hr, hlocks⟩
  have hS : va_S (Ab b0) s.heap s.heap [] := va_S.rf
  have hl := lv_entry ([.ref (b0 + a0), .int x1, .int x2]) (n := 8) (Nat.le_of_ble_eq_true rfl)
  rw [lg_entry_eq]
  generalize (lg_sl ([.ref (b0 + a0), .int x1, .int x2]) ++ List.replicate (8 - (lg_sl ([.ref (b0 + a0), .int x1, .int x2])).length) Slot.unset).toArray = ls at hl ⊢
  have hl : lv_has ls 8 [(0, .ref (b0 + a0)), (1, .int x1), (2, .int x2)] := hl
  unfold fX10_mark at hE
  obtain ⟨_, _, hE⟩ := Option.bind_eq_some_iff.mp hE
  refine lv_iload_n hx hb dX10_mark_0 rfl (lv_at hl 1 rfl) ?_
  refine lv_iconst (v := 0) hx hb dX10_mark_1 (by decide) ?_
  refine lv_iconst (v := 5) hx hb dX10_mark_2 (by decide) ?_
  obtain ⟨z1, hz1, hE⟩ := Option.bind_eq_some_iff.mp hE
  refine r_callI (va_runS (As := [.int x1, .int 0, .int 5]) (rest := []) ⟨hx, hb, hml, hown, hts⟩ (sX10_in l b0 D cA hz1) (va_cwS 3 hts gX10_mark_X10_in rfl rfl rfl (by decide +kernel) (rm_ok (by decide) (by decide))) (pre_S hK hH) rfl rfl hl.1 rfl (lv_room (Nat.le_of_ble_eq_true rfl)) dX10_mark_3 ⟨Nat.zero_le _, Nat.zero_le _⟩) hS (fun H locs hH hS => ?_)
  refine lv_if_eq (tgt := 17) hx hb dX10_mark_6 (by decide) (fun c2 => ?_) (fun c2 => ?_)
  · rw [if_pos c2] at hE
    exact sX10_mark_b17 (F := F) hC hE _ _ _ hH hS (lv_sub hl [] rfl)
  · rw [if_neg c2] at hE
    refine lv_aload_n hx hb dX10_mark_9 rfl (lv_at hl 0 rfl) ?_
    refine lv_iload_n hx hb dX10_mark_10 rfl (lv_at hl 2 rfl) ?_
    obtain ⟨z3, hz3, hE⟩ := Option.bind_eq_some_iff.mp hE
    refine r_callI (va_runV (As := [.int x2]) (rest := []) ⟨hx, hb, hml, hown, hts⟩ (sX10_isStreet l b0 D cA hz3) (cwV 1 hts gX10_mark_X10_isStreet rfl rfl rfl (by decide +kernel) (rm_ok (by decide) (by decide))) (pre_V (ci := 9) hK hH (oX10_isStreet hz3) rfl) rfl rfl hl.1 rfl (lv_room (Nat.le_of_ble_eq_true rfl)) dX10_mark_11 ⟨Nat.zero_le _, Nat.zero_le _⟩) hS (fun H locs hH hS => ?_)
    refine lv_if_ne (tgt := 20) hx hb dX10_mark_14 (by decide) (fun c4 => ?_) (fun c4 => ?_)
    · rw [if_neg c4] at hE
      refine lv_iload_n hx hb dX10_mark_20 rfl (lv_at hl 1 rfl) ?_
      obtain ⟨z5, hz5, hE⟩ := Option.bind_eq_some_iff.mp hE
      refine r_callI (va_runS (As := [.int x1]) (rest := []) ⟨hx, hb, hml, hown, hts⟩ (sX10_bodiesOf l b0 D cA hz5) (va_cwS 1 hts gX10_mark_X10_bodiesOf rfl rfl rfl (by decide +kernel) (rm_ok (by decide) (by decide))) (pre_S hK hH) rfl rfl hl.1 rfl (lv_room (Nat.le_of_ble_eq_true rfl)) dX10_mark_21 ⟨Nat.zero_le _, Nat.zero_le _⟩) hS (fun H locs hH hS => ?_)
      refine lv_istore_n (lv' := [(3, .int z5.1), (0, .ref (b0 + a0)), (1, .int x1), (2, .int x2)]) hx hb dX10_mark_24 rfl hl (by decide) rfl (fun ls hl => ?_)
      refine lv_lconst (v := 1) hx hb dX10_mark_25 (by decide) ?_
      refine lv_lstore (lv' := [(4, .long 1), (3, .int z5.1), (0, .ref (b0 + a0)), (1, .int x1), (2, .int x2)]) hx hb dX10_mark_26 hl (by decide) rfl (fun ls hl => ?_)
      refine lv_iconst (v := 0) hx hb dX10_mark_28 (by decide) ?_
      refine lv_istore (lv' := [(6, .int 0), (4, .long 1), (3, .int z5.1), (0, .ref (b0 + a0)), (1, .int x1), (2, .int x2)]) hx hb dX10_mark_29 hl (by decide) rfl (fun ls hl => ?_)
      exact sX10_mark_b31 (F := F) hC F _ _ _ _ _ _ hE _ _ _ hH hS (lv_sub hl [3, 5, 2, 1, 0] rfl)
    · rw [if_pos c4] at hE
      exact sX10_mark_b17 (F := F) hC hE _ _ _ hH hS (lv_sub hl [] rfl)
-- X10_trace
def fX10_trace (F : Nat) (L : HL) (a0 : Nat) : Option (Int64 × HL) := (o_ob L a0 9).bind fun _ => (o_gJ L a0 9 25).bind fun v1 => some (v1, L)
theorem oX10_trace {F : Nat} {L : HL} {a0 : Nat} {z : (Int64 × HL)} (hE : fX10_trace F L a0 = some z) : o_ob L a0 9 = some () := by
  obtain ⟨_, h, _⟩ := Option.bind_eq_some_iff.mp hE
  exact h
set_option maxHeartbeats 4000000 in
set_option maxRecDepth 100000 in
theorem sX10_trace (l : Launch) (b0 : Nat) (D : va_G) (cA : Nat → ClassId) {F : Nat} {L : HL} {a0 : Nat} {z : (Int64 × HL)} (hE : fX10_trace F L a0 = some z) : Met l yX10_trace wsX10_trace (RM 0 0 0) (Pk b0 D cA [.ref (b0 + a0)] L) (Qk b0 D cA (some (.long z.1)) z.2) 0 0 (Ab b0) := by
  refine Met.ofW (cc := cX10_trace) (maxL := 1) (ret := (some .long)) (by decide) rfl ?_
  intro p ev s m args below meth c s₁ B hml hv
  obtain ⟨rfl, hH, hK⟩ := hv
  have hx := B.exec
  have hb := B.bytes
  have hr := B.returns
  have hts := atoms_spec (ws := wsX10_trace) B.pre
  have hown : s.vm.findClass RX10 = some m.cls := findClass_of_methodNamed B.named
  have hlocks := B.notSynchronized
  have hC : Cx D cA p s m _ meth c cX10_trace 1 RX10 wsX10_trace (some .long) := ⟨hx, hb, hml, hown, hts, hK, hr, hlocks⟩
  have hS : va_S (Ab b0) s.heap s.heap [] := va_S.rf
  have hl := lv_entry ([.ref (b0 + a0)]) (n := 1) (Nat.le_of_ble_eq_true rfl)
  rw [lg_entry_eq]
  generalize (lg_sl ([.ref (b0 + a0)]) ++ List.replicate (1 - (lg_sl ([.ref (b0 + a0)])).length) Slot.unset).toArray = ls at hl ⊢
  have hl : lv_has ls 1 [(0, .ref (b0 + a0))] := hl
  unfold fX10_trace at hE
  obtain ⟨_, _, hE⟩ := Option.bind_eq_some_iff.mp hE
  refine lv_aload_n hx hb dX10_trace_0 rfl (lv_at hl 0 rfl) ?_
  obtain ⟨v1, hv1, hE⟩ := Option.bind_eq_some_iff.mp hE
  refine r_gJ 25 (C := RX10) (T := TX10) (N := 26) (ci := 9) hx hb hts (by decide +kernel) hown hK hH hv1 rfl (by decide) (hts (.fieldLink RX10 186 "KindStreetsModel" "trace" "J") (by decide +kernel)) (fun _ h9 => h9) dX10_trace_1 ?_
  have hZ := Option.some.inj hE
  subst hZ
  exact W.lret (v := v1) hx hb hr (fun t ht hW => ⟨rfl, by rw [ht]; exact hH, hS.F ht⟩) hS.2.2 dX10_trace_4
-- X10_keep
def fX10_keep_b44c (F : Nat) (k44 : Nat → Int32 → Int32 → HL → Option (Int32 × HL)) (a0 : Nat) (x1 : Int32) (x2 : Int32) (L : HL) : Option (Int32 × HL) := if 340 ≤ x2 then ((o_gR L a0 9 17).bind fun v5 => (o_gR L a0 9 17).bind fun v6 => (o_aI L v6 0 0).bind fun v7 => (o_sI L v5 0 (1 + x1) v7).bind fun L8 => (o_gR L8 a0 9 20).bind fun v9 => (o_sI L8 v9 2 x1 (vp_nar .boolean 1)).bind fun L10 => (o_gR L10 a0 9 16).bind fun v11 => (o_aI L10 v11 0 0).bind fun v12 => some (v12, L10)) else ((o_gR L a0 9 18).bind fun v13 => (o_gR L a0 9 18).bind fun v14 => (o_aI L v14 0 x2).bind fun v15 => (o_sI L v13 0 ((340 * (1 + x1)) + x2) v15).bind fun L16 => k44 a0 x1 (x2 + 1) L16)
def fX10_keep_b44 (F : Nat) : Nat → Nat → Int32 → Int32 → HL → Option (Int32 × HL)
  | 0 => fun _ _ _ _ => none
  | n + 1 => fun a0 x1 x2 L => fX10_keep_b44c F (fX10_keep_b44 F n) a0 x1 x2 L
set_option maxHeartbeats 4000000 in
set_option maxRecDepth 100000 in
theorem sX10_keep_b44c {b0 : Nat} {D : va_G} {cA : Nat → ClassId} {p : Program} {l : Launch} {ev : Env} {s : State} {m : MethodId} {args : Array Value} {below : List Frame} {meth : Method} {c : Code} {F : Nat} {z : (Int32 × HL)} {k44 : Nat → Int32 → Int32 → HL → Option (Int32 × HL)} {a0 : Nat} {x1 : Int32} {x2 : Int32} {L : HL} (hC : Cx D cA p s m args meth c cX10_keep 3 RX10 wsX10_keep (some .int)) (hk44 : ∀ (a0' : Nat) (x1' : Int32) (x2' : Int32) (L' : HL), k44 a0' x1' x2' L' = some z → WB b0 D cA p l ev (RM 1 0 0) s m args below meth c 3 0 0 (MQ below (Qk b0 D cA (some (.int z.1)) z.2) args s 0 0 (Ab b0)) 44 [(0, .ref (b0 + a0')), (1, .int x1'), (2, .int x2')] [] L') (hE : fX10_keep_b44c F k44 a0 x1 x2 L = some z) : WB b0 D cA p l ev (RM 1 0 0) s m args below meth c 3 0 0 (MQ below (Qk b0 D cA (some (.int z.1)) z.2) args s 0 0 (Ab b0)) 44 [(0, .ref (b0 + a0)), (1, .int x1), (2, .int x2)] [] L := by
  obtain ⟨hx, hb, hml, hown, hts, hK, hr, hlocks⟩ := id hC
  intro H locs ls hH hS hl
  unfold fX10_keep_b44c at hE
  refine lv_iload_n hx hb dX10_keep_44 rfl (lv_at hl 2 rfl) ?_
  refine lv_sipush (v := 340) hx hb dX10_keep_45 (by decide) ?_
  refine lv_icmp_ge (tgt := 77) hx hb dX10_keep_48 (by decide) (fun c4 => ?_) (fun c4 => ?_)
  · rw [if_pos c4] at hE
    refine lv_aload_n hx hb dX10_keep_77 rfl (lv_at hl 0 rfl) ?_
    obtain ⟨v5, hv5, hE⟩ := Option.bind_eq_some_iff.mp hE
    refine r_gR 17 (C := RX10) (T := TX10) (N := 26) (ci := 9) hx hb hts (by decide +kernel) hown hK hH hv5 rfl (by decide) (hts (.fieldLink RX10 41 "KindStreetsModel" "known" "[I") (by decide +kernel)) (fun _ h9 => h9) dX10_keep_78 ?_
    refine lv_iconst (v := 1) hx hb dX10_keep_81 (by decide) ?_
    refine lv_iload_n hx hb dX10_keep_82 rfl (lv_at hl 1 rfl) ?_
    refine lv_iadd hx hb dX10_keep_83 ?_
    refine lv_aload_n hx hb dX10_keep_84 rfl (lv_at hl 0 rfl) ?_
    obtain ⟨v6, hv6, hE⟩ := Option.bind_eq_some_iff.mp hE
    refine r_gR 17 (C := RX10) (T := TX10) (N := 26) (ci := 9) hx hb hts (by decide +kernel) hown hK hH hv6 rfl (by decide) (hts (.fieldLink RX10 41 "KindStreetsModel" "known" "[I") (by decide +kernel)) (fun _ h9 => h9) dX10_keep_85 ?_
    refine lv_iconst (v := 0) hx hb dX10_keep_88 (by decide) ?_
    obtain ⟨v7, hv7, hE⟩ := Option.bind_eq_some_iff.mp hE
    refine r_iald hx hb hK hH hv7 dX10_keep_89 ?_
    obtain ⟨L8, hL8, hE⟩ := Option.bind_eq_some_iff.mp hE
    refine r_iast hx hb hK hH hS hL8 dX10_keep_90 (fun H locs hH hS => ?_)
    refine lv_aload_n hx hb dX10_keep_91 rfl (lv_at hl 0 rfl) ?_
    obtain ⟨v9, hv9, hE⟩ := Option.bind_eq_some_iff.mp hE
    refine r_gR 20 (C := RX10) (T := TX10) (N := 26) (ci := 9) hx hb hts (by decide +kernel) hown hK hH hv9 rfl (by decide) (hts (.fieldLink RX10 50 "KindStreetsModel" "isKept" "[Z") (by decide +kernel)) (fun _ h9 => h9) dX10_keep_92 ?_
    refine lv_iload_n hx hb dX10_keep_95 rfl (lv_at hl 1 rfl) ?_
    refine lv_iconst (v := 1) hx hb dX10_keep_96 (by decide) ?_
    obtain ⟨L10, hL10, hE⟩ := Option.bind_eq_some_iff.mp hE
    refine r_zast hx hb hK hH hS hL10 dX10_keep_97 (fun H locs hH hS => ?_)
    refine lv_aload_n hx hb dX10_keep_98 rfl (lv_at hl 0 rfl) ?_
    obtain ⟨v11, hv11, hE⟩ := Option.bind_eq_some_iff.mp hE
    refine r_gR 16 (C := RX10) (T := TX10) (N := 26) (ci := 9) hx hb hts (by decide +kernel) hown hK hH hv11 rfl (by decide) (hts (.fieldLink RX10 38 "KindStreetsModel" "now" "[I") (by decide +kernel)) (fun _ h9 => h9) dX10_keep_99 ?_
    refine lv_iconst (v := 0) hx hb dX10_keep_102 (by decide) ?_
    obtain ⟨v12, hv12, hE⟩ := Option.bind_eq_some_iff.mp hE
    refine r_iald hx hb hK hH hv12 dX10_keep_103 ?_
    have hZ := Option.some.inj hE
    subst hZ
    exact W.iret (v := v12) hx hb hr (fun t ht hW => ⟨rfl, by rw [ht]; exact hH, hS.F ht⟩) hS.2.2 dX10_keep_104
  · rw [if_neg c4] at hE
    refine lv_aload_n hx hb dX10_keep_51 rfl (lv_at hl 0 rfl) ?_
    obtain ⟨v13, hv13, hE⟩ := Option.bind_eq_some_iff.mp hE
    refine r_gR 18 (C := RX10) (T := TX10) (N := 26) (ci := 9) hx hb hts (by decide +kernel) hown hK hH hv13 rfl (by decide) (hts (.fieldLink RX10 44 "KindStreetsModel" "before" "[I") (by decide +kernel)) (fun _ h9 => h9) dX10_keep_52 ?_
    refine lv_sipush (v := 340) hx hb dX10_keep_55 (by decide) ?_
    refine lv_iconst (v := 1) hx hb dX10_keep_58 (by decide) ?_
    refine lv_iload_n hx hb dX10_keep_59 rfl (lv_at hl 1 rfl) ?_
    refine lv_iadd hx hb dX10_keep_60 ?_
    refine lv_imul hx hb dX10_keep_61 ?_
    refine lv_iload_n hx hb dX10_keep_62 rfl (lv_at hl 2 rfl) ?_
    refine lv_iadd hx hb dX10_keep_63 ?_
    refine lv_aload_n hx hb dX10_keep_64 rfl (lv_at hl 0 rfl) ?_
    obtain ⟨v14, hv14, hE⟩ := Option.bind_eq_some_iff.mp hE
    refine r_gR 18 (C := RX10) (T := TX10) (N := 26) (ci := 9) hx hb hts (by decide +kernel) hown hK hH hv14 rfl (by decide) (hts (.fieldLink RX10 44 "KindStreetsModel" "before" "[I") (by decide +kernel)) (fun _ h9 => h9) dX10_keep_65 ?_
    refine lv_iload_n hx hb dX10_keep_68 rfl (lv_at hl 2 rfl) ?_
    obtain ⟨v15, hv15, hE⟩ := Option.bind_eq_some_iff.mp hE
    refine r_iald hx hb hK hH hv15 dX10_keep_69 ?_
    obtain ⟨L16, hL16, hE⟩ := Option.bind_eq_some_iff.mp hE
    refine r_iast hx hb hK hH hS hL16 dX10_keep_70 (fun H locs hH hS => ?_)
    refine lv_iinc (v := (x2 + 1)) (lv' := [(2, .int (x2 + 1)), (0, .ref (b0 + a0)), (1, .int x1)]) hx hb dX10_keep_71 hl (k := 2) rfl rfl (by decide) rfl (fun ls hl => ?_)
    refine lv_goto (tgt := 44) hx hb dX10_keep_74 (by decide) ?_
    exact hk44 _ _ _ _ hE _ _ _ hH hS (lv_sub hl [1, 2, 0] rfl)
theorem sX10_keep_b44 {b0 : Nat} {D : va_G} {cA : Nat → ClassId} {p : Program} {l : Launch} {ev : Env} {s : State} {m : MethodId} {args : Array Value} {below : List Frame} {meth : Method} {c : Code} {F : Nat} {z : (Int32 × HL)} (hC : Cx D cA p s m args meth c cX10_keep 3 RX10 wsX10_keep (some .int)) : ∀ (n : Nat) (a0 : Nat) (x1 : Int32) (x2 : Int32) (L : HL), fX10_keep_b44 F n a0 x1 x2 L = some z → WB b0 D cA p l ev (RM 1 0 0) s m args below meth c 3 0 0 (MQ below (Qk b0 D cA (some (.int z.1)) z.2) args s 0 0 (Ab b0)) 44 [(0, .ref (b0 + a0)), (1, .int x1), (2, .int x2)] [] L := by
  intro n
  induction n with
  | zero => intro a0 x1 x2 L hE; cases hE
  | succ n ih => intro a0 x1 x2 L hE; exact sX10_keep_b44c (F := F) hC ih hE
def fX10_keep_b13c (F : Nat) (k13 : Nat → Int32 → Int32 → HL → Option (Int32 × HL)) (a0 : Nat) (x1 : Int32) (x2 : Int32) (L : HL) : Option (Int32 × HL) := if 34 ≤ x2 then (fX10_keep_b44 F F a0 x1 0 L) else ((o_gR L a0 9 19).bind fun v17 => (o_gR L a0 9 16).bind fun v18 => (o_aI L v18 0 x2).bind fun v19 => (o_sI L v17 0 ((34 * x1) + x2) v19).bind fun L20 => k13 a0 x1 (x2 + 1) L20)
def fX10_keep_b13 (F : Nat) : Nat → Nat → Int32 → Int32 → HL → Option (Int32 × HL)
  | 0 => fun _ _ _ _ => none
  | n + 1 => fun a0 x1 x2 L => fX10_keep_b13c F (fX10_keep_b13 F n) a0 x1 x2 L
set_option maxHeartbeats 4000000 in
set_option maxRecDepth 100000 in
theorem sX10_keep_b13c {b0 : Nat} {D : va_G} {cA : Nat → ClassId} {p : Program} {l : Launch} {ev : Env} {s : State} {m : MethodId} {args : Array Value} {below : List Frame} {meth : Method} {c : Code} {F : Nat} {z : (Int32 × HL)} {k13 : Nat → Int32 → Int32 → HL → Option (Int32 × HL)} {a0 : Nat} {x1 : Int32} {x2 : Int32} {L : HL} (hC : Cx D cA p s m args meth c cX10_keep 3 RX10 wsX10_keep (some .int)) (hk13 : ∀ (a0' : Nat) (x1' : Int32) (x2' : Int32) (L' : HL), k13 a0' x1' x2' L' = some z → WB b0 D cA p l ev (RM 1 0 0) s m args below meth c 3 0 0 (MQ below (Qk b0 D cA (some (.int z.1)) z.2) args s 0 0 (Ab b0)) 13 [(0, .ref (b0 + a0')), (1, .int x1'), (2, .int x2')] [] L') (hE : fX10_keep_b13c F k13 a0 x1 x2 L = some z) : WB b0 D cA p l ev (RM 1 0 0) s m args below meth c 3 0 0 (MQ below (Qk b0 D cA (some (.int z.1)) z.2) args s 0 0 (Ab b0)) 13 [(0, .ref (b0 + a0)), (1, .int x1), (2, .int x2)] [] L := by
  obtain ⟨hx, hb, hml, hown, hts, hK, hr, hlocks⟩ := id hC
  intro H locs ls hH hS hl
  unfold fX10_keep_b13c at hE
  refine lv_iload_n hx hb dX10_keep_13 rfl (lv_at hl 2 rfl) ?_
  refine lv_bipush (v := 34) hx hb dX10_keep_14 (by decide) ?_
  refine lv_icmp_ge (tgt := 42) hx hb dX10_keep_16 (by decide) (fun c3 => ?_) (fun c3 => ?_)
  · rw [if_pos c3] at hE
    refine lv_iconst (v := 0) hx hb dX10_keep_42 (by decide) ?_
    refine lv_istore_n (lv' := [(2, .int 0), (0, .ref (b0 + a0)), (1, .int x1)]) hx hb dX10_keep_43 rfl hl (by decide) rfl (fun ls hl => ?_)
    exact sX10_keep_b44 (F := F) hC F _ _ _ _ hE _ _ _ hH hS (lv_sub hl [1, 2, 0] rfl)
  · rw [if_neg c3] at hE
    refine lv_aload_n hx hb dX10_keep_19 rfl (lv_at hl 0 rfl) ?_
    obtain ⟨v17, hv17, hE⟩ := Option.bind_eq_some_iff.mp hE
    refine r_gR 19 (C := RX10) (T := TX10) (N := 26) (ci := 9) hx hb hts (by decide +kernel) hown hK hH hv17 rfl (by decide) (hts (.fieldLink RX10 47 "KindStreetsModel" "store" "[I") (by decide +kernel)) (fun _ h9 => h9) dX10_keep_20 ?_
    refine lv_bipush (v := 34) hx hb dX10_keep_23 (by decide) ?_
    refine lv_iload_n hx hb dX10_keep_25 rfl (lv_at hl 1 rfl) ?_
    refine lv_imul hx hb dX10_keep_26 ?_
    refine lv_iload_n hx hb dX10_keep_27 rfl (lv_at hl 2 rfl) ?_
    refine lv_iadd hx hb dX10_keep_28 ?_
    refine lv_aload_n hx hb dX10_keep_29 rfl (lv_at hl 0 rfl) ?_
    obtain ⟨v18, hv18, hE⟩ := Option.bind_eq_some_iff.mp hE
    refine r_gR 16 (C := RX10) (T := TX10) (N := 26) (ci := 9) hx hb hts (by decide +kernel) hown hK hH hv18 rfl (by decide) (hts (.fieldLink RX10 38 "KindStreetsModel" "now" "[I") (by decide +kernel)) (fun _ h9 => h9) dX10_keep_30 ?_
    refine lv_iload_n hx hb dX10_keep_33 rfl (lv_at hl 2 rfl) ?_
    obtain ⟨v19, hv19, hE⟩ := Option.bind_eq_some_iff.mp hE
    refine r_iald hx hb hK hH hv19 dX10_keep_34 ?_
    obtain ⟨L20, hL20, hE⟩ := Option.bind_eq_some_iff.mp hE
    refine r_iast hx hb hK hH hS hL20 dX10_keep_35 (fun H locs hH hS => ?_)
    refine lv_iinc (v := (x2 + 1)) (lv' := [(2, .int (x2 + 1)), (0, .ref (b0 + a0)), (1, .int x1)]) hx hb dX10_keep_36 hl (k := 2) rfl rfl (by decide) rfl (fun ls hl => ?_)
    refine lv_goto (tgt := 13) hx hb dX10_keep_39 (by decide) ?_
    exact hk13 _ _ _ _ hE _ _ _ hH hS (lv_sub hl [1, 2, 0] rfl)
theorem sX10_keep_b13 {b0 : Nat} {D : va_G} {cA : Nat → ClassId} {p : Program} {l : Launch} {ev : Env} {s : State} {m : MethodId} {args : Array Value} {below : List Frame} {meth : Method} {c : Code} {F : Nat} {z : (Int32 × HL)} (hC : Cx D cA p s m args meth c cX10_keep 3 RX10 wsX10_keep (some .int)) : ∀ (n : Nat) (a0 : Nat) (x1 : Int32) (x2 : Int32) (L : HL), fX10_keep_b13 F n a0 x1 x2 L = some z → WB b0 D cA p l ev (RM 1 0 0) s m args below meth c 3 0 0 (MQ below (Qk b0 D cA (some (.int z.1)) z.2) args s 0 0 (Ab b0)) 13 [(0, .ref (b0 + a0)), (1, .int x1), (2, .int x2)] [] L := by
  intro n
  induction n with
  | zero => intro a0 x1 x2 L hE; cases hE
  | succ n ih => intro a0 x1 x2 L hE; exact sX10_keep_b13c (F := F) hC ih hE
def fX10_keep (F : Nat) (L : HL) (a0 : Nat) (x1 : Int32) : Option (Int32 × HL) := (o_ob L a0 9).bind fun _ => (fX10_in F L x1 0 1).bind fun z1 => if z1.1 = 0 then (some ((-1), z1.2)) else (fX10_keep_b13 F F a0 x1 0 z1.2)
theorem oX10_keep {F : Nat} {L : HL} {a0 : Nat} {x1 : Int32} {z : (Int32 × HL)} (hE : fX10_keep F L a0 x1 = some z) : o_ob L a0 9 = some () := by
  obtain ⟨_, h, _⟩ := Option.bind_eq_some_iff.mp hE
  exact h
set_option maxHeartbeats 4000000 in
set_option maxRecDepth 100000 in
theorem sX10_keep (l : Launch) (b0 : Nat) (D : va_G) (cA : Nat → ClassId) {F : Nat} {L : HL} {a0 : Nat} {x1 : Int32} {z : (Int32 × HL)} (hE : fX10_keep F L a0 x1 = some z) : Met l yX10_keep wsX10_keep (RM 1 0 0) (Pk b0 D cA [.ref (b0 + a0), .int x1] L) (Qk b0 D cA (some (.int z.1)) z.2) 0 0 (Ab b0) := by
  refine Met.ofW (cc := cX10_keep) (maxL := 3) (ret := (some .int)) (by decide) rfl ?_
  intro p ev s m args below meth c s₁ B hml hv
  obtain ⟨rfl, hH, hK⟩ := hv
  have hx := B.exec
  have hb := B.bytes
  have hr := B.returns
  have hts := atoms_spec (ws := wsX10_keep) B.pre
  have hown : s.vm.findClass RX10 = some m.cls := findClass_of_methodNamed B.named
  have hlocks := B.notSynchronized
  have hC : Cx D cA p s m _ meth c cX10_keep 3 RX10 wsX10_keep (some .int) := ⟨hx, hb, hml, hown, hts, hK, hr, hlocks⟩
  have hS : va_S (Ab b0) s.heap s.heap [] := va_S.rf
  have hl := lv_entry ([.ref (b0 + a0), .int x1]) (n := 3) (Nat.le_of_ble_eq_true rfl)
  rw [lg_entry_eq]
  generalize (lg_sl ([.ref (b0 + a0), .int x1]) ++ List.replicate (3 - (lg_sl ([.ref (b0 + a0), .int x1])).length) Slot.unset).toArray = ls at hl ⊢
  have hl : lv_has ls 3 [(0, .ref (b0 + a0)), (1, .int x1)] := hl
  unfold fX10_keep at hE
  obtain ⟨_, _, hE⟩ := Option.bind_eq_some_iff.mp hE
  refine lv_iload_n hx hb dX10_keep_0 rfl (lv_at hl 1 rfl) ?_
  refine lv_iconst (v := 0) hx hb dX10_keep_1 (by decide) ?_
  refine lv_iconst (v := 1) hx hb dX10_keep_2 (by decide) ?_
  obtain ⟨z1, hz1, hE⟩ := Option.bind_eq_some_iff.mp hE
  refine r_callI (va_runS (As := [.int x1, .int 0, .int 1]) (rest := []) ⟨hx, hb, hml, hown, hts⟩ (sX10_in l b0 D cA hz1) (va_cwS 3 hts gX10_keep_X10_in rfl rfl rfl (by decide +kernel) (rm_ok (by decide) (by decide))) (pre_S hK hH) rfl rfl hl.1 rfl (lv_room (Nat.le_of_ble_eq_true rfl)) dX10_keep_3 ⟨Nat.zero_le _, Nat.zero_le _⟩) hS (fun H locs hH hS => ?_)
  refine lv_if_ne (tgt := 11) hx hb dX10_keep_6 (by decide) (fun c2 => ?_) (fun c2 => ?_)
  · rw [if_neg c2] at hE
    refine lv_iconst (v := 0) hx hb dX10_keep_11 (by decide) ?_
    refine lv_istore_n (lv' := [(2, .int 0), (0, .ref (b0 + a0)), (1, .int x1)]) hx hb dX10_keep_12 rfl hl (by decide) rfl (fun ls hl => ?_)
    exact sX10_keep_b13 (F := F) hC F _ _ _ _ hE _ _ _ hH hS (lv_sub hl [1, 2, 0] rfl)
  · rw [if_pos c2] at hE
    refine lv_iconst (v := (-1)) hx hb dX10_keep_9 (by decide) ?_
    have hZ := Option.some.inj hE
    subst hZ
    exact W.iret (v := (-1)) hx hb hr (fun t ht hW => ⟨rfl, by rw [ht]; exact hH, hS.F ht⟩) hS.2.2 dX10_keep_10
-- X10_back
def fX10_back_b56c (F : Nat) (k56 : Nat → Int32 → Int32 → HL → Option (Int32 × HL)) (a0 : Nat) (x1 : Int32) (x2 : Int32) (L : HL) : Option (Int32 × HL) := if 340 ≤ x2 then ((o_gR L a0 9 17).bind fun v8 => (o_gR L a0 9 17).bind fun v9 => (o_aI L v9 0 (1 + x1)).bind fun v10 => (o_sI L v8 0 0 v10).bind fun L11 => (o_gR L11 a0 9 16).bind fun v12 => (o_aI L11 v12 0 0).bind fun v13 => some (v13, L11)) else ((o_gR L a0 9 18).bind fun v14 => (o_gR L a0 9 18).bind fun v15 => (o_aI L v15 0 ((340 * (1 + x1)) + x2)).bind fun v16 => (o_sI L v14 0 x2 v16).bind fun L17 => k56 a0 x1 (x2 + 1) L17)
def fX10_back_b56 (F : Nat) : Nat → Nat → Int32 → Int32 → HL → Option (Int32 × HL)
  | 0 => fun _ _ _ _ => none
  | n + 1 => fun a0 x1 x2 L => fX10_back_b56c F (fX10_back_b56 F n) a0 x1 x2 L
set_option maxHeartbeats 4000000 in
set_option maxRecDepth 100000 in
theorem sX10_back_b56c {b0 : Nat} {D : va_G} {cA : Nat → ClassId} {p : Program} {l : Launch} {ev : Env} {s : State} {m : MethodId} {args : Array Value} {below : List Frame} {meth : Method} {c : Code} {F : Nat} {z : (Int32 × HL)} {k56 : Nat → Int32 → Int32 → HL → Option (Int32 × HL)} {a0 : Nat} {x1 : Int32} {x2 : Int32} {L : HL} (hC : Cx D cA p s m args meth c cX10_back 3 RX10 wsX10_back (some .int)) (hk56 : ∀ (a0' : Nat) (x1' : Int32) (x2' : Int32) (L' : HL), k56 a0' x1' x2' L' = some z → WB b0 D cA p l ev (RM 1 0 0) s m args below meth c 3 0 0 (MQ below (Qk b0 D cA (some (.int z.1)) z.2) args s 0 0 (Ab b0)) 56 [(0, .ref (b0 + a0')), (1, .int x1'), (2, .int x2')] [] L') (hE : fX10_back_b56c F k56 a0 x1 x2 L = some z) : WB b0 D cA p l ev (RM 1 0 0) s m args below meth c 3 0 0 (MQ below (Qk b0 D cA (some (.int z.1)) z.2) args s 0 0 (Ab b0)) 56 [(0, .ref (b0 + a0)), (1, .int x1), (2, .int x2)] [] L := by
  obtain ⟨hx, hb, hml, hown, hts, hK, hr, hlocks⟩ := id hC
  intro H locs ls hH hS hl
  unfold fX10_back_b56c at hE
  refine lv_iload_n hx hb dX10_back_56 rfl (lv_at hl 2 rfl) ?_
  refine lv_sipush (v := 340) hx hb dX10_back_57 (by decide) ?_
  refine lv_icmp_ge (tgt := 89) hx hb dX10_back_60 (by decide) (fun c7 => ?_) (fun c7 => ?_)
  · rw [if_pos c7] at hE
    refine lv_aload_n hx hb dX10_back_89 rfl (lv_at hl 0 rfl) ?_
    obtain ⟨v8, hv8, hE⟩ := Option.bind_eq_some_iff.mp hE
    refine r_gR 17 (C := RX10) (T := TX10) (N := 26) (ci := 9) hx hb hts (by decide +kernel) hown hK hH hv8 rfl (by decide) (hts (.fieldLink RX10 41 "KindStreetsModel" "known" "[I") (by decide +kernel)) (fun _ h9 => h9) dX10_back_90 ?_
    refine lv_iconst (v := 0) hx hb dX10_back_93 (by decide) ?_
    refine lv_aload_n hx hb dX10_back_94 rfl (lv_at hl 0 rfl) ?_
    obtain ⟨v9, hv9, hE⟩ := Option.bind_eq_some_iff.mp hE
    refine r_gR 17 (C := RX10) (T := TX10) (N := 26) (ci := 9) hx hb hts (by decide +kernel) hown hK hH hv9 rfl (by decide) (hts (.fieldLink RX10 41 "KindStreetsModel" "known" "[I") (by decide +kernel)) (fun _ h9 => h9) dX10_back_95 ?_
    refine lv_iconst (v := 1) hx hb dX10_back_98 (by decide) ?_
    refine lv_iload_n hx hb dX10_back_99 rfl (lv_at hl 1 rfl) ?_
    refine lv_iadd hx hb dX10_back_100 ?_
    obtain ⟨v10, hv10, hE⟩ := Option.bind_eq_some_iff.mp hE
    refine r_iald hx hb hK hH hv10 dX10_back_101 ?_
    obtain ⟨L11, hL11, hE⟩ := Option.bind_eq_some_iff.mp hE
    refine r_iast hx hb hK hH hS hL11 dX10_back_102 (fun H locs hH hS => ?_)
    refine lv_aload_n hx hb dX10_back_103 rfl (lv_at hl 0 rfl) ?_
    obtain ⟨v12, hv12, hE⟩ := Option.bind_eq_some_iff.mp hE
    refine r_gR 16 (C := RX10) (T := TX10) (N := 26) (ci := 9) hx hb hts (by decide +kernel) hown hK hH hv12 rfl (by decide) (hts (.fieldLink RX10 38 "KindStreetsModel" "now" "[I") (by decide +kernel)) (fun _ h9 => h9) dX10_back_104 ?_
    refine lv_iconst (v := 0) hx hb dX10_back_107 (by decide) ?_
    obtain ⟨v13, hv13, hE⟩ := Option.bind_eq_some_iff.mp hE
    refine r_iald hx hb hK hH hv13 dX10_back_108 ?_
    have hZ := Option.some.inj hE
    subst hZ
    exact W.iret (v := v13) hx hb hr (fun t ht hW => ⟨rfl, by rw [ht]; exact hH, hS.F ht⟩) hS.2.2 dX10_back_109
  · rw [if_neg c7] at hE
    refine lv_aload_n hx hb dX10_back_63 rfl (lv_at hl 0 rfl) ?_
    obtain ⟨v14, hv14, hE⟩ := Option.bind_eq_some_iff.mp hE
    refine r_gR 18 (C := RX10) (T := TX10) (N := 26) (ci := 9) hx hb hts (by decide +kernel) hown hK hH hv14 rfl (by decide) (hts (.fieldLink RX10 44 "KindStreetsModel" "before" "[I") (by decide +kernel)) (fun _ h9 => h9) dX10_back_64 ?_
    refine lv_iload_n hx hb dX10_back_67 rfl (lv_at hl 2 rfl) ?_
    refine lv_aload_n hx hb dX10_back_68 rfl (lv_at hl 0 rfl) ?_
    obtain ⟨v15, hv15, hE⟩ := Option.bind_eq_some_iff.mp hE
    refine r_gR 18 (C := RX10) (T := TX10) (N := 26) (ci := 9) hx hb hts (by decide +kernel) hown hK hH hv15 rfl (by decide) (hts (.fieldLink RX10 44 "KindStreetsModel" "before" "[I") (by decide +kernel)) (fun _ h9 => h9) dX10_back_69 ?_
    refine lv_sipush (v := 340) hx hb dX10_back_72 (by decide) ?_
    refine lv_iconst (v := 1) hx hb dX10_back_75 (by decide) ?_
    refine lv_iload_n hx hb dX10_back_76 rfl (lv_at hl 1 rfl) ?_
    refine lv_iadd hx hb dX10_back_77 ?_
    refine lv_imul hx hb dX10_back_78 ?_
    refine lv_iload_n hx hb dX10_back_79 rfl (lv_at hl 2 rfl) ?_
    refine lv_iadd hx hb dX10_back_80 ?_
    obtain ⟨v16, hv16, hE⟩ := Option.bind_eq_some_iff.mp hE
    refine r_iald hx hb hK hH hv16 dX10_back_81 ?_
    obtain ⟨L17, hL17, hE⟩ := Option.bind_eq_some_iff.mp hE
    refine r_iast hx hb hK hH hS hL17 dX10_back_82 (fun H locs hH hS => ?_)
    refine lv_iinc (v := (x2 + 1)) (lv' := [(2, .int (x2 + 1)), (0, .ref (b0 + a0)), (1, .int x1)]) hx hb dX10_back_83 hl (k := 2) rfl rfl (by decide) rfl (fun ls hl => ?_)
    refine lv_goto (tgt := 56) hx hb dX10_back_86 (by decide) ?_
    exact hk56 _ _ _ _ hE _ _ _ hH hS (lv_sub hl [1, 2, 0] rfl)
theorem sX10_back_b56 {b0 : Nat} {D : va_G} {cA : Nat → ClassId} {p : Program} {l : Launch} {ev : Env} {s : State} {m : MethodId} {args : Array Value} {below : List Frame} {meth : Method} {c : Code} {F : Nat} {z : (Int32 × HL)} (hC : Cx D cA p s m args meth c cX10_back 3 RX10 wsX10_back (some .int)) : ∀ (n : Nat) (a0 : Nat) (x1 : Int32) (x2 : Int32) (L : HL), fX10_back_b56 F n a0 x1 x2 L = some z → WB b0 D cA p l ev (RM 1 0 0) s m args below meth c 3 0 0 (MQ below (Qk b0 D cA (some (.int z.1)) z.2) args s 0 0 (Ab b0)) 56 [(0, .ref (b0 + a0)), (1, .int x1), (2, .int x2)] [] L := by
  intro n
  induction n with
  | zero => intro a0 x1 x2 L hE; cases hE
  | succ n ih => intro a0 x1 x2 L hE; exact sX10_back_b56c (F := F) hC ih hE
def fX10_back_b25c (F : Nat) (k25 : Nat → Int32 → Int32 → HL → Option (Int32 × HL)) (a0 : Nat) (x1 : Int32) (x2 : Int32) (L : HL) : Option (Int32 × HL) := if 34 ≤ x2 then (fX10_back_b56 F F a0 x1 0 L) else ((o_gR L a0 9 16).bind fun v18 => (o_gR L a0 9 19).bind fun v19 => (o_aI L v19 0 ((34 * x1) + x2)).bind fun v20 => (o_sI L v18 0 x2 v20).bind fun L21 => k25 a0 x1 (x2 + 1) L21)
def fX10_back_b25 (F : Nat) : Nat → Nat → Int32 → Int32 → HL → Option (Int32 × HL)
  | 0 => fun _ _ _ _ => none
  | n + 1 => fun a0 x1 x2 L => fX10_back_b25c F (fX10_back_b25 F n) a0 x1 x2 L
set_option maxHeartbeats 4000000 in
set_option maxRecDepth 100000 in
theorem sX10_back_b25c {b0 : Nat} {D : va_G} {cA : Nat → ClassId} {p : Program} {l : Launch} {ev : Env} {s : State} {m : MethodId} {args : Array Value} {below : List Frame} {meth : Method} {c : Code} {F : Nat} {z : (Int32 × HL)} {k25 : Nat → Int32 → Int32 → HL → Option (Int32 × HL)} {a0 : Nat} {x1 : Int32} {x2 : Int32} {L : HL} (hC : Cx D cA p s m args meth c cX10_back 3 RX10 wsX10_back (some .int)) (hk25 : ∀ (a0' : Nat) (x1' : Int32) (x2' : Int32) (L' : HL), k25 a0' x1' x2' L' = some z → WB b0 D cA p l ev (RM 1 0 0) s m args below meth c 3 0 0 (MQ below (Qk b0 D cA (some (.int z.1)) z.2) args s 0 0 (Ab b0)) 25 [(0, .ref (b0 + a0')), (1, .int x1'), (2, .int x2')] [] L') (hE : fX10_back_b25c F k25 a0 x1 x2 L = some z) : WB b0 D cA p l ev (RM 1 0 0) s m args below meth c 3 0 0 (MQ below (Qk b0 D cA (some (.int z.1)) z.2) args s 0 0 (Ab b0)) 25 [(0, .ref (b0 + a0)), (1, .int x1), (2, .int x2)] [] L := by
  obtain ⟨hx, hb, hml, hown, hts, hK, hr, hlocks⟩ := id hC
  intro H locs ls hH hS hl
  unfold fX10_back_b25c at hE
  refine lv_iload_n hx hb dX10_back_25 rfl (lv_at hl 2 rfl) ?_
  refine lv_bipush (v := 34) hx hb dX10_back_26 (by decide) ?_
  refine lv_icmp_ge (tgt := 54) hx hb dX10_back_28 (by decide) (fun c6 => ?_) (fun c6 => ?_)
  · rw [if_pos c6] at hE
    refine lv_iconst (v := 0) hx hb dX10_back_54 (by decide) ?_
    refine lv_istore_n (lv' := [(2, .int 0), (0, .ref (b0 + a0)), (1, .int x1)]) hx hb dX10_back_55 rfl hl (by decide) rfl (fun ls hl => ?_)
    exact sX10_back_b56 (F := F) hC F _ _ _ _ hE _ _ _ hH hS (lv_sub hl [1, 2, 0] rfl)
  · rw [if_neg c6] at hE
    refine lv_aload_n hx hb dX10_back_31 rfl (lv_at hl 0 rfl) ?_
    obtain ⟨v18, hv18, hE⟩ := Option.bind_eq_some_iff.mp hE
    refine r_gR 16 (C := RX10) (T := TX10) (N := 26) (ci := 9) hx hb hts (by decide +kernel) hown hK hH hv18 rfl (by decide) (hts (.fieldLink RX10 38 "KindStreetsModel" "now" "[I") (by decide +kernel)) (fun _ h9 => h9) dX10_back_32 ?_
    refine lv_iload_n hx hb dX10_back_35 rfl (lv_at hl 2 rfl) ?_
    refine lv_aload_n hx hb dX10_back_36 rfl (lv_at hl 0 rfl) ?_
    obtain ⟨v19, hv19, hE⟩ := Option.bind_eq_some_iff.mp hE
    refine r_gR 19 (C := RX10) (T := TX10) (N := 26) (ci := 9) hx hb hts (by decide +kernel) hown hK hH hv19 rfl (by decide) (hts (.fieldLink RX10 47 "KindStreetsModel" "store" "[I") (by decide +kernel)) (fun _ h9 => h9) dX10_back_37 ?_
    refine lv_bipush (v := 34) hx hb dX10_back_40 (by decide) ?_
    refine lv_iload_n hx hb dX10_back_42 rfl (lv_at hl 1 rfl) ?_
    refine lv_imul hx hb dX10_back_43 ?_
    refine lv_iload_n hx hb dX10_back_44 rfl (lv_at hl 2 rfl) ?_
    refine lv_iadd hx hb dX10_back_45 ?_
    obtain ⟨v20, hv20, hE⟩ := Option.bind_eq_some_iff.mp hE
    refine r_iald hx hb hK hH hv20 dX10_back_46 ?_
    obtain ⟨L21, hL21, hE⟩ := Option.bind_eq_some_iff.mp hE
    refine r_iast hx hb hK hH hS hL21 dX10_back_47 (fun H locs hH hS => ?_)
    refine lv_iinc (v := (x2 + 1)) (lv' := [(2, .int (x2 + 1)), (0, .ref (b0 + a0)), (1, .int x1)]) hx hb dX10_back_48 hl (k := 2) rfl rfl (by decide) rfl (fun ls hl => ?_)
    refine lv_goto (tgt := 25) hx hb dX10_back_51 (by decide) ?_
    exact hk25 _ _ _ _ hE _ _ _ hH hS (lv_sub hl [1, 2, 0] rfl)
theorem sX10_back_b25 {b0 : Nat} {D : va_G} {cA : Nat → ClassId} {p : Program} {l : Launch} {ev : Env} {s : State} {m : MethodId} {args : Array Value} {below : List Frame} {meth : Method} {c : Code} {F : Nat} {z : (Int32 × HL)} (hC : Cx D cA p s m args meth c cX10_back 3 RX10 wsX10_back (some .int)) : ∀ (n : Nat) (a0 : Nat) (x1 : Int32) (x2 : Int32) (L : HL), fX10_back_b25 F n a0 x1 x2 L = some z → WB b0 D cA p l ev (RM 1 0 0) s m args below meth c 3 0 0 (MQ below (Qk b0 D cA (some (.int z.1)) z.2) args s 0 0 (Ab b0)) 25 [(0, .ref (b0 + a0)), (1, .int x1), (2, .int x2)] [] L := by
  intro n
  induction n with
  | zero => intro a0 x1 x2 L hE; cases hE
  | succ n ih => intro a0 x1 x2 L hE; exact sX10_back_b25c (F := F) hC ih hE
def fX10_back (F : Nat) (L : HL) (a0 : Nat) (x1 : Int32) : Option (Int32 × HL) := (o_ob L a0 9).bind fun _ => (fX10_in F L x1 0 1).bind fun z1 => if z1.1 = 0 then (some ((-1), z1.2)) else ((o_gR z1.2 a0 9 20).bind fun v3 => (o_aI z1.2 v3 2 x1).bind fun v4 => if v4 = 0 then (some ((-2), z1.2)) else (fX10_back_b25 F F a0 x1 0 z1.2))
theorem oX10_back {F : Nat} {L : HL} {a0 : Nat} {x1 : Int32} {z : (Int32 × HL)} (hE : fX10_back F L a0 x1 = some z) : o_ob L a0 9 = some () := by
  obtain ⟨_, h, _⟩ := Option.bind_eq_some_iff.mp hE
  exact h
set_option maxHeartbeats 4000000 in
set_option maxRecDepth 100000 in
theorem sX10_back (l : Launch) (b0 : Nat) (D : va_G) (cA : Nat → ClassId) {F : Nat} {L : HL} {a0 : Nat} {x1 : Int32} {z : (Int32 × HL)} (hE : fX10_back F L a0 x1 = some z) : Met l yX10_back wsX10_back (RM 1 0 0) (Pk b0 D cA [.ref (b0 + a0), .int x1] L) (Qk b0 D cA (some (.int z.1)) z.2) 0 0 (Ab b0) := by
  refine Met.ofW (cc := cX10_back) (maxL := 3) (ret := (some .int)) (by decide) rfl ?_
  intro p ev s m args below meth c s₁ B hml hv
  obtain ⟨rfl, hH, hK⟩ := hv
  have hx := B.exec
  have hb := B.bytes
  have hr := B.returns
  have hts := atoms_spec (ws := wsX10_back) B.pre
  have hown : s.vm.findClass RX10 = some m.cls := findClass_of_methodNamed B.named
  have hlocks := B.notSynchronized
  have hC : Cx D cA p s m _ meth c cX10_back 3 RX10 wsX10_back (some .int) := ⟨hx, hb, hml, hown, hts, hK, hr, hlocks⟩
  have hS : va_S (Ab b0) s.heap s.heap [] := va_S.rf
  have hl := lv_entry ([.ref (b0 + a0), .int x1]) (n := 3) (Nat.le_of_ble_eq_true rfl)
  rw [lg_entry_eq]
  generalize (lg_sl ([.ref (b0 + a0), .int x1]) ++ List.replicate (3 - (lg_sl ([.ref (b0 + a0), .int x1])).length) Slot.unset).toArray = ls at hl ⊢
  have hl : lv_has ls 3 [(0, .ref (b0 + a0)), (1, .int x1)] := hl
  unfold fX10_back at hE
  obtain ⟨_, _, hE⟩ := Option.bind_eq_some_iff.mp hE
  refine lv_iload_n hx hb dX10_back_0 rfl (lv_at hl 1 rfl) ?_
  refine lv_iconst (v := 0) hx hb dX10_back_1 (by decide) ?_
  refine lv_iconst (v := 1) hx hb dX10_back_2 (by decide) ?_
  obtain ⟨z1, hz1, hE⟩ := Option.bind_eq_some_iff.mp hE
  refine r_callI (va_runS (As := [.int x1, .int 0, .int 1]) (rest := []) ⟨hx, hb, hml, hown, hts⟩ (sX10_in l b0 D cA hz1) (va_cwS 3 hts gX10_back_X10_in rfl rfl rfl (by decide +kernel) (rm_ok (by decide) (by decide))) (pre_S hK hH) rfl rfl hl.1 rfl (lv_room (Nat.le_of_ble_eq_true rfl)) dX10_back_3 ⟨Nat.zero_le _, Nat.zero_le _⟩) hS (fun H locs hH hS => ?_)
  refine lv_if_ne (tgt := 11) hx hb dX10_back_6 (by decide) (fun c2 => ?_) (fun c2 => ?_)
  · rw [if_neg c2] at hE
    refine lv_aload_n hx hb dX10_back_11 rfl (lv_at hl 0 rfl) ?_
    obtain ⟨v3, hv3, hE⟩ := Option.bind_eq_some_iff.mp hE
    refine r_gR 20 (C := RX10) (T := TX10) (N := 26) (ci := 9) hx hb hts (by decide +kernel) hown hK hH hv3 rfl (by decide) (hts (.fieldLink RX10 50 "KindStreetsModel" "isKept" "[Z") (by decide +kernel)) (fun _ h9 => h9) dX10_back_12 ?_
    refine lv_iload_n hx hb dX10_back_15 rfl (lv_at hl 1 rfl) ?_
    obtain ⟨v4, hv4, hE⟩ := Option.bind_eq_some_iff.mp hE
    refine r_zald hx hb hK hH hv4 dX10_back_16 ?_
    refine lv_if_ne (tgt := 23) hx hb dX10_back_17 (by decide) (fun c5 => ?_) (fun c5 => ?_)
    · rw [if_neg c5] at hE
      refine lv_iconst (v := 0) hx hb dX10_back_23 (by decide) ?_
      refine lv_istore_n (lv' := [(2, .int 0), (0, .ref (b0 + a0)), (1, .int x1)]) hx hb dX10_back_24 rfl hl (by decide) rfl (fun ls hl => ?_)
      exact sX10_back_b25 (F := F) hC F _ _ _ _ hE _ _ _ hH hS (lv_sub hl [1, 2, 0] rfl)
    · rw [if_pos c5] at hE
      refine lv_bipush (v := (-2)) hx hb dX10_back_20 (by decide) ?_
      have hZ := Option.some.inj hE
      subst hZ
      exact W.iret (v := (-2)) hx hb hr (fun t ht hW => ⟨rfl, by rw [ht]; exact hH, hS.F ht⟩) hS.2.2 dX10_back_22
  · rw [if_pos c2] at hE
    refine lv_iconst (v := (-1)) hx hb dX10_back_9 (by decide) ?_
    have hZ := Option.some.inj hE
    subst hZ
    exact W.iret (v := (-1)) hx hb hr (fun t ht hW => ⟨rfl, by rw [ht]; exact hH, hS.F ht⟩) hS.2.2 dX10_back_10
-- X10_count
def fX10_count (F : Nat) (L : HL) (a0 : Nat) (x1 : Int32) : Option (Int32 × HL) := (o_ob L a0 9).bind fun _ => if x1 = 0 then ((o_gR L a0 9 2).bind fun v2 => (o_aI L v2 0 0).bind fun v3 => some (v3, L)) else if x1 = 1 then ((o_gR L a0 9 3).bind fun v5 => (o_aI L v5 0 0).bind fun v6 => some (v6, L)) else if x1 = 2 then ((o_gR L a0 9 7).bind fun v8 => (o_aI L v8 0 0).bind fun v9 => some (v9, L)) else if x1 = 3 then ((o_gI L a0 9 24).bind fun v11 => some (v11, L)) else if x1 = 4 then ((o_gR L a0 9 17).bind fun v13 => (o_aI L v13 0 0).bind fun v14 => some (v14, L)) else if x1 = 5 then ((o_gI L a0 9 1).bind fun v16 => some (v16, L)) else some ((-1), L)
theorem oX10_count {F : Nat} {L : HL} {a0 : Nat} {x1 : Int32} {z : (Int32 × HL)} (hE : fX10_count F L a0 x1 = some z) : o_ob L a0 9 = some () := by
  obtain ⟨_, h, _⟩ := Option.bind_eq_some_iff.mp hE
  exact h
set_option maxHeartbeats 4000000 in
set_option maxRecDepth 100000 in
theorem sX10_count (l : Launch) (b0 : Nat) (D : va_G) (cA : Nat → ClassId) {F : Nat} {L : HL} {a0 : Nat} {x1 : Int32} {z : (Int32 × HL)} (hE : fX10_count F L a0 x1 = some z) : Met l yX10_count wsX10_count (RM 0 0 0) (Pk b0 D cA [.ref (b0 + a0), .int x1] L) (Qk b0 D cA (some (.int z.1)) z.2) 0 0 (Ab b0) := by
  refine Met.ofW (cc := cX10_count) (maxL := 2) (ret := (some .int)) (by decide) rfl ?_
  intro p ev s m args below meth c s₁ B hml hv
  obtain ⟨rfl, hH, hK⟩ := hv
  have hx := B.exec
  have hb := B.bytes
  have hr := B.returns
  have hts := atoms_spec (ws := wsX10_count) B.pre
  have hown : s.vm.findClass RX10 = some m.cls := findClass_of_methodNamed B.named
  have hlocks := B.notSynchronized
  have hC : Cx D cA p s m _ meth c cX10_count 2 RX10 wsX10_count (some .int) := ⟨hx, hb, hml, hown, hts, hK, hr, hlocks⟩
  have hS : va_S (Ab b0) s.heap s.heap [] := va_S.rf
  have hl := lv_entry ([.ref (b0 + a0), .int x1]) (n := 2) (Nat.le_of_ble_eq_true rfl)
  rw [lg_entry_eq]
  generalize (lg_sl ([.ref (b0 + a0), .int x1]) ++ List.replicate (2 - (lg_sl ([.ref (b0 + a0), .int x1])).length) Slot.unset).toArray = ls at hl ⊢
  have hl : lv_has ls 2 [(0, .ref (b0 + a0)), (1, .int x1)] := hl
  unfold fX10_count at hE
  obtain ⟨_, _, hE⟩ := Option.bind_eq_some_iff.mp hE
  refine lv_iload_n hx hb dX10_count_0 rfl (lv_at hl 1 rfl) ?_
  by_cases c1 : x1 = 0
  · rw [if_pos c1] at hE
    refine lv_tableIn (tgt := 40) (off := 39) hx hb dX10_count_1 (by rw [c1]; decide) (by rw [c1]; decide) (by rw [c1]; rfl) (by decide) ?_
    refine lv_aload_n hx hb dX10_count_40 rfl (lv_at hl 0 rfl) ?_
    obtain ⟨v2, hv2, hE⟩ := Option.bind_eq_some_iff.mp hE
    refine r_gR 2 (C := RX10) (T := TX10) (N := 26) (ci := 9) hx hb hts (by decide +kernel) hown hK hH hv2 rfl (by decide) (hts (.fieldLink RX10 13 "KindStreetsModel" "yards" "[I") (by decide +kernel)) (fun _ h9 => h9) dX10_count_41 ?_
    refine lv_iconst (v := 0) hx hb dX10_count_44 (by decide) ?_
    obtain ⟨v3, hv3, hE⟩ := Option.bind_eq_some_iff.mp hE
    refine r_iald hx hb hK hH hv3 dX10_count_45 ?_
    have hZ := Option.some.inj hE
    subst hZ
    exact W.iret (v := v3) hx hb hr (fun t ht hW => ⟨rfl, by rw [ht]; exact hH, hS.F ht⟩) hS.2.2 dX10_count_46
  rw [if_neg c1] at hE
  by_cases c4 : x1 = 1
  · rw [if_pos c4] at hE
    refine lv_tableIn (tgt := 47) (off := 46) hx hb dX10_count_1 (by rw [c4]; decide) (by rw [c4]; decide) (by rw [c4]; rfl) (by decide) ?_
    refine lv_aload_n hx hb dX10_count_47 rfl (lv_at hl 0 rfl) ?_
    obtain ⟨v5, hv5, hE⟩ := Option.bind_eq_some_iff.mp hE
    refine r_gR 3 (C := RX10) (T := TX10) (N := 26) (ci := 9) hx hb hts (by decide +kernel) hown hK hH hv5 rfl (by decide) (hts (.fieldLink RX10 17 "KindStreetsModel" "streets" "[I") (by decide +kernel)) (fun _ h9 => h9) dX10_count_48 ?_
    refine lv_iconst (v := 0) hx hb dX10_count_51 (by decide) ?_
    obtain ⟨v6, hv6, hE⟩ := Option.bind_eq_some_iff.mp hE
    refine r_iald hx hb hK hH hv6 dX10_count_52 ?_
    have hZ := Option.some.inj hE
    subst hZ
    exact W.iret (v := v6) hx hb hr (fun t ht hW => ⟨rfl, by rw [ht]; exact hH, hS.F ht⟩) hS.2.2 dX10_count_53
  rw [if_neg c4] at hE
  by_cases c7 : x1 = 2
  · rw [if_pos c7] at hE
    refine lv_tableIn (tgt := 54) (off := 53) hx hb dX10_count_1 (by rw [c7]; decide) (by rw [c7]; decide) (by rw [c7]; rfl) (by decide) ?_
    refine lv_aload_n hx hb dX10_count_54 rfl (lv_at hl 0 rfl) ?_
    obtain ⟨v8, hv8, hE⟩ := Option.bind_eq_some_iff.mp hE
    refine r_gR 7 (C := RX10) (T := TX10) (N := 26) (ci := 9) hx hb hts (by decide +kernel) hown hK hH hv8 rfl (by decide) (hts (.fieldLink RX10 29 "KindStreetsModel" "people" "[I") (by decide +kernel)) (fun _ h9 => h9) dX10_count_55 ?_
    refine lv_iconst (v := 0) hx hb dX10_count_58 (by decide) ?_
    obtain ⟨v9, hv9, hE⟩ := Option.bind_eq_some_iff.mp hE
    refine r_iald hx hb hK hH hv9 dX10_count_59 ?_
    have hZ := Option.some.inj hE
    subst hZ
    exact W.iret (v := v9) hx hb hr (fun t ht hW => ⟨rfl, by rw [ht]; exact hH, hS.F ht⟩) hS.2.2 dX10_count_60
  rw [if_neg c7] at hE
  by_cases c10 : x1 = 3
  · rw [if_pos c10] at hE
    refine lv_tableIn (tgt := 61) (off := 60) hx hb dX10_count_1 (by rw [c10]; decide) (by rw [c10]; decide) (by rw [c10]; rfl) (by decide) ?_
    refine lv_aload_n hx hb dX10_count_61 rfl (lv_at hl 0 rfl) ?_
    obtain ⟨v11, hv11, hE⟩ := Option.bind_eq_some_iff.mp hE
    refine r_gI 24 (C := RX10) (T := TX10) (N := 26) (ci := 9) hx hb hts (by decide +kernel) hown hK hH hv11 rfl (by decide) (hts (.fieldLink RX10 116 "KindStreetsModel" "facts" "I") (by decide +kernel)) (fun _ h9 => h9) dX10_count_62 ?_
    have hZ := Option.some.inj hE
    subst hZ
    exact W.iret (v := v11) hx hb hr (fun t ht hW => ⟨rfl, by rw [ht]; exact hH, hS.F ht⟩) hS.2.2 dX10_count_65
  rw [if_neg c10] at hE
  by_cases c12 : x1 = 4
  · rw [if_pos c12] at hE
    refine lv_tableIn (tgt := 66) (off := 65) hx hb dX10_count_1 (by rw [c12]; decide) (by rw [c12]; decide) (by rw [c12]; rfl) (by decide) ?_
    refine lv_aload_n hx hb dX10_count_66 rfl (lv_at hl 0 rfl) ?_
    obtain ⟨v13, hv13, hE⟩ := Option.bind_eq_some_iff.mp hE
    refine r_gR 17 (C := RX10) (T := TX10) (N := 26) (ci := 9) hx hb hts (by decide +kernel) hown hK hH hv13 rfl (by decide) (hts (.fieldLink RX10 41 "KindStreetsModel" "known" "[I") (by decide +kernel)) (fun _ h9 => h9) dX10_count_67 ?_
    refine lv_iconst (v := 0) hx hb dX10_count_70 (by decide) ?_
    obtain ⟨v14, hv14, hE⟩ := Option.bind_eq_some_iff.mp hE
    refine r_iald hx hb hK hH hv14 dX10_count_71 ?_
    have hZ := Option.some.inj hE
    subst hZ
    exact W.iret (v := v14) hx hb hr (fun t ht hW => ⟨rfl, by rw [ht]; exact hH, hS.F ht⟩) hS.2.2 dX10_count_72
  rw [if_neg c12] at hE
  by_cases c15 : x1 = 5
  · rw [if_pos c15] at hE
    refine lv_tableIn (tgt := 73) (off := 72) hx hb dX10_count_1 (by rw [c15]; decide) (by rw [c15]; decide) (by rw [c15]; rfl) (by decide) ?_
    refine lv_aload_n hx hb dX10_count_73 rfl (lv_at hl 0 rfl) ?_
    obtain ⟨v16, hv16, hE⟩ := Option.bind_eq_some_iff.mp hE
    refine r_gI 1 (C := RX10) (T := TX10) (N := 26) (ci := 9) hx hb hts (by decide +kernel) hown hK hH hv16 rfl (by decide) (hts (.fieldLink RX10 67 "KindStreetsModel" "typed" "I") (by decide +kernel)) (fun _ h9 => h9) dX10_count_74 ?_
    have hZ := Option.some.inj hE
    subst hZ
    exact W.iret (v := v16) hx hb hr (fun t ht hW => ⟨rfl, by rw [ht]; exact hH, hS.F ht⟩) hS.2.2 dX10_count_77
  rw [if_neg c15] at hE
  refine lv_tableOut (tgt := 78) hx hb dX10_count_1 (by have q0 := sw_ne (k := 0) (by decide) c1; have q1 := sw_ne (k := 1) (by decide) c4; have q2 := sw_ne (k := 2) (by decide) c7; have q3 := sw_ne (k := 3) (by decide) c10; have q4 := sw_ne (k := 4) (by decide) c12; have q5 := sw_ne (k := 5) (by decide) c15; omega) (by decide) ?_
  refine lv_iconst (v := (-1)) hx hb dX10_count_78 (by decide) ?_
  have hZ := Option.some.inj hE
  subst hZ
  exact W.iret (v := (-1)) hx hb hr (fun t ht hW => ⟨rfl, by rw [ht]; exact hH, hS.F ht⟩) hS.2.2 dX10_count_79

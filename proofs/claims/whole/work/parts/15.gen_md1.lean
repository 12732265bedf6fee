-- X10_in
def fX10_in_b14 (F : Nat)  (L : HL) : Option (Int32 × HL) := some (0, L)
set_option maxHeartbeats 4000000 in
set_option maxRecDepth 100000 in
theorem sX10_in_b14 {b0 : Nat} {D : va_G} {cA : Nat → ClassId} {p : Program} {l : Launch} {ev : Env} {s : State} {m : MethodId} {args : Array Value} {below : List Frame} {meth : Method} {c : Code} {F : Nat} {z : (Int32 × HL)}  {L : HL} (hC : Cx D cA p s m args meth c cX10_in 3 RX10 wsX10_in (some .boolean)) (hE : fX10_in_b14 F  L = some z) : WB b0 D cA p l ev (RM 0 0 0) s m args below meth c 3 0 0 (MQ below (Qk b0 D cA (some (.int z.1)) z.2) args s 0 0 (Ab b0)) 14 [] [] L := by
  obtain ⟨hx, hb, hml, hown, hts, hK, hr, hlocks⟩ := id hC
  intro H locs ls hH hS hl
  unfold fX10_in_b14 at hE
  refine lv_iconst (v := 0) hx hb dX10_in_14 (by decide) ?_
  have hZ := Option.some.inj hE
  subst hZ
  exact W.zret (v := 0) (ty := .boolean) hx hb hr rfl (fun t ht hW => ⟨rfl, by rw [ht]; exact hH, hS.F ht⟩) hS.2.2 dX10_in_15
def fX10_in (F : Nat) (L : HL) (x0 : Int32) (x1 : Int32) (x2 : Int32) : Option (Int32 × HL) := if x0 < x1 then (fX10_in_b14 F L) else (if x2 < x0 then (fX10_in_b14 F L) else (some (1, L)))
set_option maxHeartbeats 4000000 in
set_option maxRecDepth 100000 in
theorem sX10_in (l : Launch) (b0 : Nat) (D : va_G) (cA : Nat → ClassId) {F : Nat} {L : HL} {x0 : Int32} {x1 : Int32} {x2 : Int32} {z : (Int32 × HL)} (hE : fX10_in F L x0 x1 x2 = some z) : Met l yX10_in wsX10_in (RM 0 0 0) (Pk b0 D cA [.int x0, .int x1, .int x2] L) (Qk b0 D cA (some (.int z.1)) z.2) 0 0 (Ab b0) := by
  refine Met.ofW (cc := cX10_in) (maxL := 3) (ret := (some .boolean)) (by decide) rfl ?_
  intro p ev s m args below meth c s₁ B hml hv
  obtain ⟨rfl, hH, hK⟩ := hv
  have hx := B.exec
  have hb := B.bytes
  have hr := B.returns
  have hts := atoms_spec (ws := wsX10_in) B.pre
  have hown : s.vm.findClass RX10 = some m.cls := findClass_of_methodNamed B.named
  have hlocks := B.notSynchronized
  have hC : Cx D cA p s m _ meth c cX10_in 3 RX10 wsX10_in (some .boolean) := ⟨hx, hb, hml, hown, hts, hK, hr, hlocks⟩
  have hS : va_S (Ab b0) s.heap s.heap [] := va_S.rf
  have hl := lv_entry ([.int x0, .int x1, .int x2]) (n := 3) (Nat.le_of_ble_eq_true rfl)
  rw [lg_entry_eq]
  generalize (lg_sl ([.int x0, .int x1, .int x2]) ++ List.replicate (3 - (lg_sl ([.int x0, .int x1, .int x2])).length) Slot.unset).toArray = ls at hl ⊢
  have hl : lv_has ls 3 [(0, .int x0), (1, .int x1), (2, .int x2)] := hl
  unfold fX10_in at hE
  refine lv_iload_n hx hb dX10_in_0 rfl (lv_at hl 0 rfl) ?_
  refine lv_iload_n hx hb dX10_in_1 rfl (lv_at hl 1 rfl) ?_
  refine lv_icmp_lt (tgt := 14) hx hb dX10_in_2 (by decide) (fun c1 => ?_) (fun c1 => ?_)
  · rw [if_pos c1] at hE
    exact sX10_in_b14 (F := F) hC hE _ _ _ hH hS (lv_sub hl [] rfl)
  · rw [if_neg c1] at hE
    refine lv_iload_n hx hb dX10_in_5 rfl (lv_at hl 0 rfl) ?_
    refine lv_iload_n hx hb dX10_in_6 rfl (lv_at hl 2 rfl) ?_
    refine lv_icmp_gt (tgt := 14) hx hb dX10_in_7 (by decide) (fun c2 => ?_) (fun c2 => ?_)
    · rw [if_pos c2] at hE
      exact sX10_in_b14 (F := F) hC hE _ _ _ hH hS (lv_sub hl [] rfl)
    · rw [if_neg c2] at hE
      refine lv_iconst (v := 1) hx hb dX10_in_10 (by decide) ?_
      refine lv_goto (tgt := 15) hx hb dX10_in_11 (by decide) ?_
      have hZ := Option.some.inj hE
      subst hZ
      exact W.zret (v := 1) (ty := .boolean) hx hb hr rfl (fun t ht hW => ⟨rfl, by rw [ht]; exact hH, hS.F ht⟩) hS.2.2 dX10_in_15
-- X10_has
def fX10_has (F : Nat) (L : HL) (x0 : Int32) (x1 : Int32) : Option (Int32 × HL) := if ((x0 >>> (x1 &&& 31)) &&& 1) = 1 then (some (1, L)) else (some (0, L))
set_option maxHeartbeats 4000000 in
set_option maxRecDepth 100000 in
theorem sX10_has (l : Launch) (b0 : Nat) (D : va_G) (cA : Nat → ClassId) {F : Nat} {L : HL} {x0 : Int32} {x1 : Int32} {z : (Int32 × HL)} (hE : fX10_has F L x0 x1 = some z) : Met l yX10_has wsX10_has (RM 0 0 0) (Pk b0 D cA [.int x0, .int x1] L) (Qk b0 D cA (some (.int z.1)) z.2) 0 0 (Ab b0) := by
  refine Met.ofW (cc := cX10_has) (maxL := 2) (ret := (some .boolean)) (by decide) rfl ?_
  intro p ev s m args below meth c s₁ B hml hv
  obtain ⟨rfl, hH, hK⟩ := hv
  have hx := B.exec
  have hb := B.bytes
  have hr := B.returns
  have hts := atoms_spec (ws := wsX10_has) B.pre
  have hown : s.vm.findClass RX10 = some m.cls := findClass_of_methodNamed B.named
  have hlocks := B.notSynchronized
  have hC : Cx D cA p s m _ meth c cX10_has 2 RX10 wsX10_has (some .boolean) := ⟨hx, hb, hml, hown, hts, hK, hr, hlocks⟩
  have hS : va_S (Ab b0) s.heap s.heap [] := va_S.rf
  have hl := lv_entry ([.int x0, .int x1]) (n := 2) (Nat.le_of_ble_eq_true rfl)
  rw [lg_entry_eq]
  generalize (lg_sl ([.int x0, .int x1]) ++ List.replicate (2 - (lg_sl ([.int x0, .int x1])).length) Slot.unset).toArray = ls at hl ⊢
  have hl : lv_has ls 2 [(0, .int x0), (1, .int x1)] := hl
  unfold fX10_has at hE
  refine lv_iload_n hx hb dX10_has_0 rfl (lv_at hl 0 rfl) ?_
  refine lv_iload_n hx hb dX10_has_1 rfl (lv_at hl 1 rfl) ?_
  refine lv_ishr hx hb dX10_has_2 ?_
  refine lv_iconst (v := 1) hx hb dX10_has_3 (by decide) ?_
  refine lv_iand hx hb dX10_has_4 ?_
  refine lv_iconst (v := 1) hx hb dX10_has_5 (by decide) ?_
  refine lv_icmp_ne (tgt := 13) hx hb dX10_has_6 (by decide) (fun c1 => ?_) (fun c1 => ?_)
  · rw [if_neg c1] at hE
    refine lv_iconst (v := 0) hx hb dX10_has_13 (by decide) ?_
    have hZ := Option.some.inj hE
    subst hZ
    exact W.zret (v := 0) (ty := .boolean) hx hb hr rfl (fun t ht hW => ⟨rfl, by rw [ht]; exact hH, hS.F ht⟩) hS.2.2 dX10_has_14
  · rw [if_pos c1] at hE
    refine lv_iconst (v := 1) hx hb dX10_has_9 (by decide) ?_
    refine lv_goto (tgt := 14) hx hb dX10_has_10 (by decide) ?_
    have hZ := Option.some.inj hE
    subst hZ
    exact W.zret (v := 1) (ty := .boolean) hx hb hr rfl (fun t ht hW => ⟨rfl, by rw [ht]; exact hH, hS.F ht⟩) hS.2.2 dX10_has_14
-- X10_bitsOf
def fX10_bitsOf_b4c (F : Nat) (k4 : Int32 → Int32 → Int32 → HL → Option (Int32 × HL)) (x0 : Int32) (x1 : Int32) (x2 : Int32) (L : HL) : Option (Int32 × HL) := if 10 ≤ x2 then (some (x1, L)) else (k4 x0 (x1 + ((x0 >>> (x2 &&& 31)) &&& 1)) (x2 + 1) L)
def fX10_bitsOf_b4 (F : Nat) : Nat → Int32 → Int32 → Int32 → HL → Option (Int32 × HL)
  | 0 => fun _ _ _ _ => none
  | n + 1 => fun x0 x1 x2 L => fX10_bitsOf_b4c F (fX10_bitsOf_b4 F n) x0 x1 x2 L
set_option maxHeartbeats 4000000 in
set_option maxRecDepth 100000 in
theorem sX10_bitsOf_b4c {b0 : Nat} {D : va_G} {cA : Nat → ClassId} {p : Program} {l : Launch} {ev : Env} {s : State} {m : MethodId} {args : Array Value} {below : List Frame} {meth : Method} {c : Code} {F : Nat} {z : (Int32 × HL)} {k4 : Int32 → Int32 → Int32 → HL → Option (Int32 × HL)} {x0 : Int32} {x1 : Int32} {x2 : Int32} {L : HL} (hC : Cx D cA p s m args meth c cX10_bitsOf 3 RX10 wsX10_bitsOf (some .int)) (hk4 : ∀ (x0' : Int32) (x1' : Int32) (x2' : Int32) (L' : HL), k4 x0' x1' x2' L' = some z → WB b0 D cA p l ev (RM 0 0 0) s m args below meth c 3 0 0 (MQ below (Qk b0 D cA (some (.int z.1)) z.2) args s 0 0 (Ab b0)) 4 [(0, .int x0'), (1, .int x1'), (2, .int x2')] [] L') (hE : fX10_bitsOf_b4c F k4 x0 x1 x2 L = some z) : WB b0 D cA p l ev (RM 0 0 0) s m args below meth c 3 0 0 (MQ below (Qk b0 D cA (some (.int z.1)) z.2) args s 0 0 (Ab b0)) 4 [(0, .int x0), (1, .int x1), (2, .int x2)] [] L := by
  obtain ⟨hx, hb, hml, hown, hts, hK, hr, hlocks⟩ := id hC
  intro H locs ls hH hS hl
  unfold fX10_bitsOf_b4c at hE
  refine lv_iload_n hx hb dX10_bitsOf_4 rfl (lv_at hl 2 rfl) ?_
  refine lv_bipush (v := 10) hx hb dX10_bitsOf_5 (by decide) ?_
  refine lv_icmp_ge (tgt := 24) hx hb dX10_bitsOf_7 (by decide) (fun c1 => ?_) (fun c1 => ?_)
  · rw [if_pos c1] at hE
    refine lv_iload_n hx hb dX10_bitsOf_24 rfl (lv_at hl 1 rfl) ?_
    have hZ := Option.some.inj hE
    subst hZ
    exact W.iret (v := x1) hx hb hr (fun t ht hW => ⟨rfl, by rw [ht]; exact hH, hS.F ht⟩) hS.2.2 dX10_bitsOf_25
  · rw [if_neg c1] at hE
    refine lv_iload_n hx hb dX10_bitsOf_10 rfl (lv_at hl 1 rfl) ?_
    refine lv_iload_n hx hb dX10_bitsOf_11 rfl (lv_at hl 0 rfl) ?_
    refine lv_iload_n hx hb dX10_bitsOf_12 rfl (lv_at hl 2 rfl) ?_
    refine lv_ishr hx hb dX10_bitsOf_13 ?_
    refine lv_iconst (v := 1) hx hb dX10_bitsOf_14 (by decide) ?_
    refine lv_iand hx hb dX10_bitsOf_15 ?_
    refine lv_iadd hx hb dX10_bitsOf_16 ?_
    refine lv_istore_n (lv' := [(1, .int (x1 + ((x0 >>> (x2 &&& 31)) &&& 1))), (0, .int x0), (2, .int x2)]) hx hb dX10_bitsOf_17 rfl hl (by decide) rfl (fun ls hl => ?_)
    refine lv_iinc (v := (x2 + 1)) (lv' := [(2, .int (x2 + 1)), (1, .int (x1 + ((x0 >>> (x2 &&& 31)) &&& 1))), (0, .int x0)]) hx hb dX10_bitsOf_18 hl (k := 2) rfl rfl (by decide) rfl (fun ls hl => ?_)
    refine lv_goto (tgt := 4) hx hb dX10_bitsOf_21 (by decide) ?_
    exact hk4 _ _ _ _ hE _ _ _ hH hS (lv_sub hl [2, 1, 0] rfl)
theorem sX10_bitsOf_b4 {b0 : Nat} {D : va_G} {cA : Nat → ClassId} {p : Program} {l : Launch} {ev : Env} {s : State} {m : MethodId} {args : Array Value} {below : List Frame} {meth : Method} {c : Code} {F : Nat} {z : (Int32 × HL)} (hC : Cx D cA p s m args meth c cX10_bitsOf 3 RX10 wsX10_bitsOf (some .int)) : ∀ (n : Nat) (x0 : Int32) (x1 : Int32) (x2 : Int32) (L : HL), fX10_bitsOf_b4 F n x0 x1 x2 L = some z → WB b0 D cA p l ev (RM 0 0 0) s m args below meth c 3 0 0 (MQ below (Qk b0 D cA (some (.int z.1)) z.2) args s 0 0 (Ab b0)) 4 [(0, .int x0), (1, .int x1), (2, .int x2)] [] L := by
  intro n
  induction n with
  | zero => intro x0 x1 x2 L hE; cases hE
  | succ n ih => intro x0 x1 x2 L hE; exact sX10_bitsOf_b4c (F := F) hC ih hE
def fX10_bitsOf (F : Nat) (L : HL) (x0 : Int32) : Option (Int32 × HL) := fX10_bitsOf_b4 F F x0 0 0 L
set_option maxHeartbeats 4000000 in
set_option maxRecDepth 100000 in
theorem sX10_bitsOf (l : Launch) (b0 : Nat) (D : va_G) (cA : Nat → ClassId) {F : Nat} {L : HL} {x0 : Int32} {z : (Int32 × HL)} (hE : fX10_bitsOf F L x0 = some z) : Met l yX10_bitsOf wsX10_bitsOf (RM 0 0 0) (Pk b0 D cA [.int x0] L) (Qk b0 D cA (some (.int z.1)) z.2) 0 0 (Ab b0) := by
  refine Met.ofW (cc := cX10_bitsOf) (maxL := 3) (ret := (some .int)) (by decide) rfl ?_
  intro p ev s m args below meth c s₁ B hml hv
  obtain ⟨rfl, hH, hK⟩ := hv
  have hx := B.exec
  have hb := B.bytes
  have hr := B.returns
  have hts := atoms_spec (ws := wsX10_bitsOf) B.pre
  have hown : s.vm.findClass RX10 = some m.cls := findClass_of_methodNamed B.named
  have hlocks := B.notSynchronized
  have hC : Cx D cA p s m _ meth c cX10_bitsOf 3 RX10 wsX10_bitsOf (some .int) := ⟨hx, hb, hml, hown, hts, hK, hr, hlocks⟩
  have hS : va_S (Ab b0) s.heap s.heap [] := va_S.rf
  have hl := lv_entry ([.int x0]) (n := 3) (Nat.le_of_ble_eq_true rfl)
  rw [lg_entry_eq]
  generalize (lg_sl ([.int x0]) ++ List.replicate (3 - (lg_sl ([.int x0])).length) Slot.unset).toArray = ls at hl ⊢
  have hl : lv_has ls 3 [(0, .int x0)] := hl
  unfold fX10_bitsOf at hE
  refine lv_iconst (v := 0) hx hb dX10_bitsOf_0 (by decide) ?_
  refine lv_istore_n (lv' := [(1, .int 0), (0, .int x0)]) hx hb dX10_bitsOf_1 rfl hl (by decide) rfl (fun ls hl => ?_)
  refine lv_iconst (v := 0) hx hb dX10_bitsOf_2 (by decide) ?_
  refine lv_istore_n (lv' := [(2, .int 0), (1, .int 0), (0, .int x0)]) hx hb dX10_bitsOf_3 rfl hl (by decide) rfl (fun ls hl => ?_)
  exact sX10_bitsOf_b4 (F := F) hC F _ _ _ _ hE _ _ _ hH hS (lv_sub hl [2, 1, 0] rfl)
-- X10_type
def fX10_type (F : Nat) (L : HL) (a0 : Nat) (x1 : Int32) : Option (Int32 × HL) := (o_ob L a0 9).bind fun _ => (fX10_in F L x1 0 255).bind fun z1 => if z1.1 = 0 then (some ((-1), z1.2)) else ((o_gI z1.2 a0 9 1).bind fun v3 => if v3 = 120 then (some ((-3), z1.2)) else ((o_gR z1.2 a0 9 0).bind fun v5 => (o_gI z1.2 a0 9 1).bind fun v6 => (o_sI z1.2 v5 1 v6 (vp_nar .byte x1.toInt8.toInt32)).bind fun L7 => (o_gI L7 a0 9 1).bind fun v8 => (o_p L7 a0 9 1 (.int (v8 + 1))).bind fun L9 => (o_gI L9 a0 9 1).bind fun v10 => some (v10, L9)))
theorem oX10_type {F : Nat} {L : HL} {a0 : Nat} {x1 : Int32} {z : (Int32 × HL)} (hE : fX10_type F L a0 x1 = some z) : o_ob L a0 9 = some () := by
  obtain ⟨_, h, _⟩ := Option.bind_eq_some_iff.mp hE
  exact h
set_option maxHeartbeats 4000000 in
set_option maxRecDepth 100000 in
theorem sX10_type (l : Launch) (b0 : Nat) (D : va_G) (cA : Nat → ClassId) {F : Nat} {L : HL} {a0 : Nat} {x1 : Int32} {z : (Int32 × HL)} (hE : fX10_type F L a0 x1 = some z) : Met l yX10_type wsX10_type (RM 1 0 0) (Pk b0 D cA [.ref (b0 + a0), .int x1] L) (Qk b0 D cA (some (.int z.1)) z.2) 0 0 (Ab b0) := by
  refine Met.ofW (cc := cX10_type) (maxL := 2) (ret := (some .int)) (by decide) rfl ?_
  intro p ev s m args below meth c s₁ B hml hv
  obtain ⟨rfl, hH, hK⟩ := hv
  have hx := B.exec
  have hb := B.bytes
  have hr := B.returns
  have hts := atoms_spec (ws := wsX10_type) B.pre
  have hown : s.vm.findClass RX10 = some m.cls := findClass_of_methodNamed B.named
  have hlocks := B.notSynchronized
  have hC : Cx D cA p s m _ meth c cX10_type 2 RX10 wsX10_type (some .int) := ⟨hx, hb, hml, hown, hts, hK, hr, hlocks⟩
  have hS : va_S (Ab b0) s.heap s.heap [] := va_S.rf
  have hl := lv_entry ([.ref (b0 + a0), .int x1]) (n := 2) (Nat.le_of_ble_eq_true rfl)
  rw [lg_entry_eq]
  generalize (lg_sl ([.ref (b0 + a0), .int x1]) ++ List.replicate (2 - (lg_sl ([.ref (b0 + a0), .int x1])).length) Slot.unset).toArray = ls at hl ⊢
  have hl : lv_has ls 2 [(0, .ref (b0 + a0)), (1, .int x1)] := hl
  unfold fX10_type at hE
  obtain ⟨_, _, hE⟩ := Option.bind_eq_some_iff.mp hE
  refine lv_iload_n hx hb dX10_type_0 rfl (lv_at hl 1 rfl) ?_
  refine lv_iconst (v := 0) hx hb dX10_type_1 (by decide) ?_
  refine lv_sipush (v := 255) hx hb dX10_type_2 (by decide) ?_
  obtain ⟨z1, hz1, hE⟩ := Option.bind_eq_some_iff.mp hE
  refine r_callI (va_runS (As := [.int x1, .int 0, .int 255]) (rest := []) ⟨hx, hb, hml, hown, hts⟩ (sX10_in l b0 D cA hz1) (va_cwS 3 hts gX10_type_X10_in rfl rfl rfl (by decide +kernel) (rm_ok (by decide) (by decide))) (pre_S hK hH) rfl rfl hl.1 rfl (lv_room (Nat.le_of_ble_eq_true rfl)) dX10_type_5 ⟨Nat.zero_le _, Nat.zero_le _⟩) hS (fun H locs hH hS => ?_)
  refine lv_if_ne (tgt := 13) hx hb dX10_type_8 (by decide) (fun c2 => ?_) (fun c2 => ?_)
  · rw [if_neg c2] at hE
    refine lv_aload_n hx hb dX10_type_13 rfl (lv_at hl 0 rfl) ?_
    obtain ⟨v3, hv3, hE⟩ := Option.bind_eq_some_iff.mp hE
    refine r_gI 1 (C := RX10) (T := TX10) (N := 26) (ci := 9) hx hb hts (by decide +kernel) hown hK hH hv3 rfl (by decide) (hts (.fieldLink RX10 67 "KindStreetsModel" "typed" "I") (by decide +kernel)) (fun _ h9 => h9) dX10_type_14 ?_
    refine lv_bipush (v := 120) hx hb dX10_type_17 (by decide) ?_
    refine lv_icmp_ne (tgt := 25) hx hb dX10_type_19 (by decide) (fun c4 => ?_) (fun c4 => ?_)
    · rw [if_neg c4] at hE
      refine lv_aload_n hx hb dX10_type_25 rfl (lv_at hl 0 rfl) ?_
      obtain ⟨v5, hv5, hE⟩ := Option.bind_eq_some_iff.mp hE
      refine r_gR 0 (C := RX10) (T := TX10) (N := 26) (ci := 9) hx hb hts (by decide +kernel) hown hK hH hv5 rfl (by decide) (hts (.fieldLink RX10 7 "KindStreetsModel" "text" "[B") (by decide +kernel)) (fun _ h9 => h9) dX10_type_26 ?_
      refine lv_aload_n hx hb dX10_type_29 rfl (lv_at hl 0 rfl) ?_
      obtain ⟨v6, hv6, hE⟩ := Option.bind_eq_some_iff.mp hE
      refine r_gI 1 (C := RX10) (T := TX10) (N := 26) (ci := 9) hx hb hts (by decide +kernel) hown hK hH hv6 rfl (by decide) (hts (.fieldLink RX10 67 "KindStreetsModel" "typed" "I") (by decide +kernel)) (fun _ h9 => h9) dX10_type_30 ?_
      refine lv_iload_n hx hb dX10_type_33 rfl (lv_at hl 1 rfl) ?_
      refine lv_i2b (v := x1.toInt8.toInt32) hx hb dX10_type_34 rfl ?_
      obtain ⟨L7, hL7, hE⟩ := Option.bind_eq_some_iff.mp hE
      refine r_bast hx hb hK hH hS hL7 dX10_type_35 (fun H locs hH hS => ?_)
      refine lv_aload_n hx hb dX10_type_36 rfl (lv_at hl 0 rfl) ?_
      refine lv_dup hx hb dX10_type_37 rfl ?_
      obtain ⟨v8, hv8, hE⟩ := Option.bind_eq_some_iff.mp hE
      refine r_gI 1 (C := RX10) (T := TX10) (N := 26) (ci := 9) hx hb hts (by decide +kernel) hown hK hH hv8 rfl (by decide) (hts (.fieldLink RX10 67 "KindStreetsModel" "typed" "I") (by decide +kernel)) (fun _ h9 => h9) dX10_type_38 ?_
      refine lv_iconst (v := 1) hx hb dX10_type_41 (by decide) ?_
      refine lv_iadd hx hb dX10_type_42 ?_
      obtain ⟨L9, hL9, hE⟩ := Option.bind_eq_some_iff.mp hE
      refine r_p 1 (v := .int (v8 + 1)) (ty := .int) (C := RX10) (T := TX10) (N := 26) (ci := 9) hx hb hts (by decide +kernel) tyX10 tyX10_ok nmX10 hown hK hH hS hL9 rfl (by decide) (hts (.fieldLink RX10 67 "KindStreetsModel" "typed" "I") (by decide +kernel)) (fun _ h9 => h9) rfl (by decide +kernel) rfl rfl dX10_type_43 (fun H locs hH hS => ?_)
      refine lv_aload_n hx hb dX10_type_46 rfl (lv_at hl 0 rfl) ?_
      obtain ⟨v10, hv10, hE⟩ := Option.bind_eq_some_iff.mp hE
      refine r_gI 1 (C := RX10) (T := TX10) (N := 26) (ci := 9) hx hb hts (by decide +kernel) hown hK hH hv10 rfl (by decide) (hts (.fieldLink RX10 67 "KindStreetsModel" "typed" "I") (by decide +kernel)) (fun _ h9 => h9) dX10_type_47 ?_
      have hZ := Option.some.inj hE
      subst hZ
      exact W.iret (v := v10) hx hb hr (fun t ht hW => ⟨rfl, by rw [ht]; exact hH, hS.F ht⟩) hS.2.2 dX10_type_50
    · rw [if_pos c4] at hE
      refine lv_bipush (v := (-3)) hx hb dX10_type_22 (by decide) ?_
      have hZ := Option.some.inj hE
      subst hZ
      exact W.iret (v := (-3)) hx hb hr (fun t ht hW => ⟨rfl, by rw [ht]; exact hH, hS.F ht⟩) hS.2.2 dX10_type_24
  · rw [if_pos c2] at hE
    refine lv_iconst (v := (-1)) hx hb dX10_type_11 (by decide) ?_
    have hZ := Option.some.inj hE
    subst hZ
    exact W.iret (v := (-1)) hx hb hr (fun t ht hW => ⟨rfl, by rw [ht]; exact hH, hS.F ht⟩) hS.2.2 dX10_type_12
-- X10_clear
def fX10_clear (F : Nat) (L : HL) (a0 : Nat) : Option (Int32 × HL) := (o_ob L a0 9).bind fun _ => (o_gI L a0 9 1).bind fun v1 => (o_p L a0 9 1 (.int 0)).bind fun L2 => some (v1, L2)
theorem oX10_clear {F : Nat} {L : HL} {a0 : Nat} {z : (Int32 × HL)} (hE : fX10_clear F L a0 = some z) : o_ob L a0 9 = some () := by
  obtain ⟨_, h, _⟩ := Option.bind_eq_some_iff.mp hE
  exact h
set_option maxHeartbeats 4000000 in
set_option maxRecDepth 100000 in
theorem sX10_clear (l : Launch) (b0 : Nat) (D : va_G) (cA : Nat → ClassId) {F : Nat} {L : HL} {a0 : Nat} {z : (Int32 × HL)} (hE : fX10_clear F L a0 = some z) : Met l yX10_clear wsX10_clear (RM 0 0 0) (Pk b0 D cA [.ref (b0 + a0)] L) (Qk b0 D cA (some (.int z.1)) z.2) 0 0 (Ab b0) := by
  refine Met.ofW (cc := cX10_clear) (maxL := 2) (ret := (some .int)) (by decide) rfl ?_
  intro p ev s m args below meth c s₁ B hml hv
  obtain ⟨rfl, hH, hK⟩ := hv
  have hx := B.exec
  have hb := B.bytes
  have hr := B.returns
  have hts := atoms_spec (ws := wsX10_clear) B.pre
  have hown : s.vm.findClass RX10 = some m.cls := findClass_of_methodNamed B.named
  have hlocks := B.notSynchronized
  have hC : Cx D cA p s m _ meth c cX10_clear 2 RX10 wsX10_clear (some .int) := ⟨hx, hb, hml, hown, hts, hK, hr, hlocks⟩
  have hS : va_S (Ab b0) s.heap s.heap [] := va_S.rf
  have hl := lv_entry ([.ref (b0 + a0)]) (n := 2) (Nat.le_of_ble_eq_true rfl)
  rw [lg_entry_eq]
  generalize (lg_sl ([.ref (b0 + a0)]) ++ List.replicate (2 - (lg_sl ([.ref (b0 + a0)])).length) Slot.unset).toArray = ls at hl ⊢
  have hl : lv_has ls 2 [(0, .ref (b0 + a0))] := hl
  unfold fX10_clear at hE
  obtain ⟨_, _, hE⟩ := Option.bind_eq_some_iff.mp hE
  refine lv_aload_n hx hb dX10_clear_0 rfl (lv_at hl 0 rfl) ?_
  obtain ⟨v1, hv1, hE⟩ := Option.bind_eq_some_iff.mp hE
  refine r_gI 1 (C := RX10) (T := TX10) (N := 26) (ci := 9) hx hb hts (by decide +kernel) hown hK hH hv1 rfl (by decide) (hts (.fieldLink RX10 67 "KindStreetsModel" "typed" "I") (by decide +kernel)) (fun _ h9 => h9) dX10_clear_1 ?_
  refine lv_istore_n (lv' := [(1, .int v1), (0, .ref (b0 + a0))]) hx hb dX10_clear_4 rfl hl (by decide) rfl (fun ls hl => ?_)
  refine lv_aload_n hx hb dX10_clear_5 rfl (lv_at hl 1 rfl) ?_
  refine lv_iconst (v := 0) hx hb dX10_clear_6 (by decide) ?_
  obtain ⟨L2, hL2, hE⟩ := Option.bind_eq_some_iff.mp hE
  refine r_p 1 (v := .int 0) (ty := .int) (C := RX10) (T := TX10) (N := 26) (ci := 9) hx hb hts (by decide +kernel) tyX10 tyX10_ok nmX10 hown hK hH hS hL2 rfl (by decide) (hts (.fieldLink RX10 67 "KindStreetsModel" "typed" "I") (by decide +kernel)) (fun _ h9 => h9) rfl (by decide +kernel) rfl rfl dX10_clear_7 (fun H locs hH hS => ?_)
  refine lv_iload_n hx hb dX10_clear_10 rfl (lv_at hl 0 rfl) ?_
  have hZ := Option.some.inj hE
  subst hZ
  exact W.iret (v := v1) hx hb hr (fun t ht hW => ⟨rfl, by rw [ht]; exact hH, hS.F ht⟩) hS.2.2 dX10_clear_11
-- X10_here
def fX10_here (F : Nat) (L : HL) (a0 : Nat) : Option (Int32 × HL) := (o_ob L a0 9).bind fun _ => (o_gI L a0 9 10).bind fun v1 => (o_gI L a0 9 1).bind fun v2 => if v2 ≤ v1 then (some ((-9), L)) else ((o_gR L a0 9 0).bind fun v4 => (o_gI L a0 9 10).bind fun v5 => (o_aI L v4 1 v5).bind fun v6 => some (v6 &&& 255, L))
theorem oX10_here {F : Nat} {L : HL} {a0 : Nat} {z : (Int32 × HL)} (hE : fX10_here F L a0 = some z) : o_ob L a0 9 = some () := by
  obtain ⟨_, h, _⟩ := Option.bind_eq_some_iff.mp hE
  exact h
set_option maxHeartbeats 4000000 in
set_option maxRecDepth 100000 in
theorem sX10_here (l : Launch) (b0 : Nat) (D : va_G) (cA : Nat → ClassId) {F : Nat} {L : HL} {a0 : Nat} {z : (Int32 × HL)} (hE : fX10_here F L a0 = some z) : Met l yX10_here wsX10_here (RM 0 0 0) (Pk b0 D cA [.ref (b0 + a0)] L) (Qk b0 D cA (some (.int z.1)) z.2) 0 0 (Ab b0) := by
  refine Met.ofW (cc := cX10_here) (maxL := 1) (ret := (some .int)) (by decide) rfl ?_
  intro p ev s m args below meth c s₁ B hml hv
  obtain ⟨rfl, hH, hK⟩ := hv
  have hx := B.exec
  have hb := B.bytes
  have hr := B.returns
  have hts := atoms_spec (ws := wsX10_here) B.pre
  have hown : s.vm.findClass RX10 = some m.cls := findClass_of_methodNamed B.named
  have hlocks := B.notSynchronized
  have hC : Cx D cA p s m _ meth c cX10_here 1 RX10 wsX10_here (some .int) := ⟨hx, hb, hml, hown, hts, hK, hr, hlocks⟩
  have hS : va_S (Ab b0) s.heap s.heap [] := va_S.rf
  have hl := lv_entry ([.ref (b0 + a0)]) (n := 1) (Nat.le_of_ble_eq_true rfl)
  rw [lg_entry_eq]
  generalize (lg_sl ([.ref (b0 + a0)]) ++ List.replicate (1 - (lg_sl ([.ref (b0 + a0)])).length) Slot.unset).toArray = ls at hl ⊢
  have hl : lv_has ls 1 [(0, .ref (b0 + a0))] := hl
  unfold fX10_here at hE
  obtain ⟨_, _, hE⟩ := Option.bind_eq_some_iff.mp hE
  refine lv_aload_n hx hb dX10_here_0 rfl (lv_at hl 0 rfl) ?_
  obtain ⟨v1, hv1, hE⟩ := Option.bind_eq_some_iff.mp hE
  refine r_gI 10 (C := RX10) (T := TX10) (N := 26) (ci := 9) hx hb hts (by decide +kernel) hown hK hH hv1 rfl (by decide) (hts (.fieldLink RX10 71 "KindStreetsModel" "at" "I") (by decide +kernel)) (fun _ h9 => h9) dX10_here_1 ?_
  refine lv_aload_n hx hb dX10_here_4 rfl (lv_at hl 0 rfl) ?_
  obtain ⟨v2, hv2, hE⟩ := Option.bind_eq_some_iff.mp hE
  refine r_gI 1 (C := RX10) (T := TX10) (N := 26) (ci := 9) hx hb hts (by decide +kernel) hown hK hH hv2 rfl (by decide) (hts (.fieldLink RX10 67 "KindStreetsModel" "typed" "I") (by decide +kernel)) (fun _ h9 => h9) dX10_here_5 ?_
  refine lv_icmp_ge (tgt := 27) hx hb dX10_here_8 (by decide) (fun c3 => ?_) (fun c3 => ?_)
  · rw [if_pos c3] at hE
    refine lv_bipush (v := (-9)) hx hb dX10_here_27 (by decide) ?_
    have hZ := Option.some.inj hE
    subst hZ
    exact W.iret (v := (-9)) hx hb hr (fun t ht hW => ⟨rfl, by rw [ht]; exact hH, hS.F ht⟩) hS.2.2 dX10_here_29
  · rw [if_neg c3] at hE
    refine lv_aload_n hx hb dX10_here_11 rfl (lv_at hl 0 rfl) ?_
    obtain ⟨v4, hv4, hE⟩ := Option.bind_eq_some_iff.mp hE
    refine r_gR 0 (C := RX10) (T := TX10) (N := 26) (ci := 9) hx hb hts (by decide +kernel) hown hK hH hv4 rfl (by decide) (hts (.fieldLink RX10 7 "KindStreetsModel" "text" "[B") (by decide +kernel)) (fun _ h9 => h9) dX10_here_12 ?_
    refine lv_aload_n hx hb dX10_here_15 rfl (lv_at hl 0 rfl) ?_
    obtain ⟨v5, hv5, hE⟩ := Option.bind_eq_some_iff.mp hE
    refine r_gI 10 (C := RX10) (T := TX10) (N := 26) (ci := 9) hx hb hts (by decide +kernel) hown hK hH hv5 rfl (by decide) (hts (.fieldLink RX10 71 "KindStreetsModel" "at" "I") (by decide +kernel)) (fun _ h9 => h9) dX10_here_16 ?_
    obtain ⟨v6, hv6, hE⟩ := Option.bind_eq_some_iff.mp hE
    refine r_bald hx hb hK hH hv6 dX10_here_19 ?_
    refine lv_sipush (v := 255) hx hb dX10_here_20 (by decide) ?_
    refine lv_iand hx hb dX10_here_23 ?_
    refine lv_goto (tgt := 29) hx hb dX10_here_24 (by decide) ?_
    have hZ := Option.some.inj hE
    subst hZ
    exact W.iret (v := (v6 &&& 255)) hx hb hr (fun t ht hW => ⟨rfl, by rw [ht]; exact hH, hS.F ht⟩) hS.2.2 dX10_here_29
-- X10_step
def fX10_step_b257 (F : Nat) (y0 : Int32) (y1 : Nat) (L : HL) : Option HL := (o_p L y1 9 12 (.int y0)).bind fun L15 => some L15
set_option maxHeartbeats 4000000 in
set_option maxRecDepth 100000 in
theorem sX10_step_b257 {b0 : Nat} {D : va_G} {cA : Nat → ClassId} {p : Program} {l : Launch} {ev : Env} {s : State} {m : MethodId} {args : Array Value} {below : List Frame} {meth : Method} {c : Code} {F : Nat} {z : HL} {y0 : Int32} {y1 : Nat} {L : HL} (hC : Cx D cA p s m args meth c cX10_step 2 RX10 wsX10_step none) (hE : fX10_step_b257 F y0 y1 L = some z) : WB b0 D cA p l ev (RM 1 0 0) s m args below meth c 2 0 0 (MQ below (Qk b0 D cA none z) args s 0 0 (Ab b0)) 257 [] [.int y0, .ref (b0 + y1)] L := by
  obtain ⟨hx, hb, hml, hown, hts, hK, hr, hlocks⟩ := id hC
  intro H locs ls hH hS hl
  unfold fX10_step_b257 at hE
  obtain ⟨L15, hL15, hE⟩ := Option.bind_eq_some_iff.mp hE
  refine r_p 12 (v := .int y0) (ty := .int) (C := RX10) (T := TX10) (N := 26) (ci := 9) hx hb hts (by decide +kernel) tyX10 tyX10_ok nmX10 hown hK hH hS hL15 rfl (by decide) (hts (.fieldLink RX10 84 "KindStreetsModel" "sort" "I") (by decide +kernel)) (fun _ h9 => h9) rfl (by decide +kernel) rfl rfl dX10_step_257 (fun H locs hH hS => ?_)
  have hZ := Option.some.inj hE
  subst hZ
  exact W.vret hx hb hr (fun t ht hW => ⟨rfl, by rw [ht]; exact hH, hS.F ht⟩) hS.2.2 dX10_step_260
def fX10_step_b224 (F : Nat) (a0 : Nat) (y0 : Int32) (y1 : Nat) (L : HL) : Option HL := (o_p L y1 9 13 (.int y0)).bind fun L22 => (o_p L22 a0 9 12 (.int 1)).bind fun L23 => some L23
set_option maxHeartbeats 4000000 in
set_option maxRecDepth 100000 in
theorem sX10_step_b224 {b0 : Nat} {D : va_G} {cA : Nat → ClassId} {p : Program} {l : Launch} {ev : Env} {s : State} {m : MethodId} {args : Array Value} {below : List Frame} {meth : Method} {c : Code} {F : Nat} {z : HL} {a0 : Nat} {y0 : Int32} {y1 : Nat} {L : HL} (hC : Cx D cA p s m args meth c cX10_step 2 RX10 wsX10_step none) (hE : fX10_step_b224 F a0 y0 y1 L = some z) : WB b0 D cA p l ev (RM 1 0 0) s m args below meth c 2 0 0 (MQ below (Qk b0 D cA none z) args s 0 0 (Ab b0)) 224 [(0, .ref (b0 + a0))] [.int y0, .ref (b0 + y1)] L := by
  obtain ⟨hx, hb, hml, hown, hts, hK, hr, hlocks⟩ := id hC
  intro H locs ls hH hS hl
  unfold fX10_step_b224 at hE
  obtain ⟨L22, hL22, hE⟩ := Option.bind_eq_some_iff.mp hE
  refine r_p 13 (v := .int y0) (ty := .int) (C := RX10) (T := TX10) (N := 26) (ci := 9) hx hb hts (by decide +kernel) tyX10 tyX10_ok nmX10 hown hK hH hS hL22 rfl (by decide) (hts (.fieldLink RX10 81 "KindStreetsModel" "value" "I") (by decide +kernel)) (fun _ h9 => h9) rfl (by decide +kernel) rfl rfl dX10_step_224 (fun H locs hH hS => ?_)
  refine lv_aload_n hx hb dX10_step_227 rfl (lv_at hl 0 rfl) ?_
  refine lv_iconst (v := 1) hx hb dX10_step_228 (by decide) ?_
  obtain ⟨L23, hL23, hE⟩ := Option.bind_eq_some_iff.mp hE
  refine r_p 12 (v := .int 1) (ty := .int) (C := RX10) (T := TX10) (N := 26) (ci := 9) hx hb hts (by decide +kernel) tyX10 tyX10_ok nmX10 hown hK hH hS hL23 rfl (by decide) (hts (.fieldLink RX10 84 "KindStreetsModel" "sort" "I") (by decide +kernel)) (fun _ h9 => h9) rfl (by decide +kernel) rfl rfl dX10_step_229 (fun H locs hH hS => ?_)
  refine lv_goto (tgt := 260) hx hb dX10_step_232 (by decide) ?_
  have hZ := Option.some.inj hE
  subst hZ
  exact W.vret hx hb hr (fun t ht hW => ⟨rfl, by rw [ht]; exact hH, hS.F ht⟩) hS.2.2 dX10_step_260
def fX10_step_b178c (F : Nat) (k178 : Nat → Int32 → HL → Option HL) (a0 : Nat) (x1 : Int32) (L : HL) : Option HL := (fX10_here F L a0).bind fun z16 => (fX10_in F z16.2 z16.1 97 122).bind fun z17 => if z17.1 = 0 then ((o_gI z17.2 a0 9 10).bind fun v19 => (o_gI z17.2 a0 9 11).bind fun v20 => if (v19 - v20) = 1 then (fX10_step_b224 F a0 x1 a0 z17.2) else (fX10_step_b224 F a0 0 a0 z17.2)) else ((o_gI z17.2 a0 9 10).bind fun v24 => (o_p z17.2 a0 9 10 (.int (v24 + 1))).bind fun L25 => k178 a0 x1 L25)
def fX10_step_b178 (F : Nat) : Nat → Nat → Int32 → HL → Option HL
  | 0 => fun _ _ _ => none
  | n + 1 => fun a0 x1 L => fX10_step_b178c F (fX10_step_b178 F n) a0 x1 L
set_option maxHeartbeats 4000000 in
set_option maxRecDepth 100000 in
theorem sX10_step_b178c {b0 : Nat} {D : va_G} {cA : Nat → ClassId} {p : Program} {l : Launch} {ev : Env} {s : State} {m : MethodId} {args : Array Value} {below : List Frame} {meth : Method} {c : Code} {F : Nat} {z : HL} {k178 : Nat → Int32 → HL → Option HL} {a0 : Nat} {x1 : Int32} {L : HL} (hC : Cx D cA p s m args meth c cX10_step 2 RX10 wsX10_step none) (hk178 : ∀ (a0' : Nat) (x1' : Int32) (L' : HL), k178 a0' x1' L' = some z → WB b0 D cA p l ev (RM 1 0 0) s m args below meth c 2 0 0 (MQ below (Qk b0 D cA none z) args s 0 0 (Ab b0)) 178 [(0, .ref (b0 + a0')), (1, .int x1')] [] L') (hE : fX10_step_b178c F k178 a0 x1 L = some z) : WB b0 D cA p l ev (RM 1 0 0) s m args below meth c 2 0 0 (MQ below (Qk b0 D cA none z) args s 0 0 (Ab b0)) 178 [(0, .ref (b0 + a0)), (1, .int x1)] [] L := by
  obtain ⟨hx, hb, hml, hown, hts, hK, hr, hlocks⟩ := id hC
  intro H locs ls hH hS hl
  unfold fX10_step_b178c at hE
  refine lv_aload_n hx hb dX10_step_178 rfl (lv_at hl 0 rfl) ?_
  obtain ⟨z16, hz16, hE⟩ := Option.bind_eq_some_iff.mp hE
  refine r_callI (va_runV (As := []) (rest := []) ⟨hx, hb, hml, hown, hts⟩ (sX10_here l b0 D cA hz16) (cwV 0 hts gX10_step_X10_here rfl rfl rfl (by decide +kernel) (rm_ok (by decide) (by decide))) (pre_V (ci := 9) hK hH (oX10_here hz16) rfl) rfl rfl hl.1 rfl (lv_room (Nat.le_of_ble_eq_true rfl)) dX10_step_179 ⟨Nat.zero_le _, Nat.zero_le _⟩) hS (fun H locs hH hS => ?_)
  refine lv_bipush (v := 97) hx hb dX10_step_182 (by decide) ?_
  refine lv_bipush (v := 122) hx hb dX10_step_184 (by decide) ?_
  obtain ⟨z17, hz17, hE⟩ := Option.bind_eq_some_iff.mp hE
  refine r_callI (va_runS (As := [.int z16.1, .int 97, .int 122]) (rest := []) ⟨hx, hb, hml, hown, hts⟩ (sX10_in l b0 D cA hz17) (va_cwS 3 hts gX10_step_X10_in rfl rfl rfl (by decide +kernel) (rm_ok (by decide) (by decide))) (pre_S hK hH) rfl rfl hl.1 rfl (lv_room (Nat.le_of_ble_eq_true rfl)) dX10_step_186 ⟨Nat.zero_le _, Nat.zero_le _⟩) hS (fun H locs hH hS => ?_)
  refine lv_if_eq (tgt := 205) hx hb dX10_step_189 (by decide) (fun c18 => ?_) (fun c18 => ?_)
  · rw [if_pos c18] at hE
    refine lv_aload_n hx hb dX10_step_205 rfl (lv_at hl 0 rfl) ?_
    refine lv_aload_n hx hb dX10_step_206 rfl (lv_at hl 0 rfl) ?_
    obtain ⟨v19, hv19, hE⟩ := Option.bind_eq_some_iff.mp hE
    refine r_gI 10 (C := RX10) (T := TX10) (N := 26) (ci := 9) hx hb hts (by decide +kernel) hown hK hH hv19 rfl (by decide) (hts (.fieldLink RX10 71 "KindStreetsModel" "at" "I") (by decide +kernel)) (fun _ h9 => h9) dX10_step_207 ?_
    refine lv_aload_n hx hb dX10_step_210 rfl (lv_at hl 0 rfl) ?_
    obtain ⟨v20, hv20, hE⟩ := Option.bind_eq_some_iff.mp hE
    refine r_gI 11 (C := RX10) (T := TX10) (N := 26) (ci := 9) hx hb hts (by decide +kernel) hown hK hH hv20 rfl (by decide) (hts (.fieldLink RX10 78 "KindStreetsModel" "place" "I") (by decide +kernel)) (fun _ h9 => h9) dX10_step_211 ?_
    refine lv_isub hx hb dX10_step_214 ?_
    refine lv_iconst (v := 1) hx hb dX10_step_215 (by decide) ?_
    refine lv_icmp_ne (tgt := 223) hx hb dX10_step_216 (by decide) (fun c21 => ?_) (fun c21 => ?_)
    · rw [if_neg c21] at hE
      refine lv_iconst (v := 0) hx hb dX10_step_223 (by decide) ?_
      exact sX10_step_b224 (F := F) hC hE _ _ _ hH hS (lv_sub hl [0] rfl)
    · rw [if_pos c21] at hE
      refine lv_iload_n hx hb dX10_step_219 rfl (lv_at hl 1 rfl) ?_
      refine lv_goto (tgt := 224) hx hb dX10_step_220 (by decide) ?_
      exact sX10_step_b224 (F := F) hC hE _ _ _ hH hS (lv_sub hl [0] rfl)
  · rw [if_neg c18] at hE
    refine lv_aload_n hx hb dX10_step_192 rfl (lv_at hl 0 rfl) ?_
    refine lv_dup hx hb dX10_step_193 rfl ?_
    obtain ⟨v24, hv24, hE⟩ := Option.bind_eq_some_iff.mp hE
    refine r_gI 10 (C := RX10) (T := TX10) (N := 26) (ci := 9) hx hb hts (by decide +kernel) hown hK hH hv24 rfl (by decide) (hts (.fieldLink RX10 71 "KindStreetsModel" "at" "I") (by decide +kernel)) (fun _ h9 => h9) dX10_step_194 ?_
    refine lv_iconst (v := 1) hx hb dX10_step_197 (by decide) ?_
    refine lv_iadd hx hb dX10_step_198 ?_
    obtain ⟨L25, hL25, hE⟩ := Option.bind_eq_some_iff.mp hE
    refine r_p 10 (v := .int (v24 + 1)) (ty := .int) (C := RX10) (T := TX10) (N := 26) (ci := 9) hx hb hts (by decide +kernel) tyX10 tyX10_ok nmX10 hown hK hH hS hL25 rfl (by decide) (hts (.fieldLink RX10 71 "KindStreetsModel" "at" "I") (by decide +kernel)) (fun _ h9 => h9) rfl (by decide +kernel) rfl rfl dX10_step_199 (fun H locs hH hS => ?_)
    refine lv_goto (tgt := 178) hx hb dX10_step_202 (by decide) ?_
    exact hk178 _ _ _ hE _ _ _ hH hS (lv_sub hl [0, 1] rfl)
theorem sX10_step_b178 {b0 : Nat} {D : va_G} {cA : Nat → ClassId} {p : Program} {l : Launch} {ev : Env} {s : State} {m : MethodId} {args : Array Value} {below : List Frame} {meth : Method} {c : Code} {F : Nat} {z : HL} (hC : Cx D cA p s m args meth c cX10_step 2 RX10 wsX10_step none) : ∀ (n : Nat) (a0 : Nat) (x1 : Int32) (L : HL), fX10_step_b178 F n a0 x1 L = some z → WB b0 D cA p l ev (RM 1 0 0) s m args below meth c 2 0 0 (MQ below (Qk b0 D cA none z) args s 0 0 (Ab b0)) 178 [(0, .ref (b0 + a0)), (1, .int x1)] [] L := by
  intro n
  induction n with
  | zero => intro a0 x1 L hE; cases hE
  | succ n ih => intro a0 x1 L hE; exact sX10_step_b178c (F := F) hC ih hE
def fX10_step_b161 (F : Nat) (y0 : Int32) (y1 : Nat) (L : HL) : Option HL := (o_p L y1 9 12 (.int y0)).bind fun L31 => some L31
set_option maxHeartbeats 4000000 in
set_option maxRecDepth 100000 in
theorem sX10_step_b161 {b0 : Nat} {D : va_G} {cA : Nat → ClassId} {p : Program} {l : Launch} {ev : Env} {s : State} {m : MethodId} {args : Array Value} {below : List Frame} {meth : Method} {c : Code} {F : Nat} {z : HL} {y0 : Int32} {y1 : Nat} {L : HL} (hC : Cx D cA p s m args meth c cX10_step 2 RX10 wsX10_step none) (hE : fX10_step_b161 F y0 y1 L = some z) : WB b0 D cA p l ev (RM 1 0 0) s m args below meth c 2 0 0 (MQ below (Qk b0 D cA none z) args s 0 0 (Ab b0)) 161 [] [.int y0, .ref (b0 + y1)] L := by
  obtain ⟨hx, hb, hml, hown, hts, hK, hr, hlocks⟩ := id hC
  intro H locs ls hH hS hl
  unfold fX10_step_b161 at hE
  obtain ⟨L31, hL31, hE⟩ := Option.bind_eq_some_iff.mp hE
  refine r_p 12 (v := .int y0) (ty := .int) (C := RX10) (T := TX10) (N := 26) (ci := 9) hx hb hts (by decide +kernel) tyX10 tyX10_ok nmX10 hown hK hH hS hL31 rfl (by decide) (hts (.fieldLink RX10 84 "KindStreetsModel" "sort" "I") (by decide +kernel)) (fun _ h9 => h9) rfl (by decide +kernel) rfl rfl dX10_step_161 (fun H locs hH hS => ?_)
  refine lv_goto (tgt := 260) hx hb dX10_step_164 (by decide) ?_
  have hZ := Option.some.inj hE
  subst hZ
  exact W.vret hx hb hr (fun t ht hW => ⟨rfl, by rw [ht]; exact hH, hS.F ht⟩) hS.2.2 dX10_step_260
def fX10_step_b156 (F : Nat) (y0 : Nat) (L : HL) : Option HL := fX10_step_b161 F 5 y0 L
set_option maxHeartbeats 4000000 in
set_option maxRecDepth 100000 in
theorem sX10_step_b156 {b0 : Nat} {D : va_G} {cA : Nat → ClassId} {p : Program} {l : Launch} {ev : Env} {s : State} {m : MethodId} {args : Array Value} {below : List Frame} {meth : Method} {c : Code} {F : Nat} {z : HL} {y0 : Nat} {L : HL} (hC : Cx D cA p s m args meth c cX10_step 2 RX10 wsX10_step none) (hE : fX10_step_b156 F y0 L = some z) : WB b0 D cA p l ev (RM 1 0 0) s m args below meth c 2 0 0 (MQ below (Qk b0 D cA none z) args s 0 0 (Ab b0)) 156 [] [.ref (b0 + y0)] L := by
  obtain ⟨hx, hb, hml, hown, hts, hK, hr, hlocks⟩ := id hC
  intro H locs ls hH hS hl
  unfold fX10_step_b156 at hE
  refine lv_iconst (v := 5) hx hb dX10_step_156 (by decide) ?_
  refine lv_goto (tgt := 161) hx hb dX10_step_157 (by decide) ?_
  exact sX10_step_b161 (F := F) hC hE _ _ _ hH hS (lv_sub hl [] rfl)
def fX10_step_b160 (F : Nat) (y0 : Nat) (L : HL) : Option HL := fX10_step_b161 F 2 y0 L
set_option maxHeartbeats 4000000 in
set_option maxRecDepth 100000 in
theorem sX10_step_b160 {b0 : Nat} {D : va_G} {cA : Nat → ClassId} {p : Program} {l : Launch} {ev : Env} {s : State} {m : MethodId} {args : Array Value} {below : List Frame} {meth : Method} {c : Code} {F : Nat} {z : HL} {y0 : Nat} {L : HL} (hC : Cx D cA p s m args meth c cX10_step 2 RX10 wsX10_step none) (hE : fX10_step_b160 F y0 L = some z) : WB b0 D cA p l ev (RM 1 0 0) s m args below meth c 2 0 0 (MQ below (Qk b0 D cA none z) args s 0 0 (Ab b0)) 160 [] [.ref (b0 + y0)] L := by
  obtain ⟨hx, hb, hml, hown, hts, hK, hr, hlocks⟩ := id hC
  intro H locs ls hH hS hl
  unfold fX10_step_b160 at hE
  refine lv_iconst (v := 2) hx hb dX10_step_160 (by decide) ?_
  exact sX10_step_b161 (F := F) hC hE _ _ _ hH hS (lv_sub hl [] rfl)
def fX10_step_b111 (F : Nat) (k65 : Nat → Int32 → HL → Option HL) (a0 : Nat) (x1 : Int32) (y0 : Int32) (y1 : Nat) (L : HL) : Option HL := (o_p L y1 9 13 (.int y0)).bind fun L40 => (o_gI L40 a0 9 10).bind fun v41 => (o_p L40 a0 9 10 (.int (v41 + 1))).bind fun L42 => k65 a0 x1 L42
set_option maxHeartbeats 4000000 in
set_option maxRecDepth 100000 in
theorem sX10_step_b111 {b0 : Nat} {D : va_G} {cA : Nat → ClassId} {p : Program} {l : Launch} {ev : Env} {s : State} {m : MethodId} {args : Array Value} {below : List Frame} {meth : Method} {c : Code} {F : Nat} {z : HL} {k65 : Nat → Int32 → HL → Option HL} {a0 : Nat} {x1 : Int32} {y0 : Int32} {y1 : Nat} {L : HL} (hC : Cx D cA p s m args meth c cX10_step 2 RX10 wsX10_step none) (hk65 : ∀ (a0' : Nat) (x1' : Int32) (L' : HL), k65 a0' x1' L' = some z → WB b0 D cA p l ev (RM 1 0 0) s m args below meth c 2 0 0 (MQ below (Qk b0 D cA none z) args s 0 0 (Ab b0)) 65 [(0, .ref (b0 + a0')), (1, .int x1')] [] L') (hE : fX10_step_b111 F k65 a0 x1 y0 y1 L = some z) : WB b0 D cA p l ev (RM 1 0 0) s m args below meth c 2 0 0 (MQ below (Qk b0 D cA none z) args s 0 0 (Ab b0)) 111 [(0, .ref (b0 + a0)), (1, .int x1)] [.int y0, .ref (b0 + y1)] L := by
  obtain ⟨hx, hb, hml, hown, hts, hK, hr, hlocks⟩ := id hC
  intro H locs ls hH hS hl
  unfold fX10_step_b111 at hE
  obtain ⟨L40, hL40, hE⟩ := Option.bind_eq_some_iff.mp hE
  refine r_p 13 (v := .int y0) (ty := .int) (C := RX10) (T := TX10) (N := 26) (ci := 9) hx hb hts (by decide +kernel) tyX10 tyX10_ok nmX10 hown hK hH hS hL40 rfl (by decide) (hts (.fieldLink RX10 81 "KindStreetsModel" "value" "I") (by decide +kernel)) (fun _ h9 => h9) rfl (by decide +kernel) rfl rfl dX10_step_111 (fun H locs hH hS => ?_)
  refine lv_aload_n hx hb dX10_step_114 rfl (lv_at hl 0 rfl) ?_
  refine lv_dup hx hb dX10_step_115 rfl ?_
  obtain ⟨v41, hv41, hE⟩ := Option.bind_eq_some_iff.mp hE
  refine r_gI 10 (C := RX10) (T := TX10) (N := 26) (ci := 9) hx hb hts (by decide +kernel) hown hK hH hv41 rfl (by decide) (hts (.fieldLink RX10 71 "KindStreetsModel" "at" "I") (by decide +kernel)) (fun _ h9 => h9) dX10_step_116 ?_
  refine lv_iconst (v := 1) hx hb dX10_step_119 (by decide) ?_
  refine lv_iadd hx hb dX10_step_120 ?_
  obtain ⟨L42, hL42, hE⟩ := Option.bind_eq_some_iff.mp hE
  refine r_p 10 (v := .int (v41 + 1)) (ty := .int) (C := RX10) (T := TX10) (N := 26) (ci := 9) hx hb hts (by decide +kernel) tyX10 tyX10_ok nmX10 hown hK hH hS hL42 rfl (by decide) (hts (.fieldLink RX10 71 "KindStreetsModel" "at" "I") (by decide +kernel)) (fun _ h9 => h9) rfl (by decide +kernel) rfl rfl dX10_step_121 (fun H locs hH hS => ?_)
  refine lv_goto (tgt := 65) hx hb dX10_step_124 (by decide) ?_
  exact hk65 _ _ _ hE _ _ _ hH hS (lv_sub hl [0, 1] rfl)
def fX10_step_b65c (F : Nat) (k65 : Nat → Int32 → HL → Option HL) (a0 : Nat) (x1 : Int32) (L : HL) : Option HL := (fX10_here F L a0).bind fun z26 => (fX10_in F z26.2 z26.1 48 57).bind fun z27 => if z27.1 = 0 then ((o_gI z27.2 a0 9 13).bind fun v29 => if 99 < v29 then (fX10_step_b156 F a0 z27.2) else (if x1 = 48 then ((o_gI z27.2 a0 9 10).bind fun v33 => (o_gI z27.2 a0 9 11).bind fun v34 => if (v33 - v34) ≤ 1 then (fX10_step_b160 F a0 z27.2) else (fX10_step_b156 F a0 z27.2)) else (fX10_step_b160 F a0 z27.2))) else ((o_gI z27.2 a0 9 13).bind fun v36 => if v36 ≤ 99 then ((o_gI z27.2 a0 9 13).bind fun v38 => (fX10_here F z27.2 a0).bind fun z39 => fX10_step_b111 F k65 a0 x1 (((10 * v38) + z39.1) - 48) a0 z39.2) else ((o_gI z27.2 a0 9 13).bind fun v43 => fX10_step_b111 F k65 a0 x1 v43 a0 z27.2))
def fX10_step_b65 (F : Nat) : Nat → Nat → Int32 → HL → Option HL
  | 0 => fun _ _ _ => none
  | n + 1 => fun a0 x1 L => fX10_step_b65c F (fX10_step_b65 F n) a0 x1 L
set_option maxHeartbeats 4000000 in
set_option maxRecDepth 100000 in
theorem sX10_step_b65c {b0 : Nat} {D : va_G} {cA : Nat → ClassId} {p : Program} {l : Launch} {ev : Env} {s : State} {m : MethodId} {args : Array Value} {below : List Frame} {meth : Method} {c : Code} {F : Nat} {z : HL} {k65 : Nat → Int32 → HL → Option HL} {a0 : Nat} {x1 : Int32} {L : HL} (hC : Cx D cA p s m args meth c cX10_step 2 RX10 wsX10_step none) (hk65 : ∀ (a0' : Nat) (x1' : Int32) (L' : HL), k65 a0' x1' L' = some z → WB b0 D cA p l ev (RM 1 0 0) s m args below meth c 2 0 0 (MQ below (Qk b0 D cA none z) args s 0 0 (Ab b0)) 65 [(0, .ref (b0 + a0')), (1, .int x1')] [] L') (hE : fX10_step_b65c F k65 a0 x1 L = some z) : WB b0 D cA p l ev (RM 1 0 0) s m args below meth c 2 0 0 (MQ below (Qk b0 D cA none z) args s 0 0 (Ab b0)) 65 [(0, .ref (b0 + a0)), (1, .int x1)] [] L := by
  obtain ⟨hx, hb, hml, hown, hts, hK, hr, hlocks⟩ := id hC
  intro H locs ls hH hS hl
  unfold fX10_step_b65c at hE
  refine lv_aload_n hx hb dX10_step_65 rfl (lv_at hl 0 rfl) ?_
  obtain ⟨z26, hz26, hE⟩ := Option.bind_eq_some_iff.mp hE
  refine r_callI (va_runV (As := []) (rest := []) ⟨hx, hb, hml, hown, hts⟩ (sX10_here l b0 D cA hz26) (cwV 0 hts gX10_step_X10_here rfl rfl rfl (by decide +kernel) (rm_ok (by decide) (by decide))) (pre_V (ci := 9) hK hH (oX10_here hz26) rfl) rfl rfl hl.1 rfl (lv_room (Nat.le_of_ble_eq_true rfl)) dX10_step_66 ⟨Nat.zero_le _, Nat.zero_le _⟩) hS (fun H locs hH hS => ?_)
  refine lv_bipush (v := 48) hx hb dX10_step_69 (by decide) ?_
  refine lv_bipush (v := 57) hx hb dX10_step_71 (by decide) ?_
  obtain ⟨z27, hz27, hE⟩ := Option.bind_eq_some_iff.mp hE
  refine r_callI (va_runS (As := [.int z26.1, .int 48, .int 57]) (rest := []) ⟨hx, hb, hml, hown, hts⟩ (sX10_in l b0 D cA hz27) (va_cwS 3 hts gX10_step_X10_in rfl rfl rfl (by decide +kernel) (rm_ok (by decide) (by decide))) (pre_S hK hH) rfl rfl hl.1 rfl (lv_room (Nat.le_of_ble_eq_true rfl)) dX10_step_73 ⟨Nat.zero_le _, Nat.zero_le _⟩) hS (fun H locs hH hS => ?_)
  refine lv_if_eq (tgt := 127) hx hb dX10_step_76 (by decide) (fun c28 => ?_) (fun c28 => ?_)
  · rw [if_pos c28] at hE
    refine lv_aload_n hx hb dX10_step_127 rfl (lv_at hl 0 rfl) ?_
    refine lv_aload_n hx hb dX10_step_128 rfl (lv_at hl 0 rfl) ?_
    obtain ⟨v29, hv29, hE⟩ := Option.bind_eq_some_iff.mp hE
    refine r_gI 13 (C := RX10) (T := TX10) (N := 26) (ci := 9) hx hb hts (by decide +kernel) hown hK hH hv29 rfl (by decide) (hts (.fieldLink RX10 81 "KindStreetsModel" "value" "I") (by decide +kernel)) (fun _ h9 => h9) dX10_step_129 ?_
    refine lv_bipush (v := 99) hx hb dX10_step_132 (by decide) ?_
    refine lv_icmp_gt (tgt := 156) hx hb dX10_step_134 (by decide) (fun c30 => ?_) (fun c30 => ?_)
    · rw [if_pos c30] at hE
      exact sX10_step_b156 (F := F) hC hE _ _ _ hH hS (lv_sub hl [] rfl)
    · rw [if_neg c30] at hE
      refine lv_iload_n hx hb dX10_step_137 rfl (lv_at hl 1 rfl) ?_
      refine lv_bipush (v := 48) hx hb dX10_step_138 (by decide) ?_
      refine lv_icmp_ne (tgt := 160) hx hb dX10_step_140 (by decide) (fun c32 => ?_) (fun c32 => ?_)
      · rw [if_neg c32] at hE
        exact sX10_step_b160 (F := F) hC hE _ _ _ hH hS (lv_sub hl [] rfl)
      · rw [if_pos c32] at hE
        refine lv_aload_n hx hb dX10_step_143 rfl (lv_at hl 0 rfl) ?_
        obtain ⟨v33, hv33, hE⟩ := Option.bind_eq_some_iff.mp hE
        refine r_gI 10 (C := RX10) (T := TX10) (N := 26) (ci := 9) hx hb hts (by decide +kernel) hown hK hH hv33 rfl (by decide) (hts (.fieldLink RX10 71 "KindStreetsModel" "at" "I") (by decide +kernel)) (fun _ h9 => h9) dX10_step_144 ?_
        refine lv_aload_n hx hb dX10_step_147 rfl (lv_at hl 0 rfl) ?_
        obtain ⟨v34, hv34, hE⟩ := Option.bind_eq_some_iff.mp hE
        refine r_gI 11 (C := RX10) (T := TX10) (N := 26) (ci := 9) hx hb hts (by decide +kernel) hown hK hH hv34 rfl (by decide) (hts (.fieldLink RX10 78 "KindStreetsModel" "place" "I") (by decide +kernel)) (fun _ h9 => h9) dX10_step_148 ?_
        refine lv_isub hx hb dX10_step_151 ?_
        refine lv_iconst (v := 1) hx hb dX10_step_152 (by decide) ?_
        refine lv_icmp_le (tgt := 160) hx hb dX10_step_153 (by decide) (fun c35 => ?_) (fun c35 => ?_)
        · rw [if_pos c35] at hE
          exact sX10_step_b160 (F := F) hC hE _ _ _ hH hS (lv_sub hl [] rfl)
        · rw [if_neg c35] at hE
          exact sX10_step_b156 (F := F) hC hE _ _ _ hH hS (lv_sub hl [] rfl)
  · rw [if_neg c28] at hE
    refine lv_aload_n hx hb dX10_step_79 rfl (lv_at hl 0 rfl) ?_
    refine lv_aload_n hx hb dX10_step_80 rfl (lv_at hl 0 rfl) ?_
    obtain ⟨v36, hv36, hE⟩ := Option.bind_eq_some_iff.mp hE
    refine r_gI 13 (C := RX10) (T := TX10) (N := 26) (ci := 9) hx hb hts (by decide +kernel) hown hK hH hv36 rfl (by decide) (hts (.fieldLink RX10 81 "KindStreetsModel" "value" "I") (by decide +kernel)) (fun _ h9 => h9) dX10_step_81 ?_
    refine lv_bipush (v := 99) hx hb dX10_step_84 (by decide) ?_
    refine lv_icmp_le (tgt := 96) hx hb dX10_step_86 (by decide) (fun c37 => ?_) (fun c37 => ?_)
    · rw [if_pos c37] at hE
      refine lv_bipush (v := 10) hx hb dX10_step_96 (by decide) ?_
      refine lv_aload_n hx hb dX10_step_98 rfl (lv_at hl 0 rfl) ?_
      obtain ⟨v38, hv38, hE⟩ := Option.bind_eq_some_iff.mp hE
      refine r_gI 13 (C := RX10) (T := TX10) (N := 26) (ci := 9) hx hb hts (by decide +kernel) hown hK hH hv38 rfl (by decide) (hts (.fieldLink RX10 81 "KindStreetsModel" "value" "I") (by decide +kernel)) (fun _ h9 => h9) dX10_step_99 ?_
      refine lv_imul hx hb dX10_step_102 ?_
      refine lv_aload_n hx hb dX10_step_103 rfl (lv_at hl 0 rfl) ?_
      obtain ⟨z39, hz39, hE⟩ := Option.bind_eq_some_iff.mp hE
      refine r_callI (va_runV (As := []) (rest := [.int (10 * v38), .ref (b0 + a0)]) ⟨hx, hb, hml, hown, hts⟩ (sX10_here l b0 D cA hz39) (cwV 0 hts gX10_step_X10_here rfl rfl rfl (by decide +kernel) (rm_ok (by decide) (by decide))) (pre_V (ci := 9) hK hH (oX10_here hz39) rfl) rfl rfl hl.1 rfl (lv_room (Nat.le_of_ble_eq_true rfl)) dX10_step_104 ⟨Nat.zero_le _, Nat.zero_le _⟩) hS (fun H locs hH hS => ?_)
      refine lv_iadd hx hb dX10_step_107 ?_
      refine lv_bipush (v := 48) hx hb dX10_step_108 (by decide) ?_
      refine lv_isub hx hb dX10_step_110 ?_
      exact sX10_step_b111 (F := F) hC hk65 hE _ _ _ hH hS (lv_sub hl [0, 1] rfl)
    · rw [if_neg c37] at hE
      refine lv_aload_n hx hb dX10_step_89 rfl (lv_at hl 0 rfl) ?_
      obtain ⟨v43, hv43, hE⟩ := Option.bind_eq_some_iff.mp hE
      refine r_gI 13 (C := RX10) (T := TX10) (N := 26) (ci := 9) hx hb hts (by decide +kernel) hown hK hH hv43 rfl (by decide) (hts (.fieldLink RX10 81 "KindStreetsModel" "value" "I") (by decide +kernel)) (fun _ h9 => h9) dX10_step_90 ?_
      refine lv_goto (tgt := 111) hx hb dX10_step_93 (by decide) ?_
      exact sX10_step_b111 (F := F) hC hk65 hE _ _ _ hH hS (lv_sub hl [0, 1] rfl)
theorem sX10_step_b65 {b0 : Nat} {D : va_G} {cA : Nat → ClassId} {p : Program} {l : Launch} {ev : Env} {s : State} {m : MethodId} {args : Array Value} {below : List Frame} {meth : Method} {c : Code} {F : Nat} {z : HL} (hC : Cx D cA p s m args meth c cX10_step 2 RX10 wsX10_step none) : ∀ (n : Nat) (a0 : Nat) (x1 : Int32) (L : HL), fX10_step_b65 F n a0 x1 L = some z → WB b0 D cA p l ev (RM 1 0 0) s m args below meth c 2 0 0 (MQ below (Qk b0 D cA none z) args s 0 0 (Ab b0)) 65 [(0, .ref (b0 + a0)), (1, .int x1)] [] L := by
  intro n
  induction n with
  | zero => intro a0 x1 L hE; cases hE
  | succ n ih => intro a0 x1 L hE; exact sX10_step_b65c (F := F) hC ih hE
def fX10_step_b0c (F : Nat) (k0 : Nat → HL → Option HL) (a0 : Nat) (L : HL) : Option HL := (fX10_here F L a0).bind fun z1 => if z1.1 = 32 then ((o_gI z1.2 a0 9 10).bind fun v45 => (o_p z1.2 a0 9 10 (.int (v45 + 1))).bind fun L46 => k0 a0 L46) else ((o_gI z1.2 a0 9 10).bind fun v3 => (o_p z1.2 a0 9 11 (.int v3)).bind fun L4 => (o_p L4 a0 9 13 (.int 0)).bind fun L5 => (fX10_here F L5 a0).bind fun z6 => if z6.1 = (-9) then ((o_p z6.2 a0 9 12 (.int 4)).bind fun L44 => some L44) else ((fX10_in F z6.2 z6.1 48 57).bind fun z8 => if z8.1 = 0 then ((fX10_in F z8.2 z6.1 97 122).bind fun z10 => if z10.1 = 0 then ((o_gI z10.2 a0 9 10).bind fun v12 => (o_p z10.2 a0 9 10 (.int (v12 + 1))).bind fun L13 => if z6.1 = 59 then (fX10_step_b257 F 3 a0 L13) else (fX10_step_b257 F 5 a0 L13)) else (fX10_step_b178 F F a0 z6.1 z10.2)) else (fX10_step_b65 F F a0 z6.1 z8.2)))
def fX10_step_b0 (F : Nat) : Nat → Nat → HL → Option HL
  | 0 => fun _ _ => none
  | n + 1 => fun a0 L => fX10_step_b0c F (fX10_step_b0 F n) a0 L
set_option maxHeartbeats 4000000 in
set_option maxRecDepth 100000 in
theorem sX10_step_b0c {b0 : Nat} {D : va_G} {cA : Nat → ClassId} {p : Program} {l : Launch} {ev : Env} {s : State} {m : MethodId} {args : Array Value} {below : List Frame} {meth : Method} {c : Code} {F : Nat} {z : HL} {k0 : Nat → HL → Option HL} {a0 : Nat} {L : HL} (hC : Cx D cA p s m args meth c cX10_step 2 RX10 wsX10_step none) (hk0 : ∀ (a0' : Nat) (L' : HL), k0 a0' L' = some z → WB b0 D cA p l ev (RM 1 0 0) s m args below meth c 2 0 0 (MQ below (Qk b0 D cA none z) args s 0 0 (Ab b0)) 0 [(0, .ref (b0 + a0'))] [] L') (hE : fX10_step_b0c F k0 a0 L = some z) : WB b0 D cA p l ev (RM 1 0 0) s m args below meth c 2 0 0 (MQ below (Qk b0 D cA none z) args s 0 0 (Ab b0)) 0 [(0, .ref (b0 + a0))] [] L := by
  obtain ⟨hx, hb, hml, hown, hts, hK, hr, hlocks⟩ := id hC
  intro H locs ls hH hS hl
  unfold fX10_step_b0c at hE
  refine lv_aload_n hx hb dX10_step_0 rfl (lv_at hl 0 rfl) ?_
  obtain ⟨z1, hz1, hE⟩ := Option.bind_eq_some_iff.mp hE
  refine r_callI (va_runV (As := []) (rest := []) ⟨hx, hb, hml, hown, hts⟩ (sX10_here l b0 D cA hz1) (cwV 0 hts gX10_step_X10_here rfl rfl rfl (by decide +kernel) (rm_ok (by decide) (by decide))) (pre_V (ci := 9) hK hH (oX10_here hz1) rfl) rfl rfl hl.1 rfl (lv_room (Nat.le_of_ble_eq_true rfl)) dX10_step_1 ⟨Nat.zero_le _, Nat.zero_le _⟩) hS (fun H locs hH hS => ?_)
  refine lv_bipush (v := 32) hx hb dX10_step_4 (by decide) ?_
  refine lv_icmp_ne (tgt := 22) hx hb dX10_step_6 (by decide) (fun c2 => ?_) (fun c2 => ?_)
  · rw [if_neg c2] at hE
    refine lv_aload_n hx hb dX10_step_22 rfl (lv_at hl 0 rfl) ?_
    refine lv_aload_n hx hb dX10_step_23 rfl (lv_at hl 0 rfl) ?_
    obtain ⟨v3, hv3, hE⟩ := Option.bind_eq_some_iff.mp hE
    refine r_gI 10 (C := RX10) (T := TX10) (N := 26) (ci := 9) hx hb hts (by decide +kernel) hown hK hH hv3 rfl (by decide) (hts (.fieldLink RX10 71 "KindStreetsModel" "at" "I") (by decide +kernel)) (fun _ h9 => h9) dX10_step_24 ?_
    obtain ⟨L4, hL4, hE⟩ := Option.bind_eq_some_iff.mp hE
    refine r_p 11 (v := .int v3) (ty := .int) (C := RX10) (T := TX10) (N := 26) (ci := 9) hx hb hts (by decide +kernel) tyX10 tyX10_ok nmX10 hown hK hH hS hL4 rfl (by decide) (hts (.fieldLink RX10 78 "KindStreetsModel" "place" "I") (by decide +kernel)) (fun _ h9 => h9) rfl (by decide +kernel) rfl rfl dX10_step_27 (fun H locs hH hS => ?_)
    refine lv_aload_n hx hb dX10_step_30 rfl (lv_at hl 0 rfl) ?_
    refine lv_iconst (v := 0) hx hb dX10_step_31 (by decide) ?_
    obtain ⟨L5, hL5, hE⟩ := Option.bind_eq_some_iff.mp hE
    refine r_p 13 (v := .int 0) (ty := .int) (C := RX10) (T := TX10) (N := 26) (ci := 9) hx hb hts (by decide +kernel) tyX10 tyX10_ok nmX10 hown hK hH hS hL5 rfl (by decide) (hts (.fieldLink RX10 81 "KindStreetsModel" "value" "I") (by decide +kernel)) (fun _ h9 => h9) rfl (by decide +kernel) rfl rfl dX10_step_32 (fun H locs hH hS => ?_)
    refine lv_aload_n hx hb dX10_step_35 rfl (lv_at hl 0 rfl) ?_
    obtain ⟨z6, hz6, hE⟩ := Option.bind_eq_some_iff.mp hE
    refine r_callI (va_runV (As := []) (rest := []) ⟨hx, hb, hml, hown, hts⟩ (sX10_here l b0 D cA hz6) (cwV 0 hts gX10_step_X10_here rfl rfl rfl (by decide +kernel) (rm_ok (by decide) (by decide))) (pre_V (ci := 9) hK hH (oX10_here hz6) rfl) rfl rfl hl.1 rfl (lv_room (Nat.le_of_ble_eq_true rfl)) dX10_step_36 ⟨Nat.zero_le _, Nat.zero_le _⟩) hS (fun H locs hH hS => ?_)
    refine lv_istore_n (lv' := [(1, .int z6.1), (0, .ref (b0 + a0))]) hx hb dX10_step_39 rfl hl (by decide) rfl (fun ls hl => ?_)
    refine lv_iload_n hx hb dX10_step_40 rfl (lv_at hl 0 rfl) ?_
    refine lv_bipush (v := (-9)) hx hb dX10_step_41 (by decide) ?_
    refine lv_icmp_ne (tgt := 54) hx hb dX10_step_43 (by decide) (fun c7 => ?_) (fun c7 => ?_)
    · rw [if_neg c7] at hE
      refine lv_iload_n hx hb dX10_step_54 rfl (lv_at hl 0 rfl) ?_
      refine lv_bipush (v := 48) hx hb dX10_step_55 (by decide) ?_
      refine lv_bipush (v := 57) hx hb dX10_step_57 (by decide) ?_
      obtain ⟨z8, hz8, hE⟩ := Option.bind_eq_some_iff.mp hE
      refine r_callI (va_runS (As := [.int z6.1, .int 48, .int 57]) (rest := []) ⟨hx, hb, hml, hown, hts⟩ (sX10_in l b0 D cA hz8) (va_cwS 3 hts gX10_step_X10_in rfl rfl rfl (by decide +kernel) (rm_ok (by decide) (by decide))) (pre_S hK hH) rfl rfl hl.1 rfl (lv_room (Nat.le_of_ble_eq_true rfl)) dX10_step_59 ⟨Nat.zero_le _, Nat.zero_le _⟩) hS (fun H locs hH hS => ?_)
      refine lv_if_eq (tgt := 167) hx hb dX10_step_62 (by decide) (fun c9 => ?_) (fun c9 => ?_)
      · rw [if_pos c9] at hE
        refine lv_iload_n hx hb dX10_step_167 rfl (lv_at hl 0 rfl) ?_
        refine lv_bipush (v := 97) hx hb dX10_step_168 (by decide) ?_
        refine lv_bipush (v := 122) hx hb dX10_step_170 (by decide) ?_
        obtain ⟨z10, hz10, hE⟩ := Option.bind_eq_some_iff.mp hE
        refine r_callI (va_runS (As := [.int z6.1, .int 97, .int 122]) (rest := []) ⟨hx, hb, hml, hown, hts⟩ (sX10_in l b0 D cA hz10) (va_cwS 3 hts gX10_step_X10_in rfl rfl rfl (by decide +kernel) (rm_ok (by decide) (by decide))) (pre_S hK hH) rfl rfl hl.1 rfl (lv_room (Nat.le_of_ble_eq_true rfl)) dX10_step_172 ⟨Nat.zero_le _, Nat.zero_le _⟩) hS (fun H locs hH hS => ?_)
        refine lv_if_eq (tgt := 235) hx hb dX10_step_175 (by decide) (fun c11 => ?_) (fun c11 => ?_)
        · rw [if_pos c11] at hE
          refine lv_aload_n hx hb dX10_step_235 rfl (lv_at hl 1 rfl) ?_
          refine lv_dup hx hb dX10_step_236 rfl ?_
          obtain ⟨v12, hv12, hE⟩ := Option.bind_eq_some_iff.mp hE
          refine r_gI 10 (C := RX10) (T := TX10) (N := 26) (ci := 9) hx hb hts (by decide +kernel) hown hK hH hv12 rfl (by decide) (hts (.fieldLink RX10 71 "KindStreetsModel" "at" "I") (by decide +kernel)) (fun _ h9 => h9) dX10_step_237 ?_
          refine lv_iconst (v := 1) hx hb dX10_step_240 (by decide) ?_
          refine lv_iadd hx hb dX10_step_241 ?_
          obtain ⟨L13, hL13, hE⟩ := Option.bind_eq_some_iff.mp hE
          refine r_p 10 (v := .int (v12 + 1)) (ty := .int) (C := RX10) (T := TX10) (N := 26) (ci := 9) hx hb hts (by decide +kernel) tyX10 tyX10_ok nmX10 hown hK hH hS hL13 rfl (by decide) (hts (.fieldLink RX10 71 "KindStreetsModel" "at" "I") (by decide +kernel)) (fun _ h9 => h9) rfl (by decide +kernel) rfl rfl dX10_step_242 (fun H locs hH hS => ?_)
          refine lv_aload_n hx hb dX10_step_245 rfl (lv_at hl 1 rfl) ?_
          refine lv_iload_n hx hb dX10_step_246 rfl (lv_at hl 0 rfl) ?_
          refine lv_bipush (v := 59) hx hb dX10_step_247 (by decide) ?_
          refine lv_icmp_ne (tgt := 256) hx hb dX10_step_249 (by decide) (fun c14 => ?_) (fun c14 => ?_)
          · rw [if_neg c14] at hE
            refine lv_iconst (v := 5) hx hb dX10_step_256 (by decide) ?_
            exact sX10_step_b257 (F := F) hC hE _ _ _ hH hS (lv_sub hl [] rfl)
          · rw [if_pos c14] at hE
            refine lv_iconst (v := 3) hx hb dX10_step_252 (by decide) ?_
            refine lv_goto (tgt := 257) hx hb dX10_step_253 (by decide) ?_
            exact sX10_step_b257 (F := F) hC hE _ _ _ hH hS (lv_sub hl [] rfl)
        · rw [if_neg c11] at hE
          exact sX10_step_b178 (F := F) hC F _ _ _ hE _ _ _ hH hS (lv_sub hl [1, 0] rfl)
      · rw [if_neg c9] at hE
        exact sX10_step_b65 (F := F) hC F _ _ _ hE _ _ _ hH hS (lv_sub hl [1, 0] rfl)
    · rw [if_pos c7] at hE
      refine lv_aload_n hx hb dX10_step_46 rfl (lv_at hl 1 rfl) ?_
      refine lv_iconst (v := 4) hx hb dX10_step_47 (by decide) ?_
      obtain ⟨L44, hL44, hE⟩ := Option.bind_eq_some_iff.mp hE
      refine r_p 12 (v := .int 4) (ty := .int) (C := RX10) (T := TX10) (N := 26) (ci := 9) hx hb hts (by decide +kernel) tyX10 tyX10_ok nmX10 hown hK hH hS hL44 rfl (by decide) (hts (.fieldLink RX10 84 "KindStreetsModel" "sort" "I") (by decide +kernel)) (fun _ h9 => h9) rfl (by decide +kernel) rfl rfl dX10_step_48 (fun H locs hH hS => ?_)
      refine lv_goto (tgt := 260) hx hb dX10_step_51 (by decide) ?_
      have hZ := Option.some.inj hE
      subst hZ
      exact W.vret hx hb hr (fun t ht hW => ⟨rfl, by rw [ht]; exact hH, hS.F ht⟩) hS.2.2 dX10_step_260
  · rw [if_pos c2] at hE
    refine lv_aload_n hx hb dX10_step_9 rfl (lv_at hl 0 rfl) ?_
    refine lv_dup hx hb dX10_step_10 rfl ?_
    obtain ⟨v45, hv45, hE⟩ := Option.bind_eq_some_iff.mp hE
    refine r_gI 10 (C := RX10) (T := TX10) (N := 26) (ci := 9) hx hb hts (by decide +kernel) hown hK hH hv45 rfl (by decide) (hts (.fieldLink RX10 71 "KindStreetsModel" "at" "I") (by decide +kernel)) (fun _ h9 => h9) dX10_step_11 ?_
    refine lv_iconst (v := 1) hx hb dX10_step_14 (by decide) ?_
    refine lv_iadd hx hb dX10_step_15 ?_
    obtain ⟨L46, hL46, hE⟩ := Option.bind_eq_some_iff.mp hE
    refine r_p 10 (v := .int (v45 + 1)) (ty := .int) (C := RX10) (T := TX10) (N := 26) (ci := 9) hx hb hts (by decide +kernel) tyX10 tyX10_ok nmX10 hown hK hH hS hL46 rfl (by decide) (hts (.fieldLink RX10 71 "KindStreetsModel" "at" "I") (by decide +kernel)) (fun _ h9 => h9) rfl (by decide +kernel) rfl rfl dX10_step_16 (fun H locs hH hS => ?_)
    refine lv_goto (tgt := 0) hx hb dX10_step_19 (by decide) ?_
    exact hk0 _ _ hE _ _ _ hH hS (lv_sub hl [0] rfl)
theorem sX10_step_b0 {b0 : Nat} {D : va_G} {cA : Nat → ClassId} {p : Program} {l : Launch} {ev : Env} {s : State} {m : MethodId} {args : Array Value} {below : List Frame} {meth : Method} {c : Code} {F : Nat} {z : HL} (hC : Cx D cA p s m args meth c cX10_step 2 RX10 wsX10_step none) : ∀ (n : Nat) (a0 : Nat) (L : HL), fX10_step_b0 F n a0 L = some z → WB b0 D cA p l ev (RM 1 0 0) s m args below meth c 2 0 0 (MQ below (Qk b0 D cA none z) args s 0 0 (Ab b0)) 0 [(0, .ref (b0 + a0))] [] L := by
  intro n
  induction n with
  | zero => intro a0 L hE; cases hE
  | succ n ih => intro a0 L hE; exact sX10_step_b0c (F := F) hC ih hE
def fX10_step (F : Nat) (L : HL) (a0 : Nat) : Option HL := (o_ob L a0 9).bind fun _ => fX10_step_b0 F F a0 L
theorem oX10_step {F : Nat} {L : HL} {a0 : Nat} {z : HL} (hE : fX10_step F L a0 = some z) : o_ob L a0 9 = some () := by
  obtain ⟨_, h, _⟩ := Option.bind_eq_some_iff.mp hE
  exact h
set_option maxHeartbeats 4000000 in
set_option maxRecDepth 100000 in
theorem sX10_step (l : Launch) (b0 : Nat) (D : va_G) (cA : Nat → ClassId) {F : Nat} {L : HL} {a0 : Nat} {z : HL} (hE : fX10_step F L a0 = some z) : Met l yX10_step wsX10_step (RM 1 0 0) (Pk b0 D cA [.ref (b0 + a0)] L) (Qk b0 D cA none z) 0 0 (Ab b0) := by
  refine Met.ofW (cc := cX10_step) (maxL := 2) (ret := none) (by decide) rfl ?_
  intro p ev s m args below meth c s₁ B hml hv
  obtain ⟨rfl, hH, hK⟩ := hv
  have hx := B.exec
  have hb := B.bytes
  have hr := B.returns
  have hts := atoms_spec (ws := wsX10_step) B.pre
  have hown : s.vm.findClass RX10 = some m.cls := findClass_of_methodNamed B.named
  have hlocks := B.notSynchronized
  have hC : Cx D cA p s m _ meth c cX10_step 2 RX10 wsX10_step none := ⟨hx, hb, hml, hown, hts, hK, hr, hlocks⟩
  have hS : va_S (Ab b0) s.heap s.heap [] := va_S.rf
  have hl := lv_entry ([.ref (b0 + a0)]) (n := 2) (Nat.le_of_ble_eq_true rfl)
  rw [lg_entry_eq]
  generalize (lg_sl ([.ref (b0 + a0)]) ++ List.replicate (2 - (lg_sl ([.ref (b0 + a0)])).length) Slot.unset).toArray = ls at hl ⊢
  have hl : lv_has ls 2 [(0, .ref (b0 + a0))] := hl
  unfold fX10_step at hE
  obtain ⟨_, _, hE⟩ := Option.bind_eq_some_iff.mp hE
  exact sX10_step_b0 (F := F) hC F _ _ hE _ _ _ hH hS (lv_sub hl [0] rfl)
-- X10_due
def fX10_due (F : Nat) (L : HL) (a0 : Nat) (x1 : Int32) : Option HL := (o_ob L a0 9).bind fun _ => (o_gI L a0 9 14).bind fun v1 => if v1 = 0 then (if x1 = 0 then ((o_p L a0 9 14 (.int 1)).bind fun L4 => some L4) else ((fX10_step F L a0).bind fun z5 => some z5)) else (some L)
theorem oX10_due {F : Nat} {L : HL} {a0 : Nat} {x1 : Int32} {z : HL} (hE : fX10_due F L a0 x1 = some z) : o_ob L a0 9 = some () := by
  obtain ⟨_, h, _⟩ := Option.bind_eq_some_iff.mp hE
  exact h
set_option maxHeartbeats 4000000 in
set_option maxRecDepth 100000 in
theorem sX10_due (l : Launch) (b0 : Nat) (D : va_G) (cA : Nat → ClassId) {F : Nat} {L : HL} {a0 : Nat} {x1 : Int32} {z : HL} (hE : fX10_due F L a0 x1 = some z) : Met l yX10_due wsX10_due (RM 2 0 0) (Pk b0 D cA [.ref (b0 + a0), .int x1] L) (Qk b0 D cA none z) 0 0 (Ab b0) := by
  refine Met.ofW (cc := cX10_due) (maxL := 2) (ret := none) (by decide) rfl ?_
  intro p ev s m args below meth c s₁ B hml hv
  obtain ⟨rfl, hH, hK⟩ := hv
  have hx := B.exec
  have hb := B.bytes
  have hr := B.returns
  have hts := atoms_spec (ws := wsX10_due) B.pre
  have hown : s.vm.findClass RX10 = some m.cls := findClass_of_methodNamed B.named
  have hlocks := B.notSynchronized
  have hC : Cx D cA p s m _ meth c cX10_due 2 RX10 wsX10_due none := ⟨hx, hb, hml, hown, hts, hK, hr, hlocks⟩
  have hS : va_S (Ab b0) s.heap s.heap [] := va_S.rf
  have hl := lv_entry ([.ref (b0 + a0), .int x1]) (n := 2) (Nat.le_of_ble_eq_true rfl)
  rw [lg_entry_eq]
  generalize (lg_sl ([.ref (b0 + a0), .int x1]) ++ List.replicate (2 - (lg_sl ([.ref (b0 + a0), .int x1])).length) Slot.unset).toArray = ls at hl ⊢
  have hl : lv_has ls 2 [(0, .ref (b0 + a0)), (1, .int x1)] := hl
  unfold fX10_due at hE
  obtain ⟨_, _, hE⟩ := Option.bind_eq_some_iff.mp hE
  refine lv_aload_n hx hb dX10_due_0 rfl (lv_at hl 0 rfl) ?_
  obtain ⟨v1, hv1, hE⟩ := Option.bind_eq_some_iff.mp hE
  refine r_gI 14 (C := RX10) (T := TX10) (N := 26) (ci := 9) hx hb hts (by decide +kernel) hown hK hH hv1 rfl (by decide) (hts (.fieldLink RX10 87 "KindStreetsModel" "isWrong" "Z") (by decide +kernel)) (fun _ h9 => h9) dX10_due_1 ?_
  refine lv_if_eq (tgt := 8) hx hb dX10_due_4 (by decide) (fun c2 => ?_) (fun c2 => ?_)
  · rw [if_pos c2] at hE
    refine lv_iload_n hx hb dX10_due_8 rfl (lv_at hl 1 rfl) ?_
    refine lv_if_eq (tgt := 19) hx hb dX10_due_9 (by decide) (fun c3 => ?_) (fun c3 => ?_)
    · rw [if_pos c3] at hE
      refine lv_aload_n hx hb dX10_due_19 rfl (lv_at hl 0 rfl) ?_
      refine lv_iconst (v := 1) hx hb dX10_due_20 (by decide) ?_
      obtain ⟨L4, hL4, hE⟩ := Option.bind_eq_some_iff.mp hE
      refine r_p 14 (v := .int 1) (ty := .boolean) (C := RX10) (T := TX10) (N := 26) (ci := 9) hx hb hts (by decide +kernel) tyX10 tyX10_ok nmX10 hown hK hH hS hL4 rfl (by decide) (hts (.fieldLink RX10 87 "KindStreetsModel" "isWrong" "Z") (by decide +kernel)) (fun _ h9 => h9) rfl (by decide +kernel) rfl rfl dX10_due_21 (fun H locs hH hS => ?_)
      have hZ := Option.some.inj hE
      subst hZ
      exact W.vret hx hb hr (fun t ht hW => ⟨rfl, by rw [ht]; exact hH, hS.F ht⟩) hS.2.2 dX10_due_24
    · rw [if_neg c3] at hE
      refine lv_aload_n hx hb dX10_due_12 rfl (lv_at hl 0 rfl) ?_
      obtain ⟨z5, hz5, hE⟩ := Option.bind_eq_some_iff.mp hE
      refine r_callV (va_runV (As := []) (rest := []) ⟨hx, hb, hml, hown, hts⟩ (sX10_step l b0 D cA hz5) (cwV 0 hts gX10_due_X10_step rfl rfl rfl (by decide +kernel) (rm_ok (by decide) (by decide))) (pre_V (ci := 9) hK hH (oX10_step hz5) rfl) rfl rfl hl.1 rfl (lv_room (Nat.le_of_ble_eq_true rfl)) dX10_due_13 ⟨Nat.zero_le _, Nat.zero_le _⟩) hS (fun H locs hH hS => ?_)
      refine lv_goto (tgt := 24) hx hb dX10_due_16 (by decide) ?_
      have hZ := Option.some.inj hE
      subst hZ
      exact W.vret hx hb hr (fun t ht hW => ⟨rfl, by rw [ht]; exact hH, hS.F ht⟩) hS.2.2 dX10_due_24
  · rw [if_neg c2] at hE
    have hZ := Option.some.inj hE
    subst hZ
    exact W.vret hx hb hr (fun t ht hW => ⟨rfl, by rw [ht]; exact hH, hS.F ht⟩) hS.2.2 dX10_due_7
-- X10_number
def fX10_number_b28 (F : Nat) (x3 : Int32) (y0 : Int32) (y1 : Nat) (L : HL) : Option (Int32 × HL) := (fX10_due F L y1 y0).bind fun z4 => some (x3, z4)
set_option maxHeartbeats 4000000 in
set_option maxRecDepth 100000 in
theorem sX10_number_b28 {b0 : Nat} {D : va_G} {cA : Nat → ClassId} {p : Program} {l : Launch} {ev : Env} {s : State} {m : MethodId} {args : Array Value} {below : List Frame} {meth : Method} {c : Code} {F : Nat} {z : (Int32 × HL)} {x3 : Int32} {y0 : Int32} {y1 : Nat} {L : HL} (hC : Cx D cA p s m args meth c cX10_number 4 RX10 wsX10_number (some .int)) (hE : fX10_number_b28 F x3 y0 y1 L = some z) : WB b0 D cA p l ev (RM 3 0 0) s m args below meth c 4 0 0 (MQ below (Qk b0 D cA (some (.int z.1)) z.2) args s 0 0 (Ab b0)) 28 [(3, .int x3)] [.int y0, .ref (b0 + y1)] L := by
  obtain ⟨hx, hb, hml, hown, hts, hK, hr, hlocks⟩ := id hC
  intro H locs ls hH hS hl
  unfold fX10_number_b28 at hE
  obtain ⟨z4, hz4, hE⟩ := Option.bind_eq_some_iff.mp hE
  refine r_callV (va_runV (As := [.int y0]) (rest := []) ⟨hx, hb, hml, hown, hts⟩ (sX10_due l b0 D cA hz4) (cwV 1 hts gX10_number_X10_due rfl rfl rfl (by decide +kernel) (rm_ok (by decide) (by decide))) (pre_V (ci := 9) hK hH (oX10_due hz4) rfl) rfl rfl hl.1 rfl (lv_room (Nat.le_of_ble_eq_true rfl)) dX10_number_28 ⟨Nat.zero_le _, Nat.zero_le _⟩) hS (fun H locs hH hS => ?_)
  refine lv_iload_n hx hb dX10_number_31 rfl (lv_at hl 0 rfl) ?_
  have hZ := Option.some.inj hE
  subst hZ
  exact W.iret (v := x3) hx hb hr (fun t ht hW => ⟨rfl, by rw [ht]; exact hH, hS.F ht⟩) hS.2.2 dX10_number_32
def fX10_number_b27 (F : Nat) (x3 : Int32) (y0 : Nat) (L : HL) : Option (Int32 × HL) := fX10_number_b28 F x3 0 y0 L
set_option maxHeartbeats 4000000 in
set_option maxRecDepth 100000 in
theorem sX10_number_b27 {b0 : Nat} {D : va_G} {cA : Nat → ClassId} {p : Program} {l : Launch} {ev : Env} {s : State} {m : MethodId} {args : Array Value} {below : List Frame} {meth : Method} {c : Code} {F : Nat} {z : (Int32 × HL)} {x3 : Int32} {y0 : Nat} {L : HL} (hC : Cx D cA p s m args meth c cX10_number 4 RX10 wsX10_number (some .int)) (hE : fX10_number_b27 F x3 y0 L = some z) : WB b0 D cA p l ev (RM 3 0 0) s m args below meth c 4 0 0 (MQ below (Qk b0 D cA (some (.int z.1)) z.2) args s 0 0 (Ab b0)) 27 [(3, .int x3)] [.ref (b0 + y0)] L := by
  obtain ⟨hx, hb, hml, hown, hts, hK, hr, hlocks⟩ := id hC
  intro H locs ls hH hS hl
  unfold fX10_number_b27 at hE
  refine lv_iconst (v := 0) hx hb dX10_number_27 (by decide) ?_
  exact sX10_number_b28 (F := F) hC hE _ _ _ hH hS (lv_sub hl [0] rfl)
def fX10_number (F : Nat) (L : HL) (a0 : Nat) (x1 : Int32) (x2 : Int32) : Option (Int32 × HL) := (o_ob L a0 9).bind fun _ => (o_gI L a0 9 13).bind fun v1 => (o_gI L a0 9 12).bind fun v2 => if v2 = 2 then ((fX10_in F L v1 x1 x2).bind fun z5 => if z5.1 = 0 then (fX10_number_b27 F v1 a0 z5.2) else (fX10_number_b28 F v1 1 a0 z5.2)) else (fX10_number_b27 F v1 a0 L)
theorem oX10_number {F : Nat} {L : HL} {a0 : Nat} {x1 : Int32} {x2 : Int32} {z : (Int32 × HL)} (hE : fX10_number F L a0 x1 x2 = some z) : o_ob L a0 9 = some () := by
  obtain ⟨_, h, _⟩ := Option.bind_eq_some_iff.mp hE
  exact h
set_option maxHeartbeats 4000000 in
set_option maxRecDepth 100000 in
theorem sX10_number (l : Launch) (b0 : Nat) (D : va_G) (cA : Nat → ClassId) {F : Nat} {L : HL} {a0 : Nat} {x1 : Int32} {x2 : Int32} {z : (Int32 × HL)} (hE : fX10_number F L a0 x1 x2 = some z) : Met l yX10_number wsX10_number (RM 3 0 0) (Pk b0 D cA [.ref (b0 + a0), .int x1, .int x2] L) (Qk b0 D cA (some (.int z.1)) z.2) 0 0 (Ab b0) := by
  refine Met.ofW (cc := cX10_number) (maxL := 4) (ret := (some .int)) (by decide) rfl ?_
  intro p ev s m args below meth c s₁ B hml hv
  obtain ⟨rfl, hH, hK⟩ := hv
  have hx := B.exec
  have hb := B.bytes
  have hr := B.returns
  have hts := atoms_spec (ws := wsX10_number) B.pre
  have hown : s.vm.findClass RX10 = some m.cls := findClass_of_methodNamed B.named
  have hlocks := B.notSynchronized
  have hC : Cx D cA p s m _ meth c cX10_number 4 RX10 wsX10_number (some .int) := ⟨hx, hb, hml, hown, hts, hK, hr, hlocks⟩
  have hS : va_S (Ab b0) s.heap s.heap [] := va_S.rf
  have hl := lv_entry ([.ref (b0 + a0), .int x1, .int x2]) (n := 4) (Nat.le_of_ble_eq_true rfl)
  rw [lg_entry_eq]
  generalize (lg_sl ([.ref (b0 + a0), .int x1, .int x2]) ++ List.replicate (4 - (lg_sl ([.ref (b0 + a0), .int x1, .int x2])).length) Slot.unset).toArray = ls at hl ⊢
  have hl : lv_has ls 4 [(0, .ref (b0 + a0)), (1, .int x1), (2, .int x2)] := hl
  unfold fX10_number at hE
  obtain ⟨_, _, hE⟩ := Option.bind_eq_some_iff.mp hE
  refine lv_aload_n hx hb dX10_number_0 rfl (lv_at hl 0 rfl) ?_
  obtain ⟨v1, hv1, hE⟩ := Option.bind_eq_some_iff.mp hE
  refine r_gI 13 (C := RX10) (T := TX10) (N := 26) (ci := 9) hx hb hts (by decide +kernel) hown hK hH hv1 rfl (by decide) (hts (.fieldLink RX10 81 "KindStreetsModel" "value" "I") (by decide +kernel)) (fun _ h9 => h9) dX10_number_1 ?_
  refine lv_istore_n (lv' := [(3, .int v1), (0, .ref (b0 + a0)), (1, .int x1), (2, .int x2)]) hx hb dX10_number_4 rfl hl (by decide) rfl (fun ls hl => ?_)
  refine lv_aload_n hx hb dX10_number_5 rfl (lv_at hl 1 rfl) ?_
  refine lv_aload_n hx hb dX10_number_6 rfl (lv_at hl 1 rfl) ?_
  obtain ⟨v2, hv2, hE⟩ := Option.bind_eq_some_iff.mp hE
  refine r_gI 12 (C := RX10) (T := TX10) (N := 26) (ci := 9) hx hb hts (by decide +kernel) hown hK hH hv2 rfl (by decide) (hts (.fieldLink RX10 84 "KindStreetsModel" "sort" "I") (by decide +kernel)) (fun _ h9 => h9) dX10_number_7 ?_
  refine lv_iconst (v := 2) hx hb dX10_number_10 (by decide) ?_
  refine lv_icmp_ne (tgt := 27) hx hb dX10_number_11 (by decide) (fun c3 => ?_) (fun c3 => ?_)
  · rw [if_neg c3] at hE
    exact sX10_number_b27 (F := F) hC hE _ _ _ hH hS (lv_sub hl [0] rfl)
  · rw [if_pos c3] at hE
    refine lv_iload_n hx hb dX10_number_14 rfl (lv_at hl 0 rfl) ?_
    refine lv_iload_n hx hb dX10_number_15 rfl (lv_at hl 2 rfl) ?_
    refine lv_iload_n hx hb dX10_number_16 rfl (lv_at hl 3 rfl) ?_
    obtain ⟨z5, hz5, hE⟩ := Option.bind_eq_some_iff.mp hE
    refine r_callI (va_runS (As := [.int v1, .int x1, .int x2]) (rest := [.ref (b0 + a0)]) ⟨hx, hb, hml, hown, hts⟩ (sX10_in l b0 D cA hz5) (va_cwS 3 hts gX10_number_X10_in rfl rfl rfl (by decide +kernel) (rm_ok (by decide) (by decide))) (pre_S hK hH) rfl rfl hl.1 rfl (lv_room (Nat.le_of_ble_eq_true rfl)) dX10_number_17 ⟨Nat.zero_le _, Nat.zero_le _⟩) hS (fun H locs hH hS => ?_)
    refine lv_if_eq (tgt := 27) hx hb dX10_number_20 (by decide) (fun c6 => ?_) (fun c6 => ?_)
    · rw [if_pos c6] at hE
      exact sX10_number_b27 (F := F) hC hE _ _ _ hH hS (lv_sub hl [0] rfl)
    · rw [if_neg c6] at hE
      refine lv_iconst (v := 1) hx hb dX10_number_23 (by decide) ?_
      refine lv_goto (tgt := 28) hx hb dX10_number_24 (by decide) ?_
      exact sX10_number_b28 (F := F) hC hE _ _ _ hH hS (lv_sub hl [0] rfl)
-- X10_item
def fX10_item_b141 (F : Nat) (a0 : Nat) (x3 : Int32) (y0 : Int32) (y1 : Nat) (L : HL) : Option HL := (fX10_due F L y1 y0).bind fun z14 => (o_gR z14 a0 9 6).bind fun v15 => (fX10_number F z14 a0 0 9).bind fun z16 => (o_sI z16.2 v15 0 x3 z16.1).bind fun L17 => (o_gR L17 a0 9 3).bind fun v18 => (o_aI L17 v18 0 1).bind fun v19 => (o_sI L17 v18 0 1 (v19 + 1)).bind fun L20 => some L20
set_option maxHeartbeats 4000000 in
set_option maxRecDepth 100000 in
theorem sX10_item_b141 {b0 : Nat} {D : va_G} {cA : Nat → ClassId} {p : Program} {l : Launch} {ev : Env} {s : State} {m : MethodId} {args : Array Value} {below : List Frame} {meth : Method} {c : Code} {F : Nat} {z : HL} {a0 : Nat} {x3 : Int32} {y0 : Int32} {y1 : Nat} {L : HL} (hC : Cx D cA p s m args meth c cX10_item 4 RX10 wsX10_item none) (hE : fX10_item_b141 F a0 x3 y0 y1 L = some z) : WB b0 D cA p l ev (RM 4 0 0) s m args below meth c 4 0 0 (MQ below (Qk b0 D cA none z) args s 0 0 (Ab b0)) 141 [(0, .ref (b0 + a0)), (3, .int x3)] [.int y0, .ref (b0 + y1)] L := by
  obtain ⟨hx, hb, hml, hown, hts, hK, hr, hlocks⟩ := id hC
  intro H locs ls hH hS hl
  unfold fX10_item_b141 at hE
  obtain ⟨z14, hz14, hE⟩ := Option.bind_eq_some_iff.mp hE
  refine r_callV (va_runV (As := [.int y0]) (rest := []) ⟨hx, hb, hml, hown, hts⟩ (sX10_due l b0 D cA hz14) (cwV 1 hts gX10_item_X10_due rfl rfl rfl (by decide +kernel) (rm_ok (by decide) (by decide))) (pre_V (ci := 9) hK hH (oX10_due hz14) rfl) rfl rfl hl.1 rfl (lv_room (Nat.le_of_ble_eq_true rfl)) dX10_item_141 ⟨Nat.zero_le _, Nat.zero_le _⟩) hS (fun H locs hH hS => ?_)
  refine lv_aload_n hx hb dX10_item_144 rfl (lv_at hl 0 rfl) ?_
  obtain ⟨v15, hv15, hE⟩ := Option.bind_eq_some_iff.mp hE
  refine r_gR 6 (C := RX10) (T := TX10) (N := 26) (ci := 9) hx hb hts (by decide +kernel) hown hK hH hv15 rfl (by decide) (hts (.fieldLink RX10 26 "KindStreetsModel" "old" "[I") (by decide +kernel)) (fun _ h9 => h9) dX10_item_145 ?_
  refine lv_iload_n hx hb dX10_item_148 rfl (lv_at hl 1 rfl) ?_
  refine lv_aload_n hx hb dX10_item_149 rfl (lv_at hl 0 rfl) ?_
  refine lv_iconst (v := 0) hx hb dX10_item_150 (by decide) ?_
  refine lv_bipush (v := 9) hx hb dX10_item_151 (by decide) ?_
  obtain ⟨z16, hz16, hE⟩ := Option.bind_eq_some_iff.mp hE
  refine r_callI (va_runV (As := [.int 0, .int 9]) (rest := [.int x3, .ref (b0 + v15)]) ⟨hx, hb, hml, hown, hts⟩ (sX10_number l b0 D cA hz16) (cwV 2 hts gX10_item_X10_number rfl rfl rfl (by decide +kernel) (rm_ok (by decide) (by decide))) (pre_V (ci := 9) hK hH (oX10_number hz16) rfl) rfl rfl hl.1 rfl (lv_room (Nat.le_of_ble_eq_true rfl)) dX10_item_153 ⟨Nat.zero_le _, Nat.zero_le _⟩) hS (fun H locs hH hS => ?_)
  obtain ⟨L17, hL17, hE⟩ := Option.bind_eq_some_iff.mp hE
  refine r_iast hx hb hK hH hS hL17 dX10_item_156 (fun H locs hH hS => ?_)
  refine lv_aload_n hx hb dX10_item_157 rfl (lv_at hl 0 rfl) ?_
  obtain ⟨v18, hv18, hE⟩ := Option.bind_eq_some_iff.mp hE
  refine r_gR 3 (C := RX10) (T := TX10) (N := 26) (ci := 9) hx hb hts (by decide +kernel) hown hK hH hv18 rfl (by decide) (hts (.fieldLink RX10 17 "KindStreetsModel" "streets" "[I") (by decide +kernel)) (fun _ h9 => h9) dX10_item_158 ?_
  refine lv_iconst (v := 1) hx hb dX10_item_161 (by decide) ?_
  refine lv_dup2_11 hx hb dX10_item_162 rfl rfl ?_
  obtain ⟨v19, hv19, hE⟩ := Option.bind_eq_some_iff.mp hE
  refine r_iald hx hb hK hH hv19 dX10_item_163 ?_
  refine lv_iconst (v := 1) hx hb dX10_item_164 (by decide) ?_
  refine lv_iadd hx hb dX10_item_165 ?_
  obtain ⟨L20, hL20, hE⟩ := Option.bind_eq_some_iff.mp hE
  refine r_iast hx hb hK hH hS hL20 dX10_item_166 (fun H locs hH hS => ?_)
  refine lv_goto (tgt := 228) hx hb dX10_item_167 (by decide) ?_
  have hZ := Option.some.inj hE
  subst hZ
  exact W.vret hx hb hr (fun t ht hW => ⟨rfl, by rw [ht]; exact hH, hS.F ht⟩) hS.2.2 dX10_item_228
def fX10_item_b140 (F : Nat) (a0 : Nat) (x3 : Int32) (y0 : Nat) (L : HL) : Option HL := fX10_item_b141 F a0 x3 0 y0 L
set_option maxHeartbeats 4000000 in
set_option maxRecDepth 100000 in
theorem sX10_item_b140 {b0 : Nat} {D : va_G} {cA : Nat → ClassId} {p : Program} {l : Launch} {ev : Env} {s : State} {m : MethodId} {args : Array Value} {below : List Frame} {meth : Method} {c : Code} {F : Nat} {z : HL} {a0 : Nat} {x3 : Int32} {y0 : Nat} {L : HL} (hC : Cx D cA p s m args meth c cX10_item 4 RX10 wsX10_item none) (hE : fX10_item_b140 F a0 x3 y0 L = some z) : WB b0 D cA p l ev (RM 4 0 0) s m args below meth c 4 0 0 (MQ below (Qk b0 D cA none z) args s 0 0 (Ab b0)) 140 [(0, .ref (b0 + a0)), (3, .int x3)] [.ref (b0 + y0)] L := by
  obtain ⟨hx, hb, hml, hown, hts, hK, hr, hlocks⟩ := id hC
  intro H locs ls hH hS hl
  unfold fX10_item_b140 at hE
  refine lv_iconst (v := 0) hx hb dX10_item_140 (by decide) ?_
  exact sX10_item_b141 (F := F) hC hE _ _ _ hH hS (lv_sub hl [0, 1] rfl)
def fX10_item_b58 (F : Nat) (y0 : Int32) (y1 : Int32) (y2 : Nat) (L : HL) : Option HL := (o_sI L y2 0 y1 y0).bind fun L34 => some L34
set_option maxHeartbeats 4000000 in
set_option maxRecDepth 100000 in
theorem sX10_item_b58 {b0 : Nat} {D : va_G} {cA : Nat → ClassId} {p : Program} {l : Launch} {ev : Env} {s : State} {m : MethodId} {args : Array Value} {below : List Frame} {meth : Method} {c : Code} {F : Nat} {z : HL} {y0 : Int32} {y1 : Int32} {y2 : Nat} {L : HL} (hC : Cx D cA p s m args meth c cX10_item 4 RX10 wsX10_item none) (hE : fX10_item_b58 F y0 y1 y2 L = some z) : WB b0 D cA p l ev (RM 4 0 0) s m args below meth c 4 0 0 (MQ below (Qk b0 D cA none z) args s 0 0 (Ab b0)) 58 [] [.int y0, .int y1, .ref (b0 + y2)] L := by
  obtain ⟨hx, hb, hml, hown, hts, hK, hr, hlocks⟩ := id hC
  intro H locs ls hH hS hl
  unfold fX10_item_b58 at hE
  obtain ⟨L34, hL34, hE⟩ := Option.bind_eq_some_iff.mp hE
  refine r_iast hx hb hK hH hS hL34 dX10_item_58 (fun H locs hH hS => ?_)
  refine lv_goto (tgt := 228) hx hb dX10_item_59 (by decide) ?_
  have hZ := Option.some.inj hE
  subst hZ
  exact W.vret hx hb hr (fun t ht hW => ⟨rfl, by rw [ht]; exact hH, hS.F ht⟩) hS.2.2 dX10_item_228
def fX10_item (F : Nat) (L : HL) (a0 : Nat) (x1 : Int32) : Option HL := (o_ob L a0 9).bind fun _ => if x1 = 115 then ((o_gR L a0 9 3).bind fun v2 => (o_aI L v2 0 1).bind fun v3 => (o_gR L a0 9 4).bind fun v4 => (o_gR L a0 9 2).bind fun v5 => (o_aI L v5 0 1).bind fun v6 => (fX10_number F L a0 0 (v6 - 1)).bind fun z7 => (o_sI z7.2 v4 0 (9 + v3) z7.1).bind fun L8 => (o_gR L8 a0 9 5).bind fun v9 => (o_gI L8 a0 9 13).bind fun v10 => (o_sI L8 v9 0 (9 + v3) v10).bind fun L11 => (o_gI L11 a0 9 12).bind fun v12 => if v12 = 2 then ((o_gI L11 a0 9 13).bind fun v21 => (o_gR L11 a0 9 2).bind fun v22 => (o_aI L11 v22 0 1).bind fun v23 => if v23 ≤ v21 then (fX10_item_b140 F a0 (9 + v3) a0 L11) else ((o_gI L11 a0 9 13).bind fun v25 => (o_gR L11 a0 9 4).bind fun v26 => (o_aI L11 v26 0 (9 + v3)).bind fun v27 => if v25 = v27 then (fX10_item_b140 F a0 (9 + v3) a0 L11) else (fX10_item_b141 F a0 (9 + v3) 1 a0 L11))) else (fX10_item_b140 F a0 (9 + v3) a0 L11)) else if x1 = 121 then ((fX10_number F L a0 2 8).bind fun z30 => (o_gR z30.2 a0 9 2).bind fun v31 => (o_gI z30.2 a0 9 14).bind fun v32 => if v32 = 0 then (fX10_item_b58 F z30.1 1 v31 z30.2) else ((o_gR z30.2 a0 9 2).bind fun v35 => (o_aI z30.2 v35 0 1).bind fun v36 => fX10_item_b58 F v36 1 v31 z30.2)) else (o_gR L a0 9 8).bind fun v37 => (o_gR L a0 9 7).bind fun v38 => (o_aI L v38 0 1).bind fun v39 => (o_gR L a0 9 3).bind fun v40 => (o_aI L v40 0 1).bind fun v41 => (fX10_number F L a0 0 (v41 - 1)).bind fun z42 => (o_sI z42.2 v37 0 (6 + v39) z42.1).bind fun L43 => (o_gR L43 a0 9 9).bind fun v44 => (o_gR L43 a0 9 7).bind fun v45 => (o_aI L43 v45 0 1).bind fun v46 => (fX10_number F L43 a0 1 10).bind fun z47 => (o_sI z47.2 v44 0 (6 + v46) z47.1).bind fun L48 => (o_gR L48 a0 9 7).bind fun v49 => (o_aI L48 v49 0 1).bind fun v50 => (o_sI L48 v49 0 1 (v50 + 1)).bind fun L51 => some L51
theorem oX10_item {F : Nat} {L : HL} {a0 : Nat} {x1 : Int32} {z : HL} (hE : fX10_item F L a0 x1 = some z) : o_ob L a0 9 = some () := by
  obtain ⟨_, h, _⟩ := Option.bind_eq_some_iff.mp hE
  exact h
set_option maxHeartbeats 4000000 in
set_option maxRecDepth 100000 in
theorem sX10_item (l : Launch) (b0 : Nat) (D : va_G) (cA : Nat → ClassId) {F : Nat} {L : HL} {a0 : Nat} {x1 : Int32} {z : HL} (hE : fX10_item F L a0 x1 = some z) : Met l yX10_item wsX10_item (RM 4 0 0) (Pk b0 D cA [.ref (b0 + a0), .int x1] L) (Qk b0 D cA none z) 0 0 (Ab b0) := by
  refine Met.ofW (cc := cX10_item) (maxL := 4) (ret := none) (by decide) rfl ?_
  intro p ev s m args below meth c s₁ B hml hv
  obtain ⟨rfl, hH, hK⟩ := hv
  have hx := B.exec
  have hb := B.bytes
  have hr := B.returns
  have hts := atoms_spec (ws := wsX10_item) B.pre
  have hown : s.vm.findClass RX10 = some m.cls := findClass_of_methodNamed B.named
  have hlocks := B.notSynchronized
  have hC : Cx D cA p s m _ meth c cX10_item 4 RX10 wsX10_item none := ⟨hx, hb, hml, hown, hts, hK, hr, hlocks⟩
  have hS : va_S (Ab b0) s.heap s.heap [] := va_S.rf
  have hl := lv_entry ([.ref (b0 + a0), .int x1]) (n := 4) (Nat.le_of_ble_eq_true rfl)
  rw [lg_entry_eq]
  generalize (lg_sl ([.ref (b0 + a0), .int x1]) ++ List.replicate (4 - (lg_sl ([.ref (b0 + a0), .int x1])).length) Slot.unset).toArray = ls at hl ⊢
  have hl : lv_has ls 4 [(0, .ref (b0 + a0)), (1, .int x1)] := hl
  unfold fX10_item at hE
  obtain ⟨_, _, hE⟩ := Option.bind_eq_some_iff.mp hE
  refine lv_iload_n hx hb dX10_item_0 rfl (lv_at hl 1 rfl) ?_
  by_cases c1 : x1 = 115
  · rw [if_pos c1] at hE
    refine lv_lookup (tgt := 62) (off := 61) hx hb dX10_item_1 (by decide) (by rw [c1]; rfl) (by decide) ?_
    refine lv_bipush (v := 9) hx hb dX10_item_62 (by decide) ?_
    refine lv_aload_n hx hb dX10_item_64 rfl (lv_at hl 0 rfl) ?_
    obtain ⟨v2, hv2, hE⟩ := Option.bind_eq_some_iff.mp hE
    refine r_gR 3 (C := RX10) (T := TX10) (N := 26) (ci := 9) hx hb hts (by decide +kernel) hown hK hH hv2 rfl (by decide) (hts (.fieldLink RX10 17 "KindStreetsModel" "streets" "[I") (by decide +kernel)) (fun _ h9 => h9) dX10_item_65 ?_
    refine lv_iconst (v := 1) hx hb dX10_item_68 (by decide) ?_
    obtain ⟨v3, hv3, hE⟩ := Option.bind_eq_some_iff.mp hE
    refine r_iald hx hb hK hH hv3 dX10_item_69 ?_
    refine lv_iadd hx hb dX10_item_70 ?_
    refine lv_istore_n (lv' := [(3, .int (9 + v3)), (0, .ref (b0 + a0)), (1, .int x1)]) hx hb dX10_item_71 rfl hl (by decide) rfl (fun ls hl => ?_)
    refine lv_aload_n hx hb dX10_item_72 rfl (lv_at hl 1 rfl) ?_
    obtain ⟨v4, hv4, hE⟩ := Option.bind_eq_some_iff.mp hE
    refine r_gR 4 (C := RX10) (T := TX10) (N := 26) (ci := 9) hx hb hts (by decide +kernel) hown hK hH hv4 rfl (by decide) (hts (.fieldLink RX10 20 "KindStreetsModel" "from" "[I") (by decide +kernel)) (fun _ h9 => h9) dX10_item_73 ?_
    refine lv_iload_n hx hb dX10_item_76 rfl (lv_at hl 0 rfl) ?_
    refine lv_aload_n hx hb dX10_item_77 rfl (lv_at hl 1 rfl) ?_
    refine lv_iconst (v := 0) hx hb dX10_item_78 (by decide) ?_
    refine lv_aload_n hx hb dX10_item_79 rfl (lv_at hl 1 rfl) ?_
    obtain ⟨v5, hv5, hE⟩ := Option.bind_eq_some_iff.mp hE
    refine r_gR 2 (C := RX10) (T := TX10) (N := 26) (ci := 9) hx hb hts (by decide +kernel) hown hK hH hv5 rfl (by decide) (hts (.fieldLink RX10 13 "KindStreetsModel" "yards" "[I") (by decide +kernel)) (fun _ h9 => h9) dX10_item_80 ?_
    refine lv_iconst (v := 1) hx hb dX10_item_83 (by decide) ?_
    obtain ⟨v6, hv6, hE⟩ := Option.bind_eq_some_iff.mp hE
    refine r_iald hx hb hK hH hv6 dX10_item_84 ?_
    refine lv_iconst (v := 1) hx hb dX10_item_85 (by decide) ?_
    refine lv_isub hx hb dX10_item_86 ?_
    obtain ⟨z7, hz7, hE⟩ := Option.bind_eq_some_iff.mp hE
    refine r_callI (va_runV (As := [.int 0, .int (v6 - 1)]) (rest := [.int (9 + v3), .ref (b0 + v4)]) ⟨hx, hb, hml, hown, hts⟩ (sX10_number l b0 D cA hz7) (cwV 2 hts gX10_item_X10_number rfl rfl rfl (by decide +kernel) (rm_ok (by decide) (by decide))) (pre_V (ci := 9) hK hH (oX10_number hz7) rfl) rfl rfl hl.1 rfl (lv_room (Nat.le_of_ble_eq_true rfl)) dX10_item_87 ⟨Nat.zero_le _, Nat.zero_le _⟩) hS (fun H locs hH hS => ?_)
    obtain ⟨L8, hL8, hE⟩ := Option.bind_eq_some_iff.mp hE
    refine r_iast hx hb hK hH hS hL8 dX10_item_90 (fun H locs hH hS => ?_)
    refine lv_aload_n hx hb dX10_item_91 rfl (lv_at hl 1 rfl) ?_
    obtain ⟨v9, hv9, hE⟩ := Option.bind_eq_some_iff.mp hE
    refine r_gR 5 (C := RX10) (T := TX10) (N := 26) (ci := 9) hx hb hts (by decide +kernel) hown hK hH hv9 rfl (by decide) (hts (.fieldLink RX10 23 "KindStreetsModel" "to" "[I") (by decide +kernel)) (fun _ h9 => h9) dX10_item_92 ?_
    refine lv_iload_n hx hb dX10_item_95 rfl (lv_at hl 0 rfl) ?_
    refine lv_aload_n hx hb dX10_item_96 rfl (lv_at hl 1 rfl) ?_
    obtain ⟨v10, hv10, hE⟩ := Option.bind_eq_some_iff.mp hE
    refine r_gI 13 (C := RX10) (T := TX10) (N := 26) (ci := 9) hx hb hts (by decide +kernel) hown hK hH hv10 rfl (by decide) (hts (.fieldLink RX10 81 "KindStreetsModel" "value" "I") (by decide +kernel)) (fun _ h9 => h9) dX10_item_97 ?_
    obtain ⟨L11, hL11, hE⟩ := Option.bind_eq_some_iff.mp hE
    refine r_iast hx hb hK hH hS hL11 dX10_item_100 (fun H locs hH hS => ?_)
    refine lv_aload_n hx hb dX10_item_101 rfl (lv_at hl 1 rfl) ?_
    refine lv_aload_n hx hb dX10_item_102 rfl (lv_at hl 1 rfl) ?_
    obtain ⟨v12, hv12, hE⟩ := Option.bind_eq_some_iff.mp hE
    refine r_gI 12 (C := RX10) (T := TX10) (N := 26) (ci := 9) hx hb hts (by decide +kernel) hown hK hH hv12 rfl (by decide) (hts (.fieldLink RX10 84 "KindStreetsModel" "sort" "I") (by decide +kernel)) (fun _ h9 => h9) dX10_item_103 ?_
    refine lv_iconst (v := 2) hx hb dX10_item_106 (by decide) ?_
    refine lv_icmp_ne (tgt := 140) hx hb dX10_item_107 (by decide) (fun c13 => ?_) (fun c13 => ?_)
    · rw [if_neg c13] at hE
      exact sX10_item_b140 (F := F) hC hE _ _ _ hH hS (lv_sub hl [1, 0] rfl)
    · rw [if_pos c13] at hE
      refine lv_aload_n hx hb dX10_item_110 rfl (lv_at hl 1 rfl) ?_
      obtain ⟨v21, hv21, hE⟩ := Option.bind_eq_some_iff.mp hE
      refine r_gI 13 (C := RX10) (T := TX10) (N := 26) (ci := 9) hx hb hts (by decide +kernel) hown hK hH hv21 rfl (by decide) (hts (.fieldLink RX10 81 "KindStreetsModel" "value" "I") (by decide +kernel)) (fun _ h9 => h9) dX10_item_111 ?_
      refine lv_aload_n hx hb dX10_item_114 rfl (lv_at hl 1 rfl) ?_
      obtain ⟨v22, hv22, hE⟩ := Option.bind_eq_some_iff.mp hE
      refine r_gR 2 (C := RX10) (T := TX10) (N := 26) (ci := 9) hx hb hts (by decide +kernel) hown hK hH hv22 rfl (by decide) (hts (.fieldLink RX10 13 "KindStreetsModel" "yards" "[I") (by decide +kernel)) (fun _ h9 => h9) dX10_item_115 ?_
      refine lv_iconst (v := 1) hx hb dX10_item_118 (by decide) ?_
      obtain ⟨v23, hv23, hE⟩ := Option.bind_eq_some_iff.mp hE
      refine r_iald hx hb hK hH hv23 dX10_item_119 ?_
      refine lv_icmp_ge (tgt := 140) hx hb dX10_item_120 (by decide) (fun c24 => ?_) (fun c24 => ?_)
      · rw [if_pos c24] at hE
        exact sX10_item_b140 (F := F) hC hE _ _ _ hH hS (lv_sub hl [1, 0] rfl)
      · rw [if_neg c24] at hE
        refine lv_aload_n hx hb dX10_item_123 rfl (lv_at hl 1 rfl) ?_
        obtain ⟨v25, hv25, hE⟩ := Option.bind_eq_some_iff.mp hE
        refine r_gI 13 (C := RX10) (T := TX10) (N := 26) (ci := 9) hx hb hts (by decide +kernel) hown hK hH hv25 rfl (by decide) (hts (.fieldLink RX10 81 "KindStreetsModel" "value" "I") (by decide +kernel)) (fun _ h9 => h9) dX10_item_124 ?_
        refine lv_aload_n hx hb dX10_item_127 rfl (lv_at hl 1 rfl) ?_
        obtain ⟨v26, hv26, hE⟩ := Option.bind_eq_some_iff.mp hE
        refine r_gR 4 (C := RX10) (T := TX10) (N := 26) (ci := 9) hx hb hts (by decide +kernel) hown hK hH hv26 rfl (by decide) (hts (.fieldLink RX10 20 "KindStreetsModel" "from" "[I") (by decide +kernel)) (fun _ h9 => h9) dX10_item_128 ?_
        refine lv_iload_n hx hb dX10_item_131 rfl (lv_at hl 0 rfl) ?_
        obtain ⟨v27, hv27, hE⟩ := Option.bind_eq_some_iff.mp hE
        refine r_iald hx hb hK hH hv27 dX10_item_132 ?_
        refine lv_icmp_eq (tgt := 140) hx hb dX10_item_133 (by decide) (fun c28 => ?_) (fun c28 => ?_)
        · rw [if_pos c28] at hE
          exact sX10_item_b140 (F := F) hC hE _ _ _ hH hS (lv_sub hl [1, 0] rfl)
        · rw [if_neg c28] at hE
          refine lv_iconst (v := 1) hx hb dX10_item_136 (by decide) ?_
          refine lv_goto (tgt := 141) hx hb dX10_item_137 (by decide) ?_
          exact sX10_item_b141 (F := F) hC hE _ _ _ hH hS (lv_sub hl [1, 0] rfl)
  rw [if_neg c1] at hE
  by_cases c29 : x1 = 121
  · rw [if_pos c29] at hE
    refine lv_lookup (tgt := 28) (off := 27) hx hb dX10_item_1 (by decide) (by rw [c29]; rfl) (by decide) ?_
    refine lv_aload_n hx hb dX10_item_28 rfl (lv_at hl 0 rfl) ?_
    refine lv_iconst (v := 2) hx hb dX10_item_29 (by decide) ?_
    refine lv_bipush (v := 8) hx hb dX10_item_30 (by decide) ?_
    obtain ⟨z30, hz30, hE⟩ := Option.bind_eq_some_iff.mp hE
    refine r_callI (va_runV (As := [.int 2, .int 8]) (rest := []) ⟨hx, hb, hml, hown, hts⟩ (sX10_number l b0 D cA hz30) (cwV 2 hts gX10_item_X10_number rfl rfl rfl (by decide +kernel) (rm_ok (by decide) (by decide))) (pre_V (ci := 9) hK hH (oX10_number hz30) rfl) rfl rfl hl.1 rfl (lv_room (Nat.le_of_ble_eq_true rfl)) dX10_item_32 ⟨Nat.zero_le _, Nat.zero_le _⟩) hS (fun H locs hH hS => ?_)
    refine lv_istore_n (lv' := [(2, .int z30.1), (0, .ref (b0 + a0)), (1, .int x1)]) hx hb dX10_item_35 rfl hl (by decide) rfl (fun ls hl => ?_)
    refine lv_aload_n hx hb dX10_item_36 rfl (lv_at hl 1 rfl) ?_
    obtain ⟨v31, hv31, hE⟩ := Option.bind_eq_some_iff.mp hE
    refine r_gR 2 (C := RX10) (T := TX10) (N := 26) (ci := 9) hx hb hts (by decide +kernel) hown hK hH hv31 rfl (by decide) (hts (.fieldLink RX10 13 "KindStreetsModel" "yards" "[I") (by decide +kernel)) (fun _ h9 => h9) dX10_item_37 ?_
    refine lv_iconst (v := 1) hx hb dX10_item_40 (by decide) ?_
    refine lv_aload_n hx hb dX10_item_41 rfl (lv_at hl 1 rfl) ?_
    obtain ⟨v32, hv32, hE⟩ := Option.bind_eq_some_iff.mp hE
    refine r_gI 14 (C := RX10) (T := TX10) (N := 26) (ci := 9) hx hb hts (by decide +kernel) hown hK hH hv32 rfl (by decide) (hts (.fieldLink RX10 87 "KindStreetsModel" "isWrong" "Z") (by decide +kernel)) (fun _ h9 => h9) dX10_item_42 ?_
    refine lv_if_eq (tgt := 57) hx hb dX10_item_45 (by decide) (fun c33 => ?_) (fun c33 => ?_)
    · rw [if_pos c33] at hE
      refine lv_iload_n hx hb dX10_item_57 rfl (lv_at hl 0 rfl) ?_
      exact sX10_item_b58 (F := F) hC hE _ _ _ hH hS (lv_sub hl [] rfl)
    · rw [if_neg c33] at hE
      refine lv_aload_n hx hb dX10_item_48 rfl (lv_at hl 1 rfl) ?_
      obtain ⟨v35, hv35, hE⟩ := Option.bind_eq_some_iff.mp hE
      refine r_gR 2 (C := RX10) (T := TX10) (N := 26) (ci := 9) hx hb hts (by decide +kernel) hown hK hH hv35 rfl (by decide) (hts (.fieldLink RX10 13 "KindStreetsModel" "yards" "[I") (by decide +kernel)) (fun _ h9 => h9) dX10_item_49 ?_
      refine lv_iconst (v := 1) hx hb dX10_item_52 (by decide) ?_
      obtain ⟨v36, hv36, hE⟩ := Option.bind_eq_some_iff.mp hE
      refine r_iald hx hb hK hH hv36 dX10_item_53 ?_
      refine lv_goto (tgt := 58) hx hb dX10_item_54 (by decide) ?_
      exact sX10_item_b58 (F := F) hC hE _ _ _ hH hS (lv_sub hl [] rfl)
  rw [if_neg c29] at hE
  refine lv_lookup (tgt := 170) (off := 169) hx hb dX10_item_1 (by decide) (by have q0 := sw_ne (k := 115) (by decide) c1; have q1 := sw_ne (k := 121) (by decide) c29; simp [Op.lookupswitch.offset, q0, Ne.symm q0, q1, Ne.symm q1]; done) (by decide) ?_
  refine lv_aload_n hx hb dX10_item_170 rfl (lv_at hl 0 rfl) ?_
  obtain ⟨v37, hv37, hE⟩ := Option.bind_eq_some_iff.mp hE
  refine r_gR 8 (C := RX10) (T := TX10) (N := 26) (ci := 9) hx hb hts (by decide +kernel) hown hK hH hv37 rfl (by decide) (hts (.fieldLink RX10 32 "KindStreetsModel" "home" "[I") (by decide +kernel)) (fun _ h9 => h9) dX10_item_171 ?_
  refine lv_bipush (v := 6) hx hb dX10_item_174 (by decide) ?_
  refine lv_aload_n hx hb dX10_item_176 rfl (lv_at hl 0 rfl) ?_
  obtain ⟨v38, hv38, hE⟩ := Option.bind_eq_some_iff.mp hE
  refine r_gR 7 (C := RX10) (T := TX10) (N := 26) (ci := 9) hx hb hts (by decide +kernel) hown hK hH hv38 rfl (by decide) (hts (.fieldLink RX10 29 "KindStreetsModel" "people" "[I") (by decide +kernel)) (fun _ h9 => h9) dX10_item_177 ?_
  refine lv_iconst (v := 1) hx hb dX10_item_180 (by decide) ?_
  obtain ⟨v39, hv39, hE⟩ := Option.bind_eq_some_iff.mp hE
  refine r_iald hx hb hK hH hv39 dX10_item_181 ?_
  refine lv_iadd hx hb dX10_item_182 ?_
  refine lv_aload_n hx hb dX10_item_183 rfl (lv_at hl 0 rfl) ?_
  refine lv_iconst (v := 0) hx hb dX10_item_184 (by decide) ?_
  refine lv_aload_n hx hb dX10_item_185 rfl (lv_at hl 0 rfl) ?_
  obtain ⟨v40, hv40, hE⟩ := Option.bind_eq_some_iff.mp hE
  refine r_gR 3 (C := RX10) (T := TX10) (N := 26) (ci := 9) hx hb hts (by decide +kernel) hown hK hH hv40 rfl (by decide) (hts (.fieldLink RX10 17 "KindStreetsModel" "streets" "[I") (by decide +kernel)) (fun _ h9 => h9) dX10_item_186 ?_
  refine lv_iconst (v := 1) hx hb dX10_item_189 (by decide) ?_
  obtain ⟨v41, hv41, hE⟩ := Option.bind_eq_some_iff.mp hE
  refine r_iald hx hb hK hH hv41 dX10_item_190 ?_
  refine lv_iconst (v := 1) hx hb dX10_item_191 (by decide) ?_
  refine lv_isub hx hb dX10_item_192 ?_
  obtain ⟨z42, hz42, hE⟩ := Option.bind_eq_some_iff.mp hE
  refine r_callI (va_runV (As := [.int 0, .int (v41 - 1)]) (rest := [.int (6 + v39), .ref (b0 + v37)]) ⟨hx, hb, hml, hown, hts⟩ (sX10_number l b0 D cA hz42) (cwV 2 hts gX10_item_X10_number rfl rfl rfl (by decide +kernel) (rm_ok (by decide) (by decide))) (pre_V (ci := 9) hK hH (oX10_number hz42) rfl) rfl rfl hl.1 rfl (lv_room (Nat.le_of_ble_eq_true rfl)) dX10_item_193 ⟨Nat.zero_le _, Nat.zero_le _⟩) hS (fun H locs hH hS => ?_)
  obtain ⟨L43, hL43, hE⟩ := Option.bind_eq_some_iff.mp hE
  refine r_iast hx hb hK hH hS hL43 dX10_item_196 (fun H locs hH hS => ?_)
  refine lv_aload_n hx hb dX10_item_197 rfl (lv_at hl 0 rfl) ?_
  obtain ⟨v44, hv44, hE⟩ := Option.bind_eq_some_iff.mp hE
  refine r_gR 9 (C := RX10) (T := TX10) (N := 26) (ci := 9) hx hb hts (by decide +kernel) hown hK hH hv44 rfl (by decide) (hts (.fieldLink RX10 35 "KindStreetsModel" "wants" "[I") (by decide +kernel)) (fun _ h9 => h9) dX10_item_198 ?_
  refine lv_bipush (v := 6) hx hb dX10_item_201 (by decide) ?_
  refine lv_aload_n hx hb dX10_item_203 rfl (lv_at hl 0 rfl) ?_
  obtain ⟨v45, hv45, hE⟩ := Option.bind_eq_some_iff.mp hE
  refine r_gR 7 (C := RX10) (T := TX10) (N := 26) (ci := 9) hx hb hts (by decide +kernel) hown hK hH hv45 rfl (by decide) (hts (.fieldLink RX10 29 "KindStreetsModel" "people" "[I") (by decide +kernel)) (fun _ h9 => h9) dX10_item_204 ?_
  refine lv_iconst (v := 1) hx hb dX10_item_207 (by decide) ?_
  obtain ⟨v46, hv46, hE⟩ := Option.bind_eq_some_iff.mp hE
  refine r_iald hx hb hK hH hv46 dX10_item_208 ?_
  refine lv_iadd hx hb dX10_item_209 ?_
  refine lv_aload_n hx hb dX10_item_210 rfl (lv_at hl 0 rfl) ?_
  refine lv_iconst (v := 1) hx hb dX10_item_211 (by decide) ?_
  refine lv_bipush (v := 10) hx hb dX10_item_212 (by decide) ?_
  obtain ⟨z47, hz47, hE⟩ := Option.bind_eq_some_iff.mp hE
  refine r_callI (va_runV (As := [.int 1, .int 10]) (rest := [.int (6 + v46), .ref (b0 + v44)]) ⟨hx, hb, hml, hown, hts⟩ (sX10_number l b0 D cA hz47) (cwV 2 hts gX10_item_X10_number rfl rfl rfl (by decide +kernel) (rm_ok (by decide) (by decide))) (pre_V (ci := 9) hK hH (oX10_number hz47) rfl) rfl rfl hl.1 rfl (lv_room (Nat.le_of_ble_eq_true rfl)) dX10_item_214 ⟨Nat.zero_le _, Nat.zero_le _⟩) hS (fun H locs hH hS => ?_)
  obtain ⟨L48, hL48, hE⟩ := Option.bind_eq_some_iff.mp hE
  refine r_iast hx hb hK hH hS hL48 dX10_item_217 (fun H locs hH hS => ?_)
  refine lv_aload_n hx hb dX10_item_218 rfl (lv_at hl 0 rfl) ?_
  obtain ⟨v49, hv49, hE⟩ := Option.bind_eq_some_iff.mp hE
  refine r_gR 7 (C := RX10) (T := TX10) (N := 26) (ci := 9) hx hb hts (by decide +kernel) hown hK hH hv49 rfl (by decide) (hts (.fieldLink RX10 29 "KindStreetsModel" "people" "[I") (by decide +kernel)) (fun _ h9 => h9) dX10_item_219 ?_
  refine lv_iconst (v := 1) hx hb dX10_item_222 (by decide) ?_
  refine lv_dup2_11 hx hb dX10_item_223 rfl rfl ?_
  obtain ⟨v50, hv50, hE⟩ := Option.bind_eq_some_iff.mp hE
  refine r_iald hx hb hK hH hv50 dX10_item_224 ?_
  refine lv_iconst (v := 1) hx hb dX10_item_225 (by decide) ?_
  refine lv_iadd hx hb dX10_item_226 ?_
  obtain ⟨L51, hL51, hE⟩ := Option.bind_eq_some_iff.mp hE
  refine r_iast hx hb hK hH hS hL51 dX10_item_227 (fun H locs hH hS => ?_)
  have hZ := Option.some.inj hE
  subst hZ
  exact W.vret hx hb hr (fun t ht hW => ⟨rfl, by rw [ht]; exact hH, hS.F ht⟩) hS.2.2 dX10_item_228
-- X10_may
def fX10_may_b79 (F : Nat)  (L : HL) : Option (Int32 × HL) := some (0, L)
set_option maxHeartbeats 4000000 in
set_option maxRecDepth 100000 in
theorem sX10_may_b79 {b0 : Nat} {D : va_G} {cA : Nat → ClassId} {p : Program} {l : Launch} {ev : Env} {s : State} {m : MethodId} {args : Array Value} {below : List Frame} {meth : Method} {c : Code} {F : Nat} {z : (Int32 × HL)}  {L : HL} (hC : Cx D cA p s m args meth c cX10_may 2 RX10 wsX10_may (some .boolean)) (hE : fX10_may_b79 F  L = some z) : WB b0 D cA p l ev (RM 0 0 0) s m args below meth c 2 0 0 (MQ below (Qk b0 D cA (some (.int z.1)) z.2) args s 0 0 (Ab b0)) 79 [] [] L := by
  obtain ⟨hx, hb, hml, hown, hts, hK, hr, hlocks⟩ := id hC
  intro H locs ls hH hS hl
  unfold fX10_may_b79 at hE
  refine lv_iconst (v := 0) hx hb dX10_may_79 (by decide) ?_
  have hZ := Option.some.inj hE
  subst hZ
  exact W.zret (v := 0) (ty := .boolean) hx hb hr rfl (fun t ht hW => ⟨rfl, by rw [ht]; exact hH, hS.F ht⟩) hS.2.2 dX10_may_80
def fX10_may (F : Nat) (L : HL) (a0 : Nat) (x1 : Int32) : Option (Int32 × HL) := (o_ob L a0 9).bind fun _ => if x1 = 115 then ((o_gR L a0 9 3).bind fun v2 => (o_aI L v2 0 1).bind fun v3 => if 9 ≤ v3 then (some (0, L)) else (some (1, L))) else if x1 = 121 then ((o_gI L a0 9 15).bind fun v6 => if v6 = 0 then (some (1, L)) else (some (0, L))) else if x1 = 99 then ((o_gR L a0 9 7).bind fun v9 => (o_aI L v9 0 1).bind fun v10 => if 6 ≤ v10 then (fX10_may_b79 F L) else (some (1, L))) else (fX10_may_b79 F L)
theorem oX10_may {F : Nat} {L : HL} {a0 : Nat} {x1 : Int32} {z : (Int32 × HL)} (hE : fX10_may F L a0 x1 = some z) : o_ob L a0 9 = some () := by
  obtain ⟨_, h, _⟩ := Option.bind_eq_some_iff.mp hE
  exact h
set_option maxHeartbeats 4000000 in
set_option maxRecDepth 100000 in
theorem sX10_may (l : Launch) (b0 : Nat) (D : va_G) (cA : Nat → ClassId) {F : Nat} {L : HL} {a0 : Nat} {x1 : Int32} {z : (Int32 × HL)} (hE : fX10_may F L a0 x1 = some z) : Met l yX10_may wsX10_may (RM 0 0 0) (Pk b0 D cA [.ref (b0 + a0), .int x1] L) (Qk b0 D cA (some (.int z.1)) z.2) 0 0 (Ab b0) := by
  refine Met.ofW (cc := cX10_may) (maxL := 2) (ret := (some .boolean)) (by decide) rfl ?_
  intro p ev s m args below meth c s₁ B hml hv
  obtain ⟨rfl, hH, hK⟩ := hv
  have hx := B.exec
  have hb := B.bytes
  have hr := B.returns
  have hts := atoms_spec (ws := wsX10_may) B.pre
  have hown : s.vm.findClass RX10 = some m.cls := findClass_of_methodNamed B.named
  have hlocks := B.notSynchronized
  have hC : Cx D cA p s m _ meth c cX10_may 2 RX10 wsX10_may (some .boolean) := ⟨hx, hb, hml, hown, hts, hK, hr, hlocks⟩
  have hS : va_S (Ab b0) s.heap s.heap [] := va_S.rf
  have hl := lv_entry ([.ref (b0 + a0), .int x1]) (n := 2) (Nat.le_of_ble_eq_true rfl)
  rw [lg_entry_eq]
  generalize (lg_sl ([.ref (b0 + a0), .int x1]) ++ List.replicate (2 - (lg_sl ([.ref (b0 + a0), .int x1])).length) Slot.unset).toArray = ls at hl ⊢
  have hl : lv_has ls 2 [(0, .ref (b0 + a0)), (1, .int x1)] := hl
  unfold fX10_may at hE
  obtain ⟨_, _, hE⟩ := Option.bind_eq_some_iff.mp hE
  refine lv_iload_n hx hb dX10_may_0 rfl (lv_at hl 1 rfl) ?_
  by_cases c1 : x1 = 115
  · rw [if_pos c1] at hE
    refine lv_lookup (tgt := 41) (off := 40) hx hb dX10_may_1 (by decide) (by rw [c1]; rfl) (by decide) ?_
    refine lv_aload_n hx hb dX10_may_41 rfl (lv_at hl 0 rfl) ?_
    obtain ⟨v2, hv2, hE⟩ := Option.bind_eq_some_iff.mp hE
    refine r_gR 3 (C := RX10) (T := TX10) (N := 26) (ci := 9) hx hb hts (by decide +kernel) hown hK hH hv2 rfl (by decide) (hts (.fieldLink RX10 17 "KindStreetsModel" "streets" "[I") (by decide +kernel)) (fun _ h9 => h9) dX10_may_42 ?_
    refine lv_iconst (v := 1) hx hb dX10_may_45 (by decide) ?_
    obtain ⟨v3, hv3, hE⟩ := Option.bind_eq_some_iff.mp hE
    refine r_iald hx hb hK hH hv3 dX10_may_46 ?_
    refine lv_bipush (v := 9) hx hb dX10_may_47 (by decide) ?_
    refine lv_icmp_ge (tgt := 56) hx hb dX10_may_49 (by decide) (fun c4 => ?_) (fun c4 => ?_)
    · rw [if_pos c4] at hE
      refine lv_iconst (v := 0) hx hb dX10_may_56 (by decide) ?_
      have hZ := Option.some.inj hE
      subst hZ
      exact W.zret (v := 0) (ty := .boolean) hx hb hr rfl (fun t ht hW => ⟨rfl, by rw [ht]; exact hH, hS.F ht⟩) hS.2.2 dX10_may_57
    · rw [if_neg c4] at hE
      refine lv_iconst (v := 1) hx hb dX10_may_52 (by decide) ?_
      refine lv_goto (tgt := 57) hx hb dX10_may_53 (by decide) ?_
      have hZ := Option.some.inj hE
      subst hZ
      exact W.zret (v := 1) (ty := .boolean) hx hb hr rfl (fun t ht hW => ⟨rfl, by rw [ht]; exact hH, hS.F ht⟩) hS.2.2 dX10_may_57
  rw [if_neg c1] at hE
  by_cases c5 : x1 = 121
  · rw [if_pos c5] at hE
    refine lv_lookup (tgt := 28) (off := 27) hx hb dX10_may_1 (by decide) (by rw [c5]; rfl) (by decide) ?_
    refine lv_aload_n hx hb dX10_may_28 rfl (lv_at hl 0 rfl) ?_
    obtain ⟨v6, hv6, hE⟩ := Option.bind_eq_some_iff.mp hE
    refine r_gI 15 (C := RX10) (T := TX10) (N := 26) (ci := 9) hx hb hts (by decide +kernel) hown hK hH hv6 rfl (by decide) (hts (.fieldLink RX10 102 "KindStreetsModel" "items" "I") (by decide +kernel)) (fun _ h9 => h9) dX10_may_29 ?_
    refine lv_if_ne (tgt := 39) hx hb dX10_may_32 (by decide) (fun c7 => ?_) (fun c7 => ?_)
    · rw [if_neg c7] at hE
      refine lv_iconst (v := 0) hx hb dX10_may_39 (by decide) ?_
      have hZ := Option.some.inj hE
      subst hZ
      exact W.zret (v := 0) (ty := .boolean) hx hb hr rfl (fun t ht hW => ⟨rfl, by rw [ht]; exact hH, hS.F ht⟩) hS.2.2 dX10_may_40
    · rw [if_pos c7] at hE
      refine lv_iconst (v := 1) hx hb dX10_may_35 (by decide) ?_
      refine lv_goto (tgt := 40) hx hb dX10_may_36 (by decide) ?_
      have hZ := Option.some.inj hE
      subst hZ
      exact W.zret (v := 1) (ty := .boolean) hx hb hr rfl (fun t ht hW => ⟨rfl, by rw [ht]; exact hH, hS.F ht⟩) hS.2.2 dX10_may_40
  rw [if_neg c5] at hE
  refine lv_lookup (tgt := 58) (off := 57) hx hb dX10_may_1 (by decide) (by have q0 := sw_ne (k := 115) (by decide) c1; have q1 := sw_ne (k := 121) (by decide) c5; simp [Op.lookupswitch.offset, q0, Ne.symm q0, q1, Ne.symm q1]; done) (by decide) ?_
  refine lv_iload_n hx hb dX10_may_58 rfl (lv_at hl 1 rfl) ?_
  refine lv_bipush (v := 99) hx hb dX10_may_59 (by decide) ?_
  refine lv_icmp_ne (tgt := 79) hx hb dX10_may_61 (by decide) (fun c8 => ?_) (fun c8 => ?_)
  · rw [if_neg c8] at hE
    exact sX10_may_b79 (F := F) hC hE _ _ _ hH hS (lv_sub hl [] rfl)
  · rw [if_pos c8] at hE
    refine lv_aload_n hx hb dX10_may_64 rfl (lv_at hl 0 rfl) ?_
    obtain ⟨v9, hv9, hE⟩ := Option.bind_eq_some_iff.mp hE
    refine r_gR 7 (C := RX10) (T := TX10) (N := 26) (ci := 9) hx hb hts (by decide +kernel) hown hK hH hv9 rfl (by decide) (hts (.fieldLink RX10 29 "KindStreetsModel" "people" "[I") (by decide +kernel)) (fun _ h9 => h9) dX10_may_65 ?_
    refine lv_iconst (v := 1) hx hb dX10_may_68 (by decide) ?_
    obtain ⟨v10, hv10, hE⟩ := Option.bind_eq_some_iff.mp hE
    refine r_iald hx hb hK hH hv10 dX10_may_69 ?_
    refine lv_bipush (v := 6) hx hb dX10_may_70 (by decide) ?_
    refine lv_icmp_ge (tgt := 79) hx hb dX10_may_72 (by decide) (fun c11 => ?_) (fun c11 => ?_)
    · rw [if_pos c11] at hE
      exact sX10_may_b79 (F := F) hC hE _ _ _ hH hS (lv_sub hl [] rfl)
    · rw [if_neg c11] at hE
      refine lv_iconst (v := 1) hx hb dX10_may_75 (by decide) ?_
      refine lv_goto (tgt := 80) hx hb dX10_may_76 (by decide) ?_
      have hZ := Option.some.inj hE
      subst hZ
      exact W.zret (v := 1) (ty := .boolean) hx hb hr rfl (fun t ht hW => ⟨rfl, by rw [ht]; exact hH, hS.F ht⟩) hS.2.2 dX10_may_80
-- X10_read
def fX10_read_b136 (F : Nat) (k40 : Nat → HL → Option HL) (a0 : Nat) (L : HL) : Option HL := k40 a0 L
set_option maxHeartbeats 4000000 in
set_option maxRecDepth 100000 in
theorem sX10_read_b136 {b0 : Nat} {D : va_G} {cA : Nat → ClassId} {p : Program} {l : Launch} {ev : Env} {s : State} {m : MethodId} {args : Array Value} {below : List Frame} {meth : Method} {c : Code} {F : Nat} {z : HL} {k40 : Nat → HL → Option HL} {a0 : Nat} {L : HL} (hC : Cx D cA p s m args meth c cX10_read 2 RX10 wsX10_read none) (hk40 : ∀ (a0' : Nat) (L' : HL), k40 a0' L' = some z → WB b0 D cA p l ev (RM 5 0 0) s m args below meth c 2 0 0 (MQ below (Qk b0 D cA none z) args s 0 0 (Ab b0)) 40 [(0, .ref (b0 + a0'))] [] L') (hE : fX10_read_b136 F k40 a0 L = some z) : WB b0 D cA p l ev (RM 5 0 0) s m args below meth c 2 0 0 (MQ below (Qk b0 D cA none z) args s 0 0 (Ab b0)) 136 [(0, .ref (b0 + a0))] [] L := by
  obtain ⟨hx, hb, hml, hown, hts, hK, hr, hlocks⟩ := id hC
  intro H locs ls hH hS hl
  unfold fX10_read_b136 at hE
  refine lv_goto (tgt := 40) hx hb dX10_read_136 (by decide) ?_
  exact hk40 _ _ hE _ _ _ hH hS (lv_sub hl [0] rfl)
def fX10_read_b123 (F : Nat) (k40 : Nat → HL → Option HL) (a0 : Nat) (y0 : Int32) (y1 : Nat) (L : HL) : Option HL := (fX10_due F L y1 y0).bind fun z25 => (o_gI z25 a0 9 15).bind fun v26 => (o_p z25 a0 9 15 (.int (v26 + 1))).bind fun L27 => fX10_read_b136 F k40 a0 L27
set_option maxHeartbeats 4000000 in
set_option maxRecDepth 100000 in
theorem sX10_read_b123 {b0 : Nat} {D : va_G} {cA : Nat → ClassId} {p : Program} {l : Launch} {ev : Env} {s : State} {m : MethodId} {args : Array Value} {below : List Frame} {meth : Method} {c : Code} {F : Nat} {z : HL} {k40 : Nat → HL → Option HL} {a0 : Nat} {y0 : Int32} {y1 : Nat} {L : HL} (hC : Cx D cA p s m args meth c cX10_read 2 RX10 wsX10_read none) (hk40 : ∀ (a0' : Nat) (L' : HL), k40 a0' L' = some z → WB b0 D cA p l ev (RM 5 0 0) s m args below meth c 2 0 0 (MQ below (Qk b0 D cA none z) args s 0 0 (Ab b0)) 40 [(0, .ref (b0 + a0'))] [] L') (hE : fX10_read_b123 F k40 a0 y0 y1 L = some z) : WB b0 D cA p l ev (RM 5 0 0) s m args below meth c 2 0 0 (MQ below (Qk b0 D cA none z) args s 0 0 (Ab b0)) 123 [(0, .ref (b0 + a0))] [.int y0, .ref (b0 + y1)] L := by
  obtain ⟨hx, hb, hml, hown, hts, hK, hr, hlocks⟩ := id hC
  intro H locs ls hH hS hl
  unfold fX10_read_b123 at hE
  obtain ⟨z25, hz25, hE⟩ := Option.bind_eq_some_iff.mp hE
  refine r_callV (va_runV (As := [.int y0]) (rest := []) ⟨hx, hb, hml, hown, hts⟩ (sX10_due l b0 D cA hz25) (cwV 1 hts gX10_read_X10_due rfl rfl rfl (by decide +kernel) (rm_ok (by decide) (by decide))) (pre_V (ci := 9) hK hH (oX10_due hz25) rfl) rfl rfl hl.1 rfl (lv_room (Nat.le_of_ble_eq_true rfl)) dX10_read_123 ⟨Nat.zero_le _, Nat.zero_le _⟩) hS (fun H locs hH hS => ?_)
  refine lv_aload_n hx hb dX10_read_126 rfl (lv_at hl 0 rfl) ?_
  refine lv_dup hx hb dX10_read_127 rfl ?_
  obtain ⟨v26, hv26, hE⟩ := Option.bind_eq_some_iff.mp hE
  refine r_gI 15 (C := RX10) (T := TX10) (N := 26) (ci := 9) hx hb hts (by decide +kernel) hown hK hH hv26 rfl (by decide) (hts (.fieldLink RX10 102 "KindStreetsModel" "items" "I") (by decide +kernel)) (fun _ h9 => h9) dX10_read_128 ?_
  refine lv_iconst (v := 1) hx hb dX10_read_131 (by decide) ?_
  refine lv_iadd hx hb dX10_read_132 ?_
  obtain ⟨L27, hL27, hE⟩ := Option.bind_eq_some_iff.mp hE
  refine r_p 15 (v := .int (v26 + 1)) (ty := .int) (C := RX10) (T := TX10) (N := 26) (ci := 9) hx hb hts (by decide +kernel) tyX10 tyX10_ok nmX10 hown hK hH hS hL27 rfl (by decide) (hts (.fieldLink RX10 102 "KindStreetsModel" "items" "I") (by decide +kernel)) (fun _ h9 => h9) rfl (by decide +kernel) rfl rfl dX10_read_133 (fun H locs hH hS => ?_)
  exact sX10_read_b136 (F := F) hC hk40 hE _ _ _ hH hS (lv_sub hl [0] rfl)
def fX10_read_b94 (F : Nat) (k40 : Nat → HL → Option HL) (a0 : Nat) (x1 : Int32) (y0 : Int32) (y1 : Nat) (L : HL) : Option HL := (fX10_due F L y1 y0).bind fun z19 => (o_gI z19 a0 9 14).bind fun v20 => if v20 = 0 then ((fX10_item F z19 a0 x1).bind fun z22 => (o_gI z22 a0 9 12).bind fun v23 => if v23 = 3 then (fX10_read_b123 F k40 a0 1 a0 z22) else (fX10_read_b123 F k40 a0 0 a0 z22)) else (fX10_read_b136 F k40 a0 z19)
set_option maxHeartbeats 4000000 in
set_option maxRecDepth 100000 in
theorem sX10_read_b94 {b0 : Nat} {D : va_G} {cA : Nat → ClassId} {p : Program} {l : Launch} {ev : Env} {s : State} {m : MethodId} {args : Array Value} {below : List Frame} {meth : Method} {c : Code} {F : Nat} {z : HL} {k40 : Nat → HL → Option HL} {a0 : Nat} {x1 : Int32} {y0 : Int32} {y1 : Nat} {L : HL} (hC : Cx D cA p s m args meth c cX10_read 2 RX10 wsX10_read none) (hk40 : ∀ (a0' : Nat) (L' : HL), k40 a0' L' = some z → WB b0 D cA p l ev (RM 5 0 0) s m args below meth c 2 0 0 (MQ below (Qk b0 D cA none z) args s 0 0 (Ab b0)) 40 [(0, .ref (b0 + a0'))] [] L') (hE : fX10_read_b94 F k40 a0 x1 y0 y1 L = some z) : WB b0 D cA p l ev (RM 5 0 0) s m args below meth c 2 0 0 (MQ below (Qk b0 D cA none z) args s 0 0 (Ab b0)) 94 [(0, .ref (b0 + a0)), (1, .int x1)] [.int y0, .ref (b0 + y1)] L := by
  obtain ⟨hx, hb, hml, hown, hts, hK, hr, hlocks⟩ := id hC
  intro H locs ls hH hS hl
  unfold fX10_read_b94 at hE
  obtain ⟨z19, hz19, hE⟩ := Option.bind_eq_some_iff.mp hE
  refine r_callV (va_runV (As := [.int y0]) (rest := []) ⟨hx, hb, hml, hown, hts⟩ (sX10_due l b0 D cA hz19) (cwV 1 hts gX10_read_X10_due rfl rfl rfl (by decide +kernel) (rm_ok (by decide) (by decide))) (pre_V (ci := 9) hK hH (oX10_due hz19) rfl) rfl rfl hl.1 rfl (lv_room (Nat.le_of_ble_eq_true rfl)) dX10_read_94 ⟨Nat.zero_le _, Nat.zero_le _⟩) hS (fun H locs hH hS => ?_)
  refine lv_aload_n hx hb dX10_read_97 rfl (lv_at hl 0 rfl) ?_
  obtain ⟨v20, hv20, hE⟩ := Option.bind_eq_some_iff.mp hE
  refine r_gI 14 (C := RX10) (T := TX10) (N := 26) (ci := 9) hx hb hts (by decide +kernel) hown hK hH hv20 rfl (by decide) (hts (.fieldLink RX10 87 "KindStreetsModel" "isWrong" "Z") (by decide +kernel)) (fun _ h9 => h9) dX10_read_98 ?_
  refine lv_if_ne (tgt := 136) hx hb dX10_read_101 (by decide) (fun c21 => ?_) (fun c21 => ?_)
  · rw [if_neg c21] at hE
    exact sX10_read_b136 (F := F) hC hk40 hE _ _ _ hH hS (lv_sub hl [0] rfl)
  · rw [if_pos c21] at hE
    refine lv_aload_n hx hb dX10_read_104 rfl (lv_at hl 0 rfl) ?_
    refine lv_iload_n hx hb dX10_read_105 rfl (lv_at hl 1 rfl) ?_
    obtain ⟨z22, hz22, hE⟩ := Option.bind_eq_some_iff.mp hE
    refine r_callV (va_runV (As := [.int x1]) (rest := []) ⟨hx, hb, hml, hown, hts⟩ (sX10_item l b0 D cA hz22) (cwV 1 hts gX10_read_X10_item rfl rfl rfl (by decide +kernel) (rm_ok (by decide) (by decide))) (pre_V (ci := 9) hK hH (oX10_item hz22) rfl) rfl rfl hl.1 rfl (lv_room (Nat.le_of_ble_eq_true rfl)) dX10_read_106 ⟨Nat.zero_le _, Nat.zero_le _⟩) hS (fun H locs hH hS => ?_)
    refine lv_aload_n hx hb dX10_read_109 rfl (lv_at hl 0 rfl) ?_
    refine lv_aload_n hx hb dX10_read_110 rfl (lv_at hl 0 rfl) ?_
    obtain ⟨v23, hv23, hE⟩ := Option.bind_eq_some_iff.mp hE
    refine r_gI 12 (C := RX10) (T := TX10) (N := 26) (ci := 9) hx hb hts (by decide +kernel) hown hK hH hv23 rfl (by decide) (hts (.fieldLink RX10 84 "KindStreetsModel" "sort" "I") (by decide +kernel)) (fun _ h9 => h9) dX10_read_111 ?_
    refine lv_iconst (v := 3) hx hb dX10_read_114 (by decide) ?_
    refine lv_icmp_ne (tgt := 122) hx hb dX10_read_115 (by decide) (fun c24 => ?_) (fun c24 => ?_)
    · rw [if_neg c24] at hE
      refine lv_iconst (v := 0) hx hb dX10_read_122 (by decide) ?_
      exact sX10_read_b123 (F := F) hC hk40 hE _ _ _ hH hS (lv_sub hl [0] rfl)
    · rw [if_pos c24] at hE
      refine lv_iconst (v := 1) hx hb dX10_read_118 (by decide) ?_
      refine lv_goto (tgt := 123) hx hb dX10_read_119 (by decide) ?_
      exact sX10_read_b123 (F := F) hC hk40 hE _ _ _ hH hS (lv_sub hl [0] rfl)
def fX10_read_b93 (F : Nat) (k40 : Nat → HL → Option HL) (a0 : Nat) (x1 : Int32) (y0 : Nat) (L : HL) : Option HL := fX10_read_b94 F k40 a0 x1 0 y0 L
set_option maxHeartbeats 4000000 in
set_option maxRecDepth 100000 in
theorem sX10_read_b93 {b0 : Nat} {D : va_G} {cA : Nat → ClassId} {p : Program} {l : Launch} {ev : Env} {s : State} {m : MethodId} {args : Array Value} {below : List Frame} {meth : Method} {c : Code} {F : Nat} {z : HL} {k40 : Nat → HL → Option HL} {a0 : Nat} {x1 : Int32} {y0 : Nat} {L : HL} (hC : Cx D cA p s m args meth c cX10_read 2 RX10 wsX10_read none) (hk40 : ∀ (a0' : Nat) (L' : HL), k40 a0' L' = some z → WB b0 D cA p l ev (RM 5 0 0) s m args below meth c 2 0 0 (MQ below (Qk b0 D cA none z) args s 0 0 (Ab b0)) 40 [(0, .ref (b0 + a0'))] [] L') (hE : fX10_read_b93 F k40 a0 x1 y0 L = some z) : WB b0 D cA p l ev (RM 5 0 0) s m args below meth c 2 0 0 (MQ below (Qk b0 D cA none z) args s 0 0 (Ab b0)) 93 [(0, .ref (b0 + a0)), (1, .int x1)] [.ref (b0 + y0)] L := by
  obtain ⟨hx, hb, hml, hown, hts, hK, hr, hlocks⟩ := id hC
  intro H locs ls hH hS hl
  unfold fX10_read_b93 at hE
  refine lv_iconst (v := 0) hx hb dX10_read_93 (by decide) ?_
  exact sX10_read_b94 (F := F) hC hk40 hE _ _ _ hH hS (lv_sub hl [0, 1] rfl)
def fX10_read_b71 (F : Nat) (k40 : Nat → HL → Option HL) (a0 : Nat) (y0 : Int32) (L : HL) : Option HL := (o_gI L a0 9 12).bind fun v17 => if v17 = 1 then ((fX10_may F L a0 y0).bind fun z28 => if z28.1 = 0 then (fX10_read_b93 F k40 a0 y0 a0 z28.2) else (fX10_read_b94 F k40 a0 y0 1 a0 z28.2)) else (fX10_read_b93 F k40 a0 y0 a0 L)
set_option maxHeartbeats 4000000 in
set_option maxRecDepth 100000 in
theorem sX10_read_b71 {b0 : Nat} {D : va_G} {cA : Nat → ClassId} {p : Program} {l : Launch} {ev : Env} {s : State} {m : MethodId} {args : Array Value} {below : List Frame} {meth : Method} {c : Code} {F : Nat} {z : HL} {k40 : Nat → HL → Option HL} {a0 : Nat} {y0 : Int32} {L : HL} (hC : Cx D cA p s m args meth c cX10_read 2 RX10 wsX10_read none) (hk40 : ∀ (a0' : Nat) (L' : HL), k40 a0' L' = some z → WB b0 D cA p l ev (RM 5 0 0) s m args below meth c 2 0 0 (MQ below (Qk b0 D cA none z) args s 0 0 (Ab b0)) 40 [(0, .ref (b0 + a0'))] [] L') (hE : fX10_read_b71 F k40 a0 y0 L = some z) : WB b0 D cA p l ev (RM 5 0 0) s m args below meth c 2 0 0 (MQ below (Qk b0 D cA none z) args s 0 0 (Ab b0)) 71 [(0, .ref (b0 + a0))] [.int y0] L := by
  obtain ⟨hx, hb, hml, hown, hts, hK, hr, hlocks⟩ := id hC
  intro H locs ls hH hS hl
  unfold fX10_read_b71 at hE
  refine lv_istore_n (lv' := [(1, .int y0), (0, .ref (b0 + a0))]) hx hb dX10_read_71 rfl hl (by decide) rfl (fun ls hl => ?_)
  refine lv_aload_n hx hb dX10_read_72 rfl (lv_at hl 1 rfl) ?_
  refine lv_aload_n hx hb dX10_read_73 rfl (lv_at hl 1 rfl) ?_
  obtain ⟨v17, hv17, hE⟩ := Option.bind_eq_some_iff.mp hE
  refine r_gI 12 (C := RX10) (T := TX10) (N := 26) (ci := 9) hx hb hts (by decide +kernel) hown hK hH hv17 rfl (by decide) (hts (.fieldLink RX10 84 "KindStreetsModel" "sort" "I") (by decide +kernel)) (fun _ h9 => h9) dX10_read_74 ?_
  refine lv_iconst (v := 1) hx hb dX10_read_77 (by decide) ?_
  refine lv_icmp_ne (tgt := 93) hx hb dX10_read_78 (by decide) (fun c18 => ?_) (fun c18 => ?_)
  · rw [if_neg c18] at hE
    exact sX10_read_b93 (F := F) hC hk40 hE _ _ _ hH hS (lv_sub hl [1, 0] rfl)
  · rw [if_pos c18] at hE
    refine lv_aload_n hx hb dX10_read_81 rfl (lv_at hl 1 rfl) ?_
    refine lv_iload_n hx hb dX10_read_82 rfl (lv_at hl 0 rfl) ?_
    obtain ⟨z28, hz28, hE⟩ := Option.bind_eq_some_iff.mp hE
    refine r_callI (va_runV (As := [.int y0]) (rest := [.ref (b0 + a0)]) ⟨hx, hb, hml, hown, hts⟩ (sX10_may l b0 D cA hz28) (cwV 1 hts gX10_read_X10_may rfl rfl rfl (by decide +kernel) (rm_ok (by decide) (by decide))) (pre_V (ci := 9) hK hH (oX10_may hz28) rfl) rfl rfl hl.1 rfl (lv_room (Nat.le_of_ble_eq_true rfl)) dX10_read_83 ⟨Nat.zero_le _, Nat.zero_le _⟩) hS (fun H locs hH hS => ?_)
    refine lv_if_eq (tgt := 93) hx hb dX10_read_86 (by decide) (fun c29 => ?_) (fun c29 => ?_)
    · rw [if_pos c29] at hE
      exact sX10_read_b93 (F := F) hC hk40 hE _ _ _ hH hS (lv_sub hl [1, 0] rfl)
    · rw [if_neg c29] at hE
      refine lv_iconst (v := 1) hx hb dX10_read_89 (by decide) ?_
      refine lv_goto (tgt := 94) hx hb dX10_read_90 (by decide) ?_
      exact sX10_read_b94 (F := F) hC hk40 hE _ _ _ hH hS (lv_sub hl [1, 0] rfl)
def fX10_read_b40c (F : Nat) (k40 : Nat → HL → Option HL) (a0 : Nat) (L : HL) : Option HL := (o_gI L a0 9 12).bind fun v11 => if v11 = 4 then (some L) else ((o_gI L a0 9 14).bind fun v13 => if v13 = 0 then ((o_gI L a0 9 12).bind fun v15 => if v15 = 1 then ((o_gI L a0 9 13).bind fun v30 => fX10_read_b71 F k40 a0 v30 L) else (fX10_read_b71 F k40 a0 0 L)) else (some L))
def fX10_read_b40 (F : Nat) : Nat → Nat → HL → Option HL
  | 0 => fun _ _ => none
  | n + 1 => fun a0 L => fX10_read_b40c F (fX10_read_b40 F n) a0 L
set_option maxHeartbeats 4000000 in
set_option maxRecDepth 100000 in
theorem sX10_read_b40c {b0 : Nat} {D : va_G} {cA : Nat → ClassId} {p : Program} {l : Launch} {ev : Env} {s : State} {m : MethodId} {args : Array Value} {below : List Frame} {meth : Method} {c : Code} {F : Nat} {z : HL} {k40 : Nat → HL → Option HL} {a0 : Nat} {L : HL} (hC : Cx D cA p s m args meth c cX10_read 2 RX10 wsX10_read none) (hk40 : ∀ (a0' : Nat) (L' : HL), k40 a0' L' = some z → WB b0 D cA p l ev (RM 5 0 0) s m args below meth c 2 0 0 (MQ below (Qk b0 D cA none z) args s 0 0 (Ab b0)) 40 [(0, .ref (b0 + a0'))] [] L') (hE : fX10_read_b40c F k40 a0 L = some z) : WB b0 D cA p l ev (RM 5 0 0) s m args below meth c 2 0 0 (MQ below (Qk b0 D cA none z) args s 0 0 (Ab b0)) 40 [(0, .ref (b0 + a0))] [] L := by
  obtain ⟨hx, hb, hml, hown, hts, hK, hr, hlocks⟩ := id hC
  intro H locs ls hH hS hl
  unfold fX10_read_b40c at hE
  refine lv_aload_n hx hb dX10_read_40 rfl (lv_at hl 0 rfl) ?_
  obtain ⟨v11, hv11, hE⟩ := Option.bind_eq_some_iff.mp hE
  refine r_gI 12 (C := RX10) (T := TX10) (N := 26) (ci := 9) hx hb hts (by decide +kernel) hown hK hH hv11 rfl (by decide) (hts (.fieldLink RX10 84 "KindStreetsModel" "sort" "I") (by decide +kernel)) (fun _ h9 => h9) dX10_read_41 ?_
  refine lv_iconst (v := 4) hx hb dX10_read_44 (by decide) ?_
  refine lv_icmp_eq (tgt := 139) hx hb dX10_read_45 (by decide) (fun c12 => ?_) (fun c12 => ?_)
  · rw [if_pos c12] at hE
    have hZ := Option.some.inj hE
    subst hZ
    exact W.vret hx hb hr (fun t ht hW => ⟨rfl, by rw [ht]; exact hH, hS.F ht⟩) hS.2.2 dX10_read_139
  · rw [if_neg c12] at hE
    refine lv_aload_n hx hb dX10_read_48 rfl (lv_at hl 0 rfl) ?_
    obtain ⟨v13, hv13, hE⟩ := Option.bind_eq_some_iff.mp hE
    refine r_gI 14 (C := RX10) (T := TX10) (N := 26) (ci := 9) hx hb hts (by decide +kernel) hown hK hH hv13 rfl (by decide) (hts (.fieldLink RX10 87 "KindStreetsModel" "isWrong" "Z") (by decide +kernel)) (fun _ h9 => h9) dX10_read_49 ?_
    refine lv_if_ne (tgt := 139) hx hb dX10_read_52 (by decide) (fun c14 => ?_) (fun c14 => ?_)
    · rw [if_neg c14] at hE
      have hZ := Option.some.inj hE
      subst hZ
      exact W.vret hx hb hr (fun t ht hW => ⟨rfl, by rw [ht]; exact hH, hS.F ht⟩) hS.2.2 dX10_read_139
    · rw [if_pos c14] at hE
      refine lv_aload_n hx hb dX10_read_55 rfl (lv_at hl 0 rfl) ?_
      obtain ⟨v15, hv15, hE⟩ := Option.bind_eq_some_iff.mp hE
      refine r_gI 12 (C := RX10) (T := TX10) (N := 26) (ci := 9) hx hb hts (by decide +kernel) hown hK hH hv15 rfl (by decide) (hts (.fieldLink RX10 84 "KindStreetsModel" "sort" "I") (by decide +kernel)) (fun _ h9 => h9) dX10_read_56 ?_
      refine lv_iconst (v := 1) hx hb dX10_read_59 (by decide) ?_
      refine lv_icmp_ne (tgt := 70) hx hb dX10_read_60 (by decide) (fun c16 => ?_) (fun c16 => ?_)
      · rw [if_neg c16] at hE
        refine lv_iconst (v := 0) hx hb dX10_read_70 (by decide) ?_
        exact sX10_read_b71 (F := F) hC hk40 hE _ _ _ hH hS (lv_sub hl [0] rfl)
      · rw [if_pos c16] at hE
        refine lv_aload_n hx hb dX10_read_63 rfl (lv_at hl 0 rfl) ?_
        obtain ⟨v30, hv30, hE⟩ := Option.bind_eq_some_iff.mp hE
        refine r_gI 13 (C := RX10) (T := TX10) (N := 26) (ci := 9) hx hb hts (by decide +kernel) hown hK hH hv30 rfl (by decide) (hts (.fieldLink RX10 81 "KindStreetsModel" "value" "I") (by decide +kernel)) (fun _ h9 => h9) dX10_read_64 ?_
        refine lv_goto (tgt := 71) hx hb dX10_read_67 (by decide) ?_
        exact sX10_read_b71 (F := F) hC hk40 hE _ _ _ hH hS (lv_sub hl [0] rfl)
theorem sX10_read_b40 {b0 : Nat} {D : va_G} {cA : Nat → ClassId} {p : Program} {l : Launch} {ev : Env} {s : State} {m : MethodId} {args : Array Value} {below : List Frame} {meth : Method} {c : Code} {F : Nat} {z : HL} (hC : Cx D cA p s m args meth c cX10_read 2 RX10 wsX10_read none) : ∀ (n : Nat) (a0 : Nat) (L : HL), fX10_read_b40 F n a0 L = some z → WB b0 D cA p l ev (RM 5 0 0) s m args below meth c 2 0 0 (MQ below (Qk b0 D cA none z) args s 0 0 (Ab b0)) 40 [(0, .ref (b0 + a0))] [] L := by
  intro n
  induction n with
  | zero => intro a0 L hE; cases hE
  | succ n ih => intro a0 L hE; exact sX10_read_b40c (F := F) hC ih hE
def fX10_read (F : Nat) (L : HL) (a0 : Nat) : Option HL := (o_ob L a0 9).bind fun _ => (o_p L a0 9 10 (.int 0)).bind fun L1 => (o_p L1 a0 9 14 (.int 0)).bind fun L2 => (o_p L2 a0 9 15 (.int 0)).bind fun L3 => (o_gR L3 a0 9 2).bind fun v4 => (o_sI L3 v4 0 1 4).bind fun L5 => (o_gR L5 a0 9 3).bind fun v6 => (o_sI L5 v6 0 1 0).bind fun L7 => (o_gR L7 a0 9 7).bind fun v8 => (o_sI L7 v8 0 1 0).bind fun L9 => (fX10_step F L9 a0).bind fun z10 => fX10_read_b40 F F a0 z10
theorem oX10_read {F : Nat} {L : HL} {a0 : Nat} {z : HL} (hE : fX10_read F L a0 = some z) : o_ob L a0 9 = some () := by
  obtain ⟨_, h, _⟩ := Option.bind_eq_some_iff.mp hE
  exact h
set_option maxHeartbeats 4000000 in
set_option maxRecDepth 100000 in
theorem sX10_read (l : Launch) (b0 : Nat) (D : va_G) (cA : Nat → ClassId) {F : Nat} {L : HL} {a0 : Nat} {z : HL} (hE : fX10_read F L a0 = some z) : Met l yX10_read wsX10_read (RM 5 0 0) (Pk b0 D cA [.ref (b0 + a0)] L) (Qk b0 D cA none z) 0 0 (Ab b0) := by
  refine Met.ofW (cc := cX10_read) (maxL := 2) (ret := none) (by decide) rfl ?_
  intro p ev s m args below meth c s₁ B hml hv
  obtain ⟨rfl, hH, hK⟩ := hv
  have hx := B.exec
  have hb := B.bytes
  have hr := B.returns
  have hts := atoms_spec (ws := wsX10_read) B.pre
  have hown : s.vm.findClass RX10 = some m.cls := findClass_of_methodNamed B.named
  have hlocks := B.notSynchronized
  have hC : Cx D cA p s m _ meth c cX10_read 2 RX10 wsX10_read none := ⟨hx, hb, hml, hown, hts, hK, hr, hlocks⟩
  have hS : va_S (Ab b0) s.heap s.heap [] := va_S.rf
  have hl := lv_entry ([.ref (b0 + a0)]) (n := 2) (Nat.le_of_ble_eq_true rfl)
  rw [lg_entry_eq]
  generalize (lg_sl ([.ref (b0 + a0)]) ++ List.replicate (2 - (lg_sl ([.ref (b0 + a0)])).length) Slot.unset).toArray = ls at hl ⊢
  have hl : lv_has ls 2 [(0, .ref (b0 + a0))] := hl
  unfold fX10_read at hE
  obtain ⟨_, _, hE⟩ := Option.bind_eq_some_iff.mp hE
  refine lv_aload_n hx hb dX10_read_0 rfl (lv_at hl 0 rfl) ?_
  refine lv_iconst (v := 0) hx hb dX10_read_1 (by decide) ?_
  obtain ⟨L1, hL1, hE⟩ := Option.bind_eq_some_iff.mp hE
  refine r_p 10 (v := .int 0) (ty := .int) (C := RX10) (T := TX10) (N := 26) (ci := 9) hx hb hts (by decide +kernel) tyX10 tyX10_ok nmX10 hown hK hH hS hL1 rfl (by decide) (hts (.fieldLink RX10 71 "KindStreetsModel" "at" "I") (by decide +kernel)) (fun _ h9 => h9) rfl (by decide +kernel) rfl rfl dX10_read_2 (fun H locs hH hS => ?_)
  refine lv_aload_n hx hb dX10_read_5 rfl (lv_at hl 0 rfl) ?_
  refine lv_iconst (v := 0) hx hb dX10_read_6 (by decide) ?_
  obtain ⟨L2, hL2, hE⟩ := Option.bind_eq_some_iff.mp hE
  refine r_p 14 (v := .int 0) (ty := .boolean) (C := RX10) (T := TX10) (N := 26) (ci := 9) hx hb hts (by decide +kernel) tyX10 tyX10_ok nmX10 hown hK hH hS hL2 rfl (by decide) (hts (.fieldLink RX10 87 "KindStreetsModel" "isWrong" "Z") (by decide +kernel)) (fun _ h9 => h9) rfl (by decide +kernel) rfl rfl dX10_read_7 (fun H locs hH hS => ?_)
  refine lv_aload_n hx hb dX10_read_10 rfl (lv_at hl 0 rfl) ?_
  refine lv_iconst (v := 0) hx hb dX10_read_11 (by decide) ?_
  obtain ⟨L3, hL3, hE⟩ := Option.bind_eq_some_iff.mp hE
  refine r_p 15 (v := .int 0) (ty := .int) (C := RX10) (T := TX10) (N := 26) (ci := 9) hx hb hts (by decide +kernel) tyX10 tyX10_ok nmX10 hown hK hH hS hL3 rfl (by decide) (hts (.fieldLink RX10 102 "KindStreetsModel" "items" "I") (by decide +kernel)) (fun _ h9 => h9) rfl (by decide +kernel) rfl rfl dX10_read_12 (fun H locs hH hS => ?_)
  refine lv_aload_n hx hb dX10_read_15 rfl (lv_at hl 0 rfl) ?_
  obtain ⟨v4, hv4, hE⟩ := Option.bind_eq_some_iff.mp hE
  refine r_gR 2 (C := RX10) (T := TX10) (N := 26) (ci := 9) hx hb hts (by decide +kernel) hown hK hH hv4 rfl (by decide) (hts (.fieldLink RX10 13 "KindStreetsModel" "yards" "[I") (by decide +kernel)) (fun _ h9 => h9) dX10_read_16 ?_
  refine lv_iconst (v := 1) hx hb dX10_read_19 (by decide) ?_
  refine lv_iconst (v := 4) hx hb dX10_read_20 (by decide) ?_
  obtain ⟨L5, hL5, hE⟩ := Option.bind_eq_some_iff.mp hE
  refine r_iast hx hb hK hH hS hL5 dX10_read_21 (fun H locs hH hS => ?_)
  refine lv_aload_n hx hb dX10_read_22 rfl (lv_at hl 0 rfl) ?_
  obtain ⟨v6, hv6, hE⟩ := Option.bind_eq_some_iff.mp hE
  refine r_gR 3 (C := RX10) (T := TX10) (N := 26) (ci := 9) hx hb hts (by decide +kernel) hown hK hH hv6 rfl (by decide) (hts (.fieldLink RX10 17 "KindStreetsModel" "streets" "[I") (by decide +kernel)) (fun _ h9 => h9) dX10_read_23 ?_
  refine lv_iconst (v := 1) hx hb dX10_read_26 (by decide) ?_
  refine lv_iconst (v := 0) hx hb dX10_read_27 (by decide) ?_
  obtain ⟨L7, hL7, hE⟩ := Option.bind_eq_some_iff.mp hE
  refine r_iast hx hb hK hH hS hL7 dX10_read_28 (fun H locs hH hS => ?_)
  refine lv_aload_n hx hb dX10_read_29 rfl (lv_at hl 0 rfl) ?_
  obtain ⟨v8, hv8, hE⟩ := Option.bind_eq_some_iff.mp hE
  refine r_gR 7 (C := RX10) (T := TX10) (N := 26) (ci := 9) hx hb hts (by decide +kernel) hown hK hH hv8 rfl (by decide) (hts (.fieldLink RX10 29 "KindStreetsModel" "people" "[I") (by decide +kernel)) (fun _ h9 => h9) dX10_read_30 ?_
  refine lv_iconst (v := 1) hx hb dX10_read_33 (by decide) ?_
  refine lv_iconst (v := 0) hx hb dX10_read_34 (by decide) ?_
  obtain ⟨L9, hL9, hE⟩ := Option.bind_eq_some_iff.mp hE
  refine r_iast hx hb hK hH hS hL9 dX10_read_35 (fun H locs hH hS => ?_)
  refine lv_aload_n hx hb dX10_read_36 rfl (lv_at hl 0 rfl) ?_
  obtain ⟨z10, hz10, hE⟩ := Option.bind_eq_some_iff.mp hE
  refine r_callV (va_runV (As := []) (rest := []) ⟨hx, hb, hml, hown, hts⟩ (sX10_step l b0 D cA hz10) (cwV 0 hts gX10_read_X10_step rfl rfl rfl (by decide +kernel) (rm_ok (by decide) (by decide))) (pre_V (ci := 9) hK hH (oX10_step hz10) rfl) rfl rfl hl.1 rfl (lv_room (Nat.le_of_ble_eq_true rfl)) dX10_read_37 ⟨Nat.zero_le _, Nat.zero_le _⟩) hS (fun H locs hH hS => ?_)
  exact sX10_read_b40 (F := F) hC F _ _ hE _ _ _ hH hS (lv_sub hl [0] rfl)
-- X10_town
def fX10_town_b190 (F : Nat) (k153 : Nat → Int32 → HL → Option (Int32 × HL)) (a0 : Nat) (x1 : Int32) (y0 : Int32) (y1 : Int32) (y2 : Nat) (L : HL) : Option (Int32 × HL) := (o_sI L y2 0 y1 y0).bind fun L32 => (o_gR L32 a0 9 9).bind fun v33 => (o_gR L32 a0 9 9).bind fun v34 => (o_aI L32 v34 0 (6 + x1)).bind fun v35 => (o_sI L32 v33 0 x1 v35).bind fun L36 => k153 a0 (x1 + 1) L36
set_option maxHeartbeats 4000000 in
set_option maxRecDepth 100000 in
theorem sX10_town_b190 {b0 : Nat} {D : va_G} {cA : Nat → ClassId} {p : Program} {l : Launch} {ev : Env} {s : State} {m : MethodId} {args : Array Value} {below : List Frame} {meth : Method} {c : Code} {F : Nat} {z : (Int32 × HL)} {k153 : Nat → Int32 → HL → Option (Int32 × HL)} {a0 : Nat} {x1 : Int32} {y0 : Int32} {y1 : Int32} {y2 : Nat} {L : HL} (hC : Cx D cA p s m args meth c cX10_town 2 RX10 wsX10_town (some .int)) (hk153 : ∀ (a0' : Nat) (x1' : Int32) (L' : HL), k153 a0' x1' L' = some z → WB b0 D cA p l ev (RM 6 0 0) s m args below meth c 2 0 0 (MQ below (Qk b0 D cA (some (.int z.1)) z.2) args s 0 0 (Ab b0)) 153 [(0, .ref (b0 + a0')), (1, .int x1')] [] L') (hE : fX10_town_b190 F k153 a0 x1 y0 y1 y2 L = some z) : WB b0 D cA p l ev (RM 6 0 0) s m args below meth c 2 0 0 (MQ below (Qk b0 D cA (some (.int z.1)) z.2) args s 0 0 (Ab b0)) 190 [(0, .ref (b0 + a0)), (1, .int x1)] [.int y0, .int y1, .ref (b0 + y2)] L := by
  obtain ⟨hx, hb, hml, hown, hts, hK, hr, hlocks⟩ := id hC
  intro H locs ls hH hS hl
  unfold fX10_town_b190 at hE
  obtain ⟨L32, hL32, hE⟩ := Option.bind_eq_some_iff.mp hE
  refine r_iast hx hb hK hH hS hL32 dX10_town_190 (fun H locs hH hS => ?_)
  refine lv_aload_n hx hb dX10_town_191 rfl (lv_at hl 0 rfl) ?_
  obtain ⟨v33, hv33, hE⟩ := Option.bind_eq_some_iff.mp hE
  refine r_gR 9 (C := RX10) (T := TX10) (N := 26) (ci := 9) hx hb hts (by decide +kernel) hown hK hH hv33 rfl (by decide) (hts (.fieldLink RX10 35 "KindStreetsModel" "wants" "[I") (by decide +kernel)) (fun _ h9 => h9) dX10_town_192 ?_
  refine lv_iload_n hx hb dX10_town_195 rfl (lv_at hl 1 rfl) ?_
  refine lv_aload_n hx hb dX10_town_196 rfl (lv_at hl 0 rfl) ?_
  obtain ⟨v34, hv34, hE⟩ := Option.bind_eq_some_iff.mp hE
  refine r_gR 9 (C := RX10) (T := TX10) (N := 26) (ci := 9) hx hb hts (by decide +kernel) hown hK hH hv34 rfl (by decide) (hts (.fieldLink RX10 35 "KindStreetsModel" "wants" "[I") (by decide +kernel)) (fun _ h9 => h9) dX10_town_197 ?_
  refine lv_bipush (v := 6) hx hb dX10_town_200 (by decide) ?_
  refine lv_iload_n hx hb dX10_town_202 rfl (lv_at hl 1 rfl) ?_
  refine lv_iadd hx hb dX10_town_203 ?_
  obtain ⟨v35, hv35, hE⟩ := Option.bind_eq_some_iff.mp hE
  refine r_iald hx hb hK hH hv35 dX10_town_204 ?_
  obtain ⟨L36, hL36, hE⟩ := Option.bind_eq_some_iff.mp hE
  refine r_iast hx hb hK hH hS hL36 dX10_town_205 (fun H locs hH hS => ?_)
  refine lv_iinc (v := (x1 + 1)) (lv' := [(1, .int (x1 + 1)), (0, .ref (b0 + a0))]) hx hb dX10_town_206 hl (k := 1) rfl rfl (by decide) rfl (fun ls hl => ?_)
  refine lv_goto (tgt := 153) hx hb dX10_town_209 (by decide) ?_
  exact hk153 _ _ _ hE _ _ _ hH hS (lv_sub hl [1, 0] rfl)
def fX10_town_b153c (F : Nat) (k153 : Nat → Int32 → HL → Option (Int32 × HL)) (a0 : Nat) (x1 : Int32) (L : HL) : Option (Int32 × HL) := if 6 ≤ x1 then ((o_gR L a0 9 17).bind fun v19 => (o_sI L v19 0 0 0).bind fun L20 => (o_gR L20 a0 9 20).bind fun v21 => (o_sI L20 v21 2 0 (vp_nar .boolean 0)).bind fun L22 => (o_gR L22 a0 9 20).bind fun v23 => (o_sI L22 v23 2 1 (vp_nar .boolean 0)).bind fun L24 => (o_p L24 a0 9 24 (.int 0)).bind fun L25 => (o_p L25 a0 9 1 (.int 0)).bind fun L26 => (o_gI L26 a0 9 15).bind fun v27 => some (v27, L26)) else ((o_gR L a0 9 16).bind fun v28 => (o_gR L a0 9 7).bind fun v29 => (o_aI L v29 0 0).bind fun v30 => if v30 ≤ x1 then (fX10_town_b190 F k153 a0 x1 0 (28 + x1) v28 L) else ((o_gR L a0 9 8).bind fun v37 => (o_aI L v37 0 (6 + x1)).bind fun v38 => fX10_town_b190 F k153 a0 x1 v38 (28 + x1) v28 L))
def fX10_town_b153 (F : Nat) : Nat → Nat → Int32 → HL → Option (Int32 × HL)
  | 0 => fun _ _ _ => none
  | n + 1 => fun a0 x1 L => fX10_town_b153c F (fX10_town_b153 F n) a0 x1 L
set_option maxHeartbeats 4000000 in
set_option maxRecDepth 100000 in
theorem sX10_town_b153c {b0 : Nat} {D : va_G} {cA : Nat → ClassId} {p : Program} {l : Launch} {ev : Env} {s : State} {m : MethodId} {args : Array Value} {below : List Frame} {meth : Method} {c : Code} {F : Nat} {z : (Int32 × HL)} {k153 : Nat → Int32 → HL → Option (Int32 × HL)} {a0 : Nat} {x1 : Int32} {L : HL} (hC : Cx D cA p s m args meth c cX10_town 2 RX10 wsX10_town (some .int)) (hk153 : ∀ (a0' : Nat) (x1' : Int32) (L' : HL), k153 a0' x1' L' = some z → WB b0 D cA p l ev (RM 6 0 0) s m args below meth c 2 0 0 (MQ below (Qk b0 D cA (some (.int z.1)) z.2) args s 0 0 (Ab b0)) 153 [(0, .ref (b0 + a0')), (1, .int x1')] [] L') (hE : fX10_town_b153c F k153 a0 x1 L = some z) : WB b0 D cA p l ev (RM 6 0 0) s m args below meth c 2 0 0 (MQ below (Qk b0 D cA (some (.int z.1)) z.2) args s 0 0 (Ab b0)) 153 [(0, .ref (b0 + a0)), (1, .int x1)] [] L := by
  obtain ⟨hx, hb, hml, hown, hts, hK, hr, hlocks⟩ := id hC
  intro H locs ls hH hS hl
  unfold fX10_town_b153c at hE
  refine lv_iload_n hx hb dX10_town_153 rfl (lv_at hl 1 rfl) ?_
  refine lv_bipush (v := 6) hx hb dX10_town_154 (by decide) ?_
  refine lv_icmp_ge (tgt := 212) hx hb dX10_town_156 (by decide) (fun c18 => ?_) (fun c18 => ?_)
  · rw [if_pos c18] at hE
    refine lv_aload_n hx hb dX10_town_212 rfl (lv_at hl 0 rfl) ?_
    obtain ⟨v19, hv19, hE⟩ := Option.bind_eq_some_iff.mp hE
    refine r_gR 17 (C := RX10) (T := TX10) (N := 26) (ci := 9) hx hb hts (by decide +kernel) hown hK hH hv19 rfl (by decide) (hts (.fieldLink RX10 41 "KindStreetsModel" "known" "[I") (by decide +kernel)) (fun _ h9 => h9) dX10_town_213 ?_
    refine lv_iconst (v := 0) hx hb dX10_town_216 (by decide) ?_
    refine lv_iconst (v := 0) hx hb dX10_town_217 (by decide) ?_
    obtain ⟨L20, hL20, hE⟩ := Option.bind_eq_some_iff.mp hE
    refine r_iast hx hb hK hH hS hL20 dX10_town_218 (fun H locs hH hS => ?_)
    refine lv_aload_n hx hb dX10_town_219 rfl (lv_at hl 0 rfl) ?_
    obtain ⟨v21, hv21, hE⟩ := Option.bind_eq_some_iff.mp hE
    refine r_gR 20 (C := RX10) (T := TX10) (N := 26) (ci := 9) hx hb hts (by decide +kernel) hown hK hH hv21 rfl (by decide) (hts (.fieldLink RX10 50 "KindStreetsModel" "isKept" "[Z") (by decide +kernel)) (fun _ h9 => h9) dX10_town_220 ?_
    refine lv_iconst (v := 0) hx hb dX10_town_223 (by decide) ?_
    refine lv_iconst (v := 0) hx hb dX10_town_224 (by decide) ?_
    obtain ⟨L22, hL22, hE⟩ := Option.bind_eq_some_iff.mp hE
    refine r_zast hx hb hK hH hS hL22 dX10_town_225 (fun H locs hH hS => ?_)
    refine lv_aload_n hx hb dX10_town_226 rfl (lv_at hl 0 rfl) ?_
    obtain ⟨v23, hv23, hE⟩ := Option.bind_eq_some_iff.mp hE
    refine r_gR 20 (C := RX10) (T := TX10) (N := 26) (ci := 9) hx hb hts (by decide +kernel) hown hK hH hv23 rfl (by decide) (hts (.fieldLink RX10 50 "KindStreetsModel" "isKept" "[Z") (by decide +kernel)) (fun _ h9 => h9) dX10_town_227 ?_
    refine lv_iconst (v := 1) hx hb dX10_town_230 (by decide) ?_
    refine lv_iconst (v := 0) hx hb dX10_town_231 (by decide) ?_
    obtain ⟨L24, hL24, hE⟩ := Option.bind_eq_some_iff.mp hE
    refine r_zast hx hb hK hH hS hL24 dX10_town_232 (fun H locs hH hS => ?_)
    refine lv_aload_n hx hb dX10_town_233 rfl (lv_at hl 0 rfl) ?_
    refine lv_iconst (v := 0) hx hb dX10_town_234 (by decide) ?_
    obtain ⟨L25, hL25, hE⟩ := Option.bind_eq_some_iff.mp hE
    refine r_p 24 (v := .int 0) (ty := .int) (C := RX10) (T := TX10) (N := 26) (ci := 9) hx hb hts (by decide +kernel) tyX10 tyX10_ok nmX10 hown hK hH hS hL25 rfl (by decide) (hts (.fieldLink RX10 116 "KindStreetsModel" "facts" "I") (by decide +kernel)) (fun _ h9 => h9) rfl (by decide +kernel) rfl rfl dX10_town_235 (fun H locs hH hS => ?_)
    refine lv_aload_n hx hb dX10_town_238 rfl (lv_at hl 0 rfl) ?_
    refine lv_iconst (v := 0) hx hb dX10_town_239 (by decide) ?_
    obtain ⟨L26, hL26, hE⟩ := Option.bind_eq_some_iff.mp hE
    refine r_p 1 (v := .int 0) (ty := .int) (C := RX10) (T := TX10) (N := 26) (ci := 9) hx hb hts (by decide +kernel) tyX10 tyX10_ok nmX10 hown hK hH hS hL26 rfl (by decide) (hts (.fieldLink RX10 67 "KindStreetsModel" "typed" "I") (by decide +kernel)) (fun _ h9 => h9) rfl (by decide +kernel) rfl rfl dX10_town_240 (fun H locs hH hS => ?_)
    refine lv_aload_n hx hb dX10_town_243 rfl (lv_at hl 0 rfl) ?_
    obtain ⟨v27, hv27, hE⟩ := Option.bind_eq_some_iff.mp hE
    refine r_gI 15 (C := RX10) (T := TX10) (N := 26) (ci := 9) hx hb hts (by decide +kernel) hown hK hH hv27 rfl (by decide) (hts (.fieldLink RX10 102 "KindStreetsModel" "items" "I") (by decide +kernel)) (fun _ h9 => h9) dX10_town_244 ?_
    have hZ := Option.some.inj hE
    subst hZ
    exact W.iret (v := v27) hx hb hr (fun t ht hW => ⟨rfl, by rw [ht]; exact hH, hS.F ht⟩) hS.2.2 dX10_town_247
  · rw [if_neg c18] at hE
    refine lv_aload_n hx hb dX10_town_159 rfl (lv_at hl 0 rfl) ?_
    obtain ⟨v28, hv28, hE⟩ := Option.bind_eq_some_iff.mp hE
    refine r_gR 16 (C := RX10) (T := TX10) (N := 26) (ci := 9) hx hb hts (by decide +kernel) hown hK hH hv28 rfl (by decide) (hts (.fieldLink RX10 38 "KindStreetsModel" "now" "[I") (by decide +kernel)) (fun _ h9 => h9) dX10_town_160 ?_
    refine lv_bipush (v := 28) hx hb dX10_town_163 (by decide) ?_
    refine lv_iload_n hx hb dX10_town_165 rfl (lv_at hl 1 rfl) ?_
    refine lv_iadd hx hb dX10_town_166 ?_
    refine lv_iload_n hx hb dX10_town_167 rfl (lv_at hl 1 rfl) ?_
    refine lv_aload_n hx hb dX10_town_168 rfl (lv_at hl 0 rfl) ?_
    obtain ⟨v29, hv29, hE⟩ := Option.bind_eq_some_iff.mp hE
    refine r_gR 7 (C := RX10) (T := TX10) (N := 26) (ci := 9) hx hb hts (by decide +kernel) hown hK hH hv29 rfl (by decide) (hts (.fieldLink RX10 29 "KindStreetsModel" "people" "[I") (by decide +kernel)) (fun _ h9 => h9) dX10_town_169 ?_
    refine lv_iconst (v := 0) hx hb dX10_town_172 (by decide) ?_
    obtain ⟨v30, hv30, hE⟩ := Option.bind_eq_some_iff.mp hE
    refine r_iald hx hb hK hH hv30 dX10_town_173 ?_
    refine lv_icmp_ge (tgt := 189) hx hb dX10_town_174 (by decide) (fun c31 => ?_) (fun c31 => ?_)
    · rw [if_pos c31] at hE
      refine lv_iconst (v := 0) hx hb dX10_town_189 (by decide) ?_
      exact sX10_town_b190 (F := F) hC hk153 hE _ _ _ hH hS (lv_sub hl [0, 1] rfl)
    · rw [if_neg c31] at hE
      refine lv_aload_n hx hb dX10_town_177 rfl (lv_at hl 0 rfl) ?_
      obtain ⟨v37, hv37, hE⟩ := Option.bind_eq_some_iff.mp hE
      refine r_gR 8 (C := RX10) (T := TX10) (N := 26) (ci := 9) hx hb hts (by decide +kernel) hown hK hH hv37 rfl (by decide) (hts (.fieldLink RX10 32 "KindStreetsModel" "home" "[I") (by decide +kernel)) (fun _ h9 => h9) dX10_town_178 ?_
      refine lv_bipush (v := 6) hx hb dX10_town_181 (by decide) ?_
      refine lv_iload_n hx hb dX10_town_183 rfl (lv_at hl 1 rfl) ?_
      refine lv_iadd hx hb dX10_town_184 ?_
      obtain ⟨v38, hv38, hE⟩ := Option.bind_eq_some_iff.mp hE
      refine r_iald hx hb hK hH hv38 dX10_town_185 ?_
      refine lv_goto (tgt := 190) hx hb dX10_town_186 (by decide) ?_
      exact sX10_town_b190 (F := F) hC hk153 hE _ _ _ hH hS (lv_sub hl [0, 1] rfl)
theorem sX10_town_b153 {b0 : Nat} {D : va_G} {cA : Nat → ClassId} {p : Program} {l : Launch} {ev : Env} {s : State} {m : MethodId} {args : Array Value} {below : List Frame} {meth : Method} {c : Code} {F : Nat} {z : (Int32 × HL)} (hC : Cx D cA p s m args meth c cX10_town 2 RX10 wsX10_town (some .int)) : ∀ (n : Nat) (a0 : Nat) (x1 : Int32) (L : HL), fX10_town_b153 F n a0 x1 L = some z → WB b0 D cA p l ev (RM 6 0 0) s m args below meth c 2 0 0 (MQ below (Qk b0 D cA (some (.int z.1)) z.2) args s 0 0 (Ab b0)) 153 [(0, .ref (b0 + a0)), (1, .int x1)] [] L := by
  intro n
  induction n with
  | zero => intro a0 x1 L hE; cases hE
  | succ n ih => intro a0 x1 L hE; exact sX10_town_b153c (F := F) hC ih hE
def fX10_town_b144 (F : Nat) (k78 : Nat → Int32 → HL → Option (Int32 × HL)) (a0 : Nat) (x1 : Int32) (y0 : Int32) (y1 : Int32) (y2 : Nat) (L : HL) : Option (Int32 × HL) := (o_sI L y2 0 y1 y0).bind fun L51 => k78 a0 (x1 + 1) L51
set_option maxHeartbeats 4000000 in
set_option maxRecDepth 100000 in
theorem sX10_town_b144 {b0 : Nat} {D : va_G} {cA : Nat → ClassId} {p : Program} {l : Launch} {ev : Env} {s : State} {m : MethodId} {args : Array Value} {below : List Frame} {meth : Method} {c : Code} {F : Nat} {z : (Int32 × HL)} {k78 : Nat → Int32 → HL → Option (Int32 × HL)} {a0 : Nat} {x1 : Int32} {y0 : Int32} {y1 : Int32} {y2 : Nat} {L : HL} (hC : Cx D cA p s m args meth c cX10_town 2 RX10 wsX10_town (some .int)) (hk78 : ∀ (a0' : Nat) (x1' : Int32) (L' : HL), k78 a0' x1' L' = some z → WB b0 D cA p l ev (RM 6 0 0) s m args below meth c 2 0 0 (MQ below (Qk b0 D cA (some (.int z.1)) z.2) args s 0 0 (Ab b0)) 78 [(0, .ref (b0 + a0')), (1, .int x1')] [] L') (hE : fX10_town_b144 F k78 a0 x1 y0 y1 y2 L = some z) : WB b0 D cA p l ev (RM 6 0 0) s m args below meth c 2 0 0 (MQ below (Qk b0 D cA (some (.int z.1)) z.2) args s 0 0 (Ab b0)) 144 [(0, .ref (b0 + a0)), (1, .int x1)] [.int y0, .int y1, .ref (b0 + y2)] L := by
  obtain ⟨hx, hb, hml, hown, hts, hK, hr, hlocks⟩ := id hC
  intro H locs ls hH hS hl
  unfold fX10_town_b144 at hE
  obtain ⟨L51, hL51, hE⟩ := Option.bind_eq_some_iff.mp hE
  refine r_iast hx hb hK hH hS hL51 dX10_town_144 (fun H locs hH hS => ?_)
  refine lv_iinc (v := (x1 + 1)) (lv' := [(1, .int (x1 + 1)), (0, .ref (b0 + a0))]) hx hb dX10_town_145 hl (k := 1) rfl rfl (by decide) rfl (fun ls hl => ?_)
  refine lv_goto (tgt := 78) hx hb dX10_town_148 (by decide) ?_
  exact hk78 _ _ _ hE _ _ _ hH hS (lv_sub hl [1, 0] rfl)
def fX10_town_b78c (F : Nat) (k78 : Nat → Int32 → HL → Option (Int32 × HL)) (a0 : Nat) (x1 : Int32) (L : HL) : Option (Int32 × HL) := if 9 ≤ x1 then (fX10_town_b153 F F a0 0 L) else ((o_gR L a0 9 4).bind fun v39 => (o_gR L a0 9 4).bind fun v40 => (o_aI L v40 0 (9 + x1)).bind fun v41 => (o_sI L v39 0 x1 v41).bind fun L42 => (o_gR L42 a0 9 5).bind fun v43 => (o_gR L42 a0 9 5).bind fun v44 => (o_aI L42 v44 0 (9 + x1)).bind fun v45 => (o_sI L42 v43 0 x1 v45).bind fun L46 => (o_gR L46 a0 9 16).bind fun v47 => (o_gR L46 a0 9 3).bind fun v48 => (o_aI L46 v48 0 0).bind fun v49 => if v49 ≤ x1 then (fX10_town_b144 F k78 a0 x1 0 (1 + x1) v47 L46) else ((o_gR L46 a0 9 6).bind fun v52 => (o_aI L46 v52 0 (9 + x1)).bind fun v53 => fX10_town_b144 F k78 a0 x1 v53 (1 + x1) v47 L46))
def fX10_town_b78 (F : Nat) : Nat → Nat → Int32 → HL → Option (Int32 × HL)
  | 0 => fun _ _ _ => none
  | n + 1 => fun a0 x1 L => fX10_town_b78c F (fX10_town_b78 F n) a0 x1 L
set_option maxHeartbeats 4000000 in
set_option maxRecDepth 100000 in
theorem sX10_town_b78c {b0 : Nat} {D : va_G} {cA : Nat → ClassId} {p : Program} {l : Launch} {ev : Env} {s : State} {m : MethodId} {args : Array Value} {below : List Frame} {meth : Method} {c : Code} {F : Nat} {z : (Int32 × HL)} {k78 : Nat → Int32 → HL → Option (Int32 × HL)} {a0 : Nat} {x1 : Int32} {L : HL} (hC : Cx D cA p s m args meth c cX10_town 2 RX10 wsX10_town (some .int)) (hk78 : ∀ (a0' : Nat) (x1' : Int32) (L' : HL), k78 a0' x1' L' = some z → WB b0 D cA p l ev (RM 6 0 0) s m args below meth c 2 0 0 (MQ below (Qk b0 D cA (some (.int z.1)) z.2) args s 0 0 (Ab b0)) 78 [(0, .ref (b0 + a0')), (1, .int x1')] [] L') (hE : fX10_town_b78c F k78 a0 x1 L = some z) : WB b0 D cA p l ev (RM 6 0 0) s m args below meth c 2 0 0 (MQ below (Qk b0 D cA (some (.int z.1)) z.2) args s 0 0 (Ab b0)) 78 [(0, .ref (b0 + a0)), (1, .int x1)] [] L := by
  obtain ⟨hx, hb, hml, hown, hts, hK, hr, hlocks⟩ := id hC
  intro H locs ls hH hS hl
  unfold fX10_town_b78c at hE
  refine lv_iload_n hx hb dX10_town_78 rfl (lv_at hl 1 rfl) ?_
  refine lv_bipush (v := 9) hx hb dX10_town_79 (by decide) ?_
  refine lv_icmp_ge (tgt := 151) hx hb dX10_town_81 (by decide) (fun c17 => ?_) (fun c17 => ?_)
  · rw [if_pos c17] at hE
    refine lv_iconst (v := 0) hx hb dX10_town_151 (by decide) ?_
    refine lv_istore_n (lv' := [(1, .int 0), (0, .ref (b0 + a0))]) hx hb dX10_town_152 rfl hl (by decide) rfl (fun ls hl => ?_)
    exact sX10_town_b153 (F := F) hC F _ _ _ hE _ _ _ hH hS (lv_sub hl [1, 0] rfl)
  · rw [if_neg c17] at hE
    refine lv_aload_n hx hb dX10_town_84 rfl (lv_at hl 0 rfl) ?_
    obtain ⟨v39, hv39, hE⟩ := Option.bind_eq_some_iff.mp hE
    refine r_gR 4 (C := RX10) (T := TX10) (N := 26) (ci := 9) hx hb hts (by decide +kernel) hown hK hH hv39 rfl (by decide) (hts (.fieldLink RX10 20 "KindStreetsModel" "from" "[I") (by decide +kernel)) (fun _ h9 => h9) dX10_town_85 ?_
    refine lv_iload_n hx hb dX10_town_88 rfl (lv_at hl 1 rfl) ?_
    refine lv_aload_n hx hb dX10_town_89 rfl (lv_at hl 0 rfl) ?_
    obtain ⟨v40, hv40, hE⟩ := Option.bind_eq_some_iff.mp hE
    refine r_gR 4 (C := RX10) (T := TX10) (N := 26) (ci := 9) hx hb hts (by decide +kernel) hown hK hH hv40 rfl (by decide) (hts (.fieldLink RX10 20 "KindStreetsModel" "from" "[I") (by decide +kernel)) (fun _ h9 => h9) dX10_town_90 ?_
    refine lv_bipush (v := 9) hx hb dX10_town_93 (by decide) ?_
    refine lv_iload_n hx hb dX10_town_95 rfl (lv_at hl 1 rfl) ?_
    refine lv_iadd hx hb dX10_town_96 ?_
    obtain ⟨v41, hv41, hE⟩ := Option.bind_eq_some_iff.mp hE
    refine r_iald hx hb hK hH hv41 dX10_town_97 ?_
    obtain ⟨L42, hL42, hE⟩ := Option.bind_eq_some_iff.mp hE
    refine r_iast hx hb hK hH hS hL42 dX10_town_98 (fun H locs hH hS => ?_)
    refine lv_aload_n hx hb dX10_town_99 rfl (lv_at hl 0 rfl) ?_
    obtain ⟨v43, hv43, hE⟩ := Option.bind_eq_some_iff.mp hE
    refine r_gR 5 (C := RX10) (T := TX10) (N := 26) (ci := 9) hx hb hts (by decide +kernel) hown hK hH hv43 rfl (by decide) (hts (.fieldLink RX10 23 "KindStreetsModel" "to" "[I") (by decide +kernel)) (fun _ h9 => h9) dX10_town_100 ?_
    refine lv_iload_n hx hb dX10_town_103 rfl (lv_at hl 1 rfl) ?_
    refine lv_aload_n hx hb dX10_town_104 rfl (lv_at hl 0 rfl) ?_
    obtain ⟨v44, hv44, hE⟩ := Option.bind_eq_some_iff.mp hE
    refine r_gR 5 (C := RX10) (T := TX10) (N := 26) (ci := 9) hx hb hts (by decide +kernel) hown hK hH hv44 rfl (by decide) (hts (.fieldLink RX10 23 "KindStreetsModel" "to" "[I") (by decide +kernel)) (fun _ h9 => h9) dX10_town_105 ?_
    refine lv_bipush (v := 9) hx hb dX10_town_108 (by decide) ?_
    refine lv_iload_n hx hb dX10_town_110 rfl (lv_at hl 1 rfl) ?_
    refine lv_iadd hx hb dX10_town_111 ?_
    obtain ⟨v45, hv45, hE⟩ := Option.bind_eq_some_iff.mp hE
    refine r_iald hx hb hK hH hv45 dX10_town_112 ?_
    obtain ⟨L46, hL46, hE⟩ := Option.bind_eq_some_iff.mp hE
    refine r_iast hx hb hK hH hS hL46 dX10_town_113 (fun H locs hH hS => ?_)
    refine lv_aload_n hx hb dX10_town_114 rfl (lv_at hl 0 rfl) ?_
    obtain ⟨v47, hv47, hE⟩ := Option.bind_eq_some_iff.mp hE
    refine r_gR 16 (C := RX10) (T := TX10) (N := 26) (ci := 9) hx hb hts (by decide +kernel) hown hK hH hv47 rfl (by decide) (hts (.fieldLink RX10 38 "KindStreetsModel" "now" "[I") (by decide +kernel)) (fun _ h9 => h9) dX10_town_115 ?_
    refine lv_iconst (v := 1) hx hb dX10_town_118 (by decide) ?_
    refine lv_iload_n hx hb dX10_town_119 rfl (lv_at hl 1 rfl) ?_
    refine lv_iadd hx hb dX10_town_120 ?_
    refine lv_iload_n hx hb dX10_town_121 rfl (lv_at hl 1 rfl) ?_
    refine lv_aload_n hx hb dX10_town_122 rfl (lv_at hl 0 rfl) ?_
    obtain ⟨v48, hv48, hE⟩ := Option.bind_eq_some_iff.mp hE
    refine r_gR 3 (C := RX10) (T := TX10) (N := 26) (ci := 9) hx hb hts (by decide +kernel) hown hK hH hv48 rfl (by decide) (hts (.fieldLink RX10 17 "KindStreetsModel" "streets" "[I") (by decide +kernel)) (fun _ h9 => h9) dX10_town_123 ?_
    refine lv_iconst (v := 0) hx hb dX10_town_126 (by decide) ?_
    obtain ⟨v49, hv49, hE⟩ := Option.bind_eq_some_iff.mp hE
    refine r_iald hx hb hK hH hv49 dX10_town_127 ?_
    refine lv_icmp_ge (tgt := 143) hx hb dX10_town_128 (by decide) (fun c50 => ?_) (fun c50 => ?_)
    · rw [if_pos c50] at hE
      refine lv_iconst (v := 0) hx hb dX10_town_143 (by decide) ?_
      exact sX10_town_b144 (F := F) hC hk78 hE _ _ _ hH hS (lv_sub hl [0, 1] rfl)
    · rw [if_neg c50] at hE
      refine lv_aload_n hx hb dX10_town_131 rfl (lv_at hl 0 rfl) ?_
      obtain ⟨v52, hv52, hE⟩ := Option.bind_eq_some_iff.mp hE
      refine r_gR 6 (C := RX10) (T := TX10) (N := 26) (ci := 9) hx hb hts (by decide +kernel) hown hK hH hv52 rfl (by decide) (hts (.fieldLink RX10 26 "KindStreetsModel" "old" "[I") (by decide +kernel)) (fun _ h9 => h9) dX10_town_132 ?_
      refine lv_bipush (v := 9) hx hb dX10_town_135 (by decide) ?_
      refine lv_iload_n hx hb dX10_town_137 rfl (lv_at hl 1 rfl) ?_
      refine lv_iadd hx hb dX10_town_138 ?_
      obtain ⟨v53, hv53, hE⟩ := Option.bind_eq_some_iff.mp hE
      refine r_iald hx hb hK hH hv53 dX10_town_139 ?_
      refine lv_goto (tgt := 144) hx hb dX10_town_140 (by decide) ?_
      exact sX10_town_b144 (F := F) hC hk78 hE _ _ _ hH hS (lv_sub hl [0, 1] rfl)
theorem sX10_town_b78 {b0 : Nat} {D : va_G} {cA : Nat → ClassId} {p : Program} {l : Launch} {ev : Env} {s : State} {m : MethodId} {args : Array Value} {below : List Frame} {meth : Method} {c : Code} {F : Nat} {z : (Int32 × HL)} (hC : Cx D cA p s m args meth c cX10_town 2 RX10 wsX10_town (some .int)) : ∀ (n : Nat) (a0 : Nat) (x1 : Int32) (L : HL), fX10_town_b78 F n a0 x1 L = some z → WB b0 D cA p l ev (RM 6 0 0) s m args below meth c 2 0 0 (MQ below (Qk b0 D cA (some (.int z.1)) z.2) args s 0 0 (Ab b0)) 78 [(0, .ref (b0 + a0)), (1, .int x1)] [] L := by
  intro n
  induction n with
  | zero => intro a0 x1 L hE; cases hE
  | succ n ih => intro a0 x1 L hE; exact sX10_town_b78c (F := F) hC ih hE
def fX10_town_b57c (F : Nat) (k57 : Nat → Int32 → HL → Option (Int32 × HL)) (a0 : Nat) (x1 : Int32) (L : HL) : Option (Int32 × HL) := if 34 ≤ x1 then (fX10_town_b78 F F a0 0 L) else ((o_gR L a0 9 16).bind fun v54 => (o_sI L v54 0 x1 0).bind fun L55 => k57 a0 (x1 + 1) L55)
def fX10_town_b57 (F : Nat) : Nat → Nat → Int32 → HL → Option (Int32 × HL)
  | 0 => fun _ _ _ => none
  | n + 1 => fun a0 x1 L => fX10_town_b57c F (fX10_town_b57 F n) a0 x1 L
set_option maxHeartbeats 4000000 in
set_option maxRecDepth 100000 in
theorem sX10_town_b57c {b0 : Nat} {D : va_G} {cA : Nat → ClassId} {p : Program} {l : Launch} {ev : Env} {s : State} {m : MethodId} {args : Array Value} {below : List Frame} {meth : Method} {c : Code} {F : Nat} {z : (Int32 × HL)} {k57 : Nat → Int32 → HL → Option (Int32 × HL)} {a0 : Nat} {x1 : Int32} {L : HL} (hC : Cx D cA p s m args meth c cX10_town 2 RX10 wsX10_town (some .int)) (hk57 : ∀ (a0' : Nat) (x1' : Int32) (L' : HL), k57 a0' x1' L' = some z → WB b0 D cA p l ev (RM 6 0 0) s m args below meth c 2 0 0 (MQ below (Qk b0 D cA (some (.int z.1)) z.2) args s 0 0 (Ab b0)) 57 [(0, .ref (b0 + a0')), (1, .int x1')] [] L') (hE : fX10_town_b57c F k57 a0 x1 L = some z) : WB b0 D cA p l ev (RM 6 0 0) s m args below meth c 2 0 0 (MQ below (Qk b0 D cA (some (.int z.1)) z.2) args s 0 0 (Ab b0)) 57 [(0, .ref (b0 + a0)), (1, .int x1)] [] L := by
  obtain ⟨hx, hb, hml, hown, hts, hK, hr, hlocks⟩ := id hC
  intro H locs ls hH hS hl
  unfold fX10_town_b57c at hE
  refine lv_iload_n hx hb dX10_town_57 rfl (lv_at hl 1 rfl) ?_
  refine lv_bipush (v := 34) hx hb dX10_town_58 (by decide) ?_
  refine lv_icmp_ge (tgt := 76) hx hb dX10_town_60 (by decide) (fun c16 => ?_) (fun c16 => ?_)
  · rw [if_pos c16] at hE
    refine lv_iconst (v := 0) hx hb dX10_town_76 (by decide) ?_
    refine lv_istore_n (lv' := [(1, .int 0), (0, .ref (b0 + a0))]) hx hb dX10_town_77 rfl hl (by decide) rfl (fun ls hl => ?_)
    exact sX10_town_b78 (F := F) hC F _ _ _ hE _ _ _ hH hS (lv_sub hl [1, 0] rfl)
  · rw [if_neg c16] at hE
    refine lv_aload_n hx hb dX10_town_63 rfl (lv_at hl 0 rfl) ?_
    obtain ⟨v54, hv54, hE⟩ := Option.bind_eq_some_iff.mp hE
    refine r_gR 16 (C := RX10) (T := TX10) (N := 26) (ci := 9) hx hb hts (by decide +kernel) hown hK hH hv54 rfl (by decide) (hts (.fieldLink RX10 38 "KindStreetsModel" "now" "[I") (by decide +kernel)) (fun _ h9 => h9) dX10_town_64 ?_
    refine lv_iload_n hx hb dX10_town_67 rfl (lv_at hl 1 rfl) ?_
    refine lv_iconst (v := 0) hx hb dX10_town_68 (by decide) ?_
    obtain ⟨L55, hL55, hE⟩ := Option.bind_eq_some_iff.mp hE
    refine r_iast hx hb hK hH hS hL55 dX10_town_69 (fun H locs hH hS => ?_)
    refine lv_iinc (v := (x1 + 1)) (lv' := [(1, .int (x1 + 1)), (0, .ref (b0 + a0))]) hx hb dX10_town_70 hl (k := 1) rfl rfl (by decide) rfl (fun ls hl => ?_)
    refine lv_goto (tgt := 57) hx hb dX10_town_73 (by decide) ?_
    exact hk57 _ _ _ hE _ _ _ hH hS (lv_sub hl [1, 0] rfl)
theorem sX10_town_b57 {b0 : Nat} {D : va_G} {cA : Nat → ClassId} {p : Program} {l : Launch} {ev : Env} {s : State} {m : MethodId} {args : Array Value} {below : List Frame} {meth : Method} {c : Code} {F : Nat} {z : (Int32 × HL)} (hC : Cx D cA p s m args meth c cX10_town 2 RX10 wsX10_town (some .int)) : ∀ (n : Nat) (a0 : Nat) (x1 : Int32) (L : HL), fX10_town_b57 F n a0 x1 L = some z → WB b0 D cA p l ev (RM 6 0 0) s m args below meth c 2 0 0 (MQ below (Qk b0 D cA (some (.int z.1)) z.2) args s 0 0 (Ab b0)) 57 [(0, .ref (b0 + a0)), (1, .int x1)] [] L := by
  intro n
  induction n with
  | zero => intro a0 x1 L hE; cases hE
  | succ n ih => intro a0 x1 L hE; exact sX10_town_b57c (F := F) hC ih hE
def fX10_town (F : Nat) (L : HL) (a0 : Nat) : Option (Int32 × HL) := (o_ob L a0 9).bind fun _ => (fX10_read F L a0).bind fun z1 => (o_gI z1 a0 9 14).bind fun v2 => if v2 = 0 then ((o_gR z1 a0 9 2).bind fun v4 => (o_gR z1 a0 9 2).bind fun v5 => (o_aI z1 v5 0 1).bind fun v6 => (o_sI z1 v4 0 0 v6).bind fun L7 => (o_gR L7 a0 9 3).bind fun v8 => (o_gR L7 a0 9 3).bind fun v9 => (o_aI L7 v9 0 1).bind fun v10 => (o_sI L7 v8 0 0 v10).bind fun L11 => (o_gR L11 a0 9 7).bind fun v12 => (o_gR L11 a0 9 7).bind fun v13 => (o_aI L11 v13 0 1).bind fun v14 => (o_sI L11 v12 0 0 v14).bind fun L15 => fX10_town_b57 F F a0 0 L15) else ((o_gI z1 a0 9 11).bind fun v56 => some ((-10) - v56, z1))
theorem oX10_town {F : Nat} {L : HL} {a0 : Nat} {z : (Int32 × HL)} (hE : fX10_town F L a0 = some z) : o_ob L a0 9 = some () := by
  obtain ⟨_, h, _⟩ := Option.bind_eq_some_iff.mp hE
  exact h
set_option maxHeartbeats 4000000 in
set_option maxRecDepth 100000 in
theorem sX10_town (l : Launch) (b0 : Nat) (D : va_G) (cA : Nat → ClassId) {F : Nat} {L : HL} {a0 : Nat} {z : (Int32 × HL)} (hE : fX10_town F L a0 = some z) : Met l yX10_town wsX10_town (RM 6 0 0) (Pk b0 D cA [.ref (b0 + a0)] L) (Qk b0 D cA (some (.int z.1)) z.2) 0 0 (Ab b0) := by
  refine Met.ofW (cc := cX10_town) (maxL := 2) (ret := (some .int)) (by decide) rfl ?_
  intro p ev s m args below meth c s₁ B hml hv
  obtain ⟨rfl, hH, hK⟩ := hv
  have hx := B.exec
  have hb := B.bytes
  have hr := B.returns
  have hts := atoms_spec (ws := wsX10_town) B.pre
  have hown : s.vm.findClass RX10 = some m.cls := findClass_of_methodNamed B.named
  have hlocks := B.notSynchronized
  have hC : Cx D cA p s m _ meth c cX10_town 2 RX10 wsX10_town (some .int) := ⟨hx, hb, hml, hown, hts, hK, hr, hlocks⟩
  have hS : va_S (Ab b0) s.heap s.heap [] := va_S.rf
  have hl := lv_entry ([.ref (b0 + a0)]) (n := 2) (Nat.le_of_ble_eq_true rfl)
  rw [lg_entry_eq]
  generalize (lg_sl ([.ref (b0 + a0)]) ++ List.replicate (2 - (lg_sl ([.ref (b0 + a0)])).length) Slot.unset).toArray = ls at hl ⊢
  have hl : lv_has ls 2 [(0, .ref (b0 + a0))] := hl
  unfold fX10_town at hE
  obtain ⟨_, _, hE⟩ := Option.bind_eq_some_iff.mp hE
  refine lv_aload_n hx hb dX10_town_0 rfl (lv_at hl 0 rfl) ?_
  obtain ⟨z1, hz1, hE⟩ := Option.bind_eq_some_iff.mp hE
  refine r_callV (va_runV (As := []) (rest := []) ⟨hx, hb, hml, hown, hts⟩ (sX10_read l b0 D cA hz1) (cwV 0 hts gX10_town_X10_read rfl rfl rfl (by decide +kernel) (rm_ok (by decide) (by decide))) (pre_V (ci := 9) hK hH (oX10_read hz1) rfl) rfl rfl hl.1 rfl (lv_room (Nat.le_of_ble_eq_true rfl)) dX10_town_1 ⟨Nat.zero_le _, Nat.zero_le _⟩) hS (fun H locs hH hS => ?_)
  refine lv_aload_n hx hb dX10_town_4 rfl (lv_at hl 0 rfl) ?_
  obtain ⟨v2, hv2, hE⟩ := Option.bind_eq_some_iff.mp hE
  refine r_gI 14 (C := RX10) (T := TX10) (N := 26) (ci := 9) hx hb hts (by decide +kernel) hown hK hH hv2 rfl (by decide) (hts (.fieldLink RX10 87 "KindStreetsModel" "isWrong" "Z") (by decide +kernel)) (fun _ h9 => h9) dX10_town_5 ?_
  refine lv_if_eq (tgt := 19) hx hb dX10_town_8 (by decide) (fun c3 => ?_) (fun c3 => ?_)
  · rw [if_pos c3] at hE
    refine lv_aload_n hx hb dX10_town_19 rfl (lv_at hl 0 rfl) ?_
    obtain ⟨v4, hv4, hE⟩ := Option.bind_eq_some_iff.mp hE
    refine r_gR 2 (C := RX10) (T := TX10) (N := 26) (ci := 9) hx hb hts (by decide +kernel) hown hK hH hv4 rfl (by decide) (hts (.fieldLink RX10 13 "KindStreetsModel" "yards" "[I") (by decide +kernel)) (fun _ h9 => h9) dX10_town_20 ?_
    refine lv_iconst (v := 0) hx hb dX10_town_23 (by decide) ?_
    refine lv_aload_n hx hb dX10_town_24 rfl (lv_at hl 0 rfl) ?_
    obtain ⟨v5, hv5, hE⟩ := Option.bind_eq_some_iff.mp hE
    refine r_gR 2 (C := RX10) (T := TX10) (N := 26) (ci := 9) hx hb hts (by decide +kernel) hown hK hH hv5 rfl (by decide) (hts (.fieldLink RX10 13 "KindStreetsModel" "yards" "[I") (by decide +kernel)) (fun _ h9 => h9) dX10_town_25 ?_
    refine lv_iconst (v := 1) hx hb dX10_town_28 (by decide) ?_
    obtain ⟨v6, hv6, hE⟩ := Option.bind_eq_some_iff.mp hE
    refine r_iald hx hb hK hH hv6 dX10_town_29 ?_
    obtain ⟨L7, hL7, hE⟩ := Option.bind_eq_some_iff.mp hE
    refine r_iast hx hb hK hH hS hL7 dX10_town_30 (fun H locs hH hS => ?_)
    refine lv_aload_n hx hb dX10_town_31 rfl (lv_at hl 0 rfl) ?_
    obtain ⟨v8, hv8, hE⟩ := Option.bind_eq_some_iff.mp hE
    refine r_gR 3 (C := RX10) (T := TX10) (N := 26) (ci := 9) hx hb hts (by decide +kernel) hown hK hH hv8 rfl (by decide) (hts (.fieldLink RX10 17 "KindStreetsModel" "streets" "[I") (by decide +kernel)) (fun _ h9 => h9) dX10_town_32 ?_
    refine lv_iconst (v := 0) hx hb dX10_town_35 (by decide) ?_
    refine lv_aload_n hx hb dX10_town_36 rfl (lv_at hl 0 rfl) ?_
    obtain ⟨v9, hv9, hE⟩ := Option.bind_eq_some_iff.mp hE
    refine r_gR 3 (C := RX10) (T := TX10) (N := 26) (ci := 9) hx hb hts (by decide +kernel) hown hK hH hv9 rfl (by decide) (hts (.fieldLink RX10 17 "KindStreetsModel" "streets" "[I") (by decide +kernel)) (fun _ h9 => h9) dX10_town_37 ?_
    refine lv_iconst (v := 1) hx hb dX10_town_40 (by decide) ?_
    obtain ⟨v10, hv10, hE⟩ := Option.bind_eq_some_iff.mp hE
    refine r_iald hx hb hK hH hv10 dX10_town_41 ?_
    obtain ⟨L11, hL11, hE⟩ := Option.bind_eq_some_iff.mp hE
    refine r_iast hx hb hK hH hS hL11 dX10_town_42 (fun H locs hH hS => ?_)
    refine lv_aload_n hx hb dX10_town_43 rfl (lv_at hl 0 rfl) ?_
    obtain ⟨v12, hv12, hE⟩ := Option.bind_eq_some_iff.mp hE
    refine r_gR 7 (C := RX10) (T := TX10) (N := 26) (ci := 9) hx hb hts (by decide +kernel) hown hK hH hv12 rfl (by decide) (hts (.fieldLink RX10 29 "KindStreetsModel" "people" "[I") (by decide +kernel)) (fun _ h9 => h9) dX10_town_44 ?_
    refine lv_iconst (v := 0) hx hb dX10_town_47 (by decide) ?_
    refine lv_aload_n hx hb dX10_town_48 rfl (lv_at hl 0 rfl) ?_
    obtain ⟨v13, hv13, hE⟩ := Option.bind_eq_some_iff.mp hE
    refine r_gR 7 (C := RX10) (T := TX10) (N := 26) (ci := 9) hx hb hts (by decide +kernel) hown hK hH hv13 rfl (by decide) (hts (.fieldLink RX10 29 "KindStreetsModel" "people" "[I") (by decide +kernel)) (fun _ h9 => h9) dX10_town_49 ?_
    refine lv_iconst (v := 1) hx hb dX10_town_52 (by decide) ?_
    obtain ⟨v14, hv14, hE⟩ := Option.bind_eq_some_iff.mp hE
    refine r_iald hx hb hK hH hv14 dX10_town_53 ?_
    obtain ⟨L15, hL15, hE⟩ := Option.bind_eq_some_iff.mp hE
    refine r_iast hx hb hK hH hS hL15 dX10_town_54 (fun H locs hH hS => ?_)
    refine lv_iconst (v := 0) hx hb dX10_town_55 (by decide) ?_
    refine lv_istore_n (lv' := [(1, .int 0), (0, .ref (b0 + a0))]) hx hb dX10_town_56 rfl hl (by decide) rfl (fun ls hl => ?_)
    exact sX10_town_b57 (F := F) hC F _ _ _ hE _ _ _ hH hS (lv_sub hl [1, 0] rfl)
  · rw [if_neg c3] at hE
    refine lv_bipush (v := (-10)) hx hb dX10_town_11 (by decide) ?_
    refine lv_aload_n hx hb dX10_town_13 rfl (lv_at hl 0 rfl) ?_
    obtain ⟨v56, hv56, hE⟩ := Option.bind_eq_some_iff.mp hE
    refine r_gI 11 (C := RX10) (T := TX10) (N := 26) (ci := 9) hx hb hts (by decide +kernel) hown hK hH hv56 rfl (by decide) (hts (.fieldLink RX10 78 "KindStreetsModel" "place" "I") (by decide +kernel)) (fun _ h9 => h9) dX10_town_14 ?_
    refine lv_isub hx hb dX10_town_17 ?_
    have hZ := Option.some.inj hE
    subst hZ
    exact W.iret (v := ((-10) - v56)) hx hb hr (fun t ht hW => ⟨rfl, by rw [ht]; exact hH, hS.F ht⟩) hS.2.2 dX10_town_18

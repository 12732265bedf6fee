-- X8_widthIn
def fX8_widthIn (F : Nat) (L : HL) (x0 : Int32) : Option (Int32 × HL) := some (x0 / 8192, L)
set_option maxHeartbeats 4000000 in
set_option maxRecDepth 100000 in
theorem sX8_widthIn (l : Launch) (b0 : Nat) (D : va_G) (cA : Nat → ClassId) {F : Nat} {L : HL} {x0 : Int32} {z : (Int32 × HL)} (hE : fX8_widthIn F L x0 = some z) : Met l yX8_widthIn wsX8_widthIn (RM 0 0 0) (Pk b0 D cA [.int x0] L) (Qk b0 D cA (some (.int z.1)) z.2) 0 0 (Ab b0) := by
  refine Met.ofW (cc := cX8_widthIn) (maxL := 1) (ret := (some .int)) (by decide) rfl ?_
  intro p ev s m args below meth c s₁ B hml hv
  obtain ⟨rfl, hH, hK⟩ := hv
  have hx := B.exec
  have hb := B.bytes
  have hr := B.returns
  have hts := atoms_spec (ws := wsX8_widthIn) B.pre
  have hown : s.vm.findClass RX8 = some m.cls := findClass_of_methodNamed B.named
  have hlocks := B.notSynchronized
  have hC : Cx D cA p s m _ meth c cX8_widthIn 1 RX8 wsX8_widthIn (some .int) := ⟨hx, hb, hml, hown, hts, hK, hr, hlocks⟩
  have hS : va_S (Ab b0) s.heap s.heap [] := va_S.rf
  have hl := lv_entry ([.int x0]) (n := 1) (Nat.le_of_ble_eq_true rfl)
  rw [lg_entry_eq]
  generalize (lg_sl ([.int x0]) ++ List.replicate (1 - (lg_sl ([.int x0])).length) Slot.unset).toArray = ls at hl ⊢
  have hl : lv_has ls 1 [(0, .int x0)] := hl
  unfold fX8_widthIn at hE
  refine lv_iload_n hx hb dX8_widthIn_0 rfl (lv_at hl 0 rfl) ?_
  refine lv_sipush (v := 8192) hx hb dX8_widthIn_1 (by decide) ?_
  refine lv_idiv hx hb dX8_widthIn_4 (by decide) ?_
  have hZ := Option.some.inj hE
  subst hZ
  exact W.iret (v := (x0 / 8192)) hx hb hr (fun t ht hW => ⟨rfl, by rw [ht]; exact hH, hS.F ht⟩) hS.2.2 dX8_widthIn_5
-- X8_streetsIn
def fX8_streetsIn (F : Nat) (L : HL) (x0 : Int32) : Option (Int32 × HL) := some (x0 - x0 / 512 * 512, L)
set_option maxHeartbeats 4000000 in
set_option maxRecDepth 100000 in
theorem sX8_streetsIn (l : Launch) (b0 : Nat) (D : va_G) (cA : Nat → ClassId) {F : Nat} {L : HL} {x0 : Int32} {z : (Int32 × HL)} (hE : fX8_streetsIn F L x0 = some z) : Met l yX8_streetsIn wsX8_streetsIn (RM 0 0 0) (Pk b0 D cA [.int x0] L) (Qk b0 D cA (some (.int z.1)) z.2) 0 0 (Ab b0) := by
  refine Met.ofW (cc := cX8_streetsIn) (maxL := 1) (ret := (some .int)) (by decide) rfl ?_
  intro p ev s m args below meth c s₁ B hml hv
  obtain ⟨rfl, hH, hK⟩ := hv
  have hx := B.exec
  have hb := B.bytes
  have hr := B.returns
  have hts := atoms_spec (ws := wsX8_streetsIn) B.pre
  have hown : s.vm.findClass RX8 = some m.cls := findClass_of_methodNamed B.named
  have hlocks := B.notSynchronized
  have hC : Cx D cA p s m _ meth c cX8_streetsIn 1 RX8 wsX8_streetsIn (some .int) := ⟨hx, hb, hml, hown, hts, hK, hr, hlocks⟩
  have hS : va_S (Ab b0) s.heap s.heap [] := va_S.rf
  have hl := lv_entry ([.int x0]) (n := 1) (Nat.le_of_ble_eq_true rfl)
  rw [lg_entry_eq]
  generalize (lg_sl ([.int x0]) ++ List.replicate (1 - (lg_sl ([.int x0])).length) Slot.unset).toArray = ls at hl ⊢
  have hl : lv_has ls 1 [(0, .int x0)] := hl
  unfold fX8_streetsIn at hE
  refine lv_iload_n hx hb dX8_streetsIn_0 rfl (lv_at hl 0 rfl) ?_
  refine lv_sipush (v := 512) hx hb dX8_streetsIn_1 (by decide) ?_
  refine lv_irem hx hb dX8_streetsIn_4 (by decide) ?_
  have hZ := Option.some.inj hE
  subst hZ
  exact W.iret (v := (x0 - x0 / 512 * 512)) hx hb hr (fun t ht hW => ⟨rfl, by rw [ht]; exact hH, hS.F ht⟩) hS.2.2 dX8_streetsIn_5
-- X8_tenTo
def fX8_tenTo_b26 (F : Nat) (x1 : Int32) (L : HL) : Option (Int32 × HL) := some (x1, L)
set_option maxHeartbeats 4000000 in
set_option maxRecDepth 100000 in
theorem sX8_tenTo_b26 {b0 : Nat} {D : va_G} {cA : Nat → ClassId} {p : Program} {l : Launch} {ev : Env} {s : State} {m : MethodId} {args : Array Value} {below : List Frame} {meth : Method} {c : Code} {F : Nat} {z : (Int32 × HL)} {x1 : Int32} {L : HL} (hC : Cx D cA p s m args meth c cX8_tenTo 3 RX8 wsX8_tenTo (some .int)) (hE : fX8_tenTo_b26 F x1 L = some z) : WB b0 D cA p l ev (RM 0 0 0) s m args below meth c 3 0 0 (MQ below (Qk b0 D cA (some (.int z.1)) z.2) args s 0 0 (Ab b0)) 26 [(1, .int x1)] [] L := by
  obtain ⟨hx, hb, hml, hown, hts, hK, hr, hlocks⟩ := id hC
  intro H locs ls hH hS hl
  unfold fX8_tenTo_b26 at hE
  refine lv_iload_n hx hb dX8_tenTo_26 rfl (lv_at hl 0 rfl) ?_
  have hZ := Option.some.inj hE
  subst hZ
  exact W.iret (v := x1) hx hb hr (fun t ht hW => ⟨rfl, by rw [ht]; exact hH, hS.F ht⟩) hS.2.2 dX8_tenTo_27
def fX8_tenTo_b4c (F : Nat) (k4 : Int32 → Int32 → Int32 → HL → Option (Int32 × HL)) (x0 : Int32) (x1 : Int32) (x2 : Int32) (L : HL) : Option (Int32 × HL) := if x0 ≤ x2 then (fX8_tenTo_b26 F x1 L) else (if 9 ≤ x2 then (fX8_tenTo_b26 F x1 L) else (k4 x0 (x1 * 10) (x2 + 1) L))
def fX8_tenTo_b4 (F : Nat) : Nat → Int32 → Int32 → Int32 → HL → Option (Int32 × HL)
  | 0 => fun _ _ _ _ => none
  | n + 1 => fun x0 x1 x2 L => fX8_tenTo_b4c F (fX8_tenTo_b4 F n) x0 x1 x2 L
set_option maxHeartbeats 4000000 in
set_option maxRecDepth 100000 in
theorem sX8_tenTo_b4c {b0 : Nat} {D : va_G} {cA : Nat → ClassId} {p : Program} {l : Launch} {ev : Env} {s : State} {m : MethodId} {args : Array Value} {below : List Frame} {meth : Method} {c : Code} {F : Nat} {z : (Int32 × HL)} {k4 : Int32 → Int32 → Int32 → HL → Option (Int32 × HL)} {x0 : Int32} {x1 : Int32} {x2 : Int32} {L : HL} (hC : Cx D cA p s m args meth c cX8_tenTo 3 RX8 wsX8_tenTo (some .int)) (hk4 : ∀ (x0' : Int32) (x1' : Int32) (x2' : Int32) (L' : HL), k4 x0' x1' x2' L' = some z → WB b0 D cA p l ev (RM 0 0 0) s m args below meth c 3 0 0 (MQ below (Qk b0 D cA (some (.int z.1)) z.2) args s 0 0 (Ab b0)) 4 [(0, .int x0'), (1, .int x1'), (2, .int x2')] [] L') (hE : fX8_tenTo_b4c F k4 x0 x1 x2 L = some z) : WB b0 D cA p l ev (RM 0 0 0) s m args below meth c 3 0 0 (MQ below (Qk b0 D cA (some (.int z.1)) z.2) args s 0 0 (Ab b0)) 4 [(0, .int x0), (1, .int x1), (2, .int x2)] [] L := by
  obtain ⟨hx, hb, hml, hown, hts, hK, hr, hlocks⟩ := id hC
  intro H locs ls hH hS hl
  unfold fX8_tenTo_b4c at hE
  refine lv_iload_n hx hb dX8_tenTo_4 rfl (lv_at hl 2 rfl) ?_
  refine lv_iload_n hx hb dX8_tenTo_5 rfl (lv_at hl 0 rfl) ?_
  refine lv_icmp_ge (tgt := 26) hx hb dX8_tenTo_6 (by decide) (fun c1 => ?_) (fun c1 => ?_)
  · rw [if_pos c1] at hE
    exact sX8_tenTo_b26 (F := F) hC hE _ _ _ hH hS (lv_sub hl [1] rfl)
  · rw [if_neg c1] at hE
    refine lv_iload_n hx hb dX8_tenTo_9 rfl (lv_at hl 2 rfl) ?_
    refine lv_bipush (v := 9) hx hb dX8_tenTo_10 (by decide) ?_
    refine lv_icmp_ge (tgt := 26) hx hb dX8_tenTo_12 (by decide) (fun c2 => ?_) (fun c2 => ?_)
    · rw [if_pos c2] at hE
      exact sX8_tenTo_b26 (F := F) hC hE _ _ _ hH hS (lv_sub hl [1] rfl)
    · rw [if_neg c2] at hE
      refine lv_iload_n hx hb dX8_tenTo_15 rfl (lv_at hl 1 rfl) ?_
      refine lv_bipush (v := 10) hx hb dX8_tenTo_16 (by decide) ?_
      refine lv_imul hx hb dX8_tenTo_18 ?_
      refine lv_istore_n (lv' := [(1, .int (x1 * 10)), (0, .int x0), (2, .int x2)]) hx hb dX8_tenTo_19 rfl hl (by decide) rfl (fun ls hl => ?_)
      refine lv_iinc (v := (x2 + 1)) (lv' := [(2, .int (x2 + 1)), (1, .int (x1 * 10)), (0, .int x0)]) hx hb dX8_tenTo_20 hl (k := 2) rfl rfl (by decide) rfl (fun ls hl => ?_)
      refine lv_goto (tgt := 4) hx hb dX8_tenTo_23 (by decide) ?_
      exact hk4 _ _ _ _ hE _ _ _ hH hS (lv_sub hl [2, 1, 0] rfl)
theorem sX8_tenTo_b4 {b0 : Nat} {D : va_G} {cA : Nat → ClassId} {p : Program} {l : Launch} {ev : Env} {s : State} {m : MethodId} {args : Array Value} {below : List Frame} {meth : Method} {c : Code} {F : Nat} {z : (Int32 × HL)} (hC : Cx D cA p s m args meth c cX8_tenTo 3 RX8 wsX8_tenTo (some .int)) : ∀ (n : Nat) (x0 : Int32) (x1 : Int32) (x2 : Int32) (L : HL), fX8_tenTo_b4 F n x0 x1 x2 L = some z → WB b0 D cA p l ev (RM 0 0 0) s m args below meth c 3 0 0 (MQ below (Qk b0 D cA (some (.int z.1)) z.2) args s 0 0 (Ab b0)) 4 [(0, .int x0), (1, .int x1), (2, .int x2)] [] L := by
  intro n
  induction n with
  | zero => intro x0 x1 x2 L hE; cases hE
  | succ n ih => intro x0 x1 x2 L hE; exact sX8_tenTo_b4c (F := F) hC ih hE
def fX8_tenTo (F : Nat) (L : HL) (x0 : Int32) : Option (Int32 × HL) := fX8_tenTo_b4 F F x0 1 0 L
set_option maxHeartbeats 4000000 in
set_option maxRecDepth 100000 in
theorem sX8_tenTo (l : Launch) (b0 : Nat) (D : va_G) (cA : Nat → ClassId) {F : Nat} {L : HL} {x0 : Int32} {z : (Int32 × HL)} (hE : fX8_tenTo F L x0 = some z) : Met l yX8_tenTo wsX8_tenTo (RM 0 0 0) (Pk b0 D cA [.int x0] L) (Qk b0 D cA (some (.int z.1)) z.2) 0 0 (Ab b0) := by
  refine Met.ofW (cc := cX8_tenTo) (maxL := 3) (ret := (some .int)) (by decide) rfl ?_
  intro p ev s m args below meth c s₁ B hml hv
  obtain ⟨rfl, hH, hK⟩ := hv
  have hx := B.exec
  have hb := B.bytes
  have hr := B.returns
  have hts := atoms_spec (ws := wsX8_tenTo) B.pre
  have hown : s.vm.findClass RX8 = some m.cls := findClass_of_methodNamed B.named
  have hlocks := B.notSynchronized
  have hC : Cx D cA p s m _ meth c cX8_tenTo 3 RX8 wsX8_tenTo (some .int) := ⟨hx, hb, hml, hown, hts, hK, hr, hlocks⟩
  have hS : va_S (Ab b0) s.heap s.heap [] := va_S.rf
  have hl := lv_entry ([.int x0]) (n := 3) (Nat.le_of_ble_eq_true rfl)
  rw [lg_entry_eq]
  generalize (lg_sl ([.int x0]) ++ List.replicate (3 - (lg_sl ([.int x0])).length) Slot.unset).toArray = ls at hl ⊢
  have hl : lv_has ls 3 [(0, .int x0)] := hl
  unfold fX8_tenTo at hE
  refine lv_iconst (v := 1) hx hb dX8_tenTo_0 (by decide) ?_
  refine lv_istore_n (lv' := [(1, .int 1), (0, .int x0)]) hx hb dX8_tenTo_1 rfl hl (by decide) rfl (fun ls hl => ?_)
  refine lv_iconst (v := 0) hx hb dX8_tenTo_2 (by decide) ?_
  refine lv_istore_n (lv' := [(2, .int 0), (1, .int 1), (0, .int x0)]) hx hb dX8_tenTo_3 rfl hl (by decide) rfl (fun ls hl => ?_)
  exact sX8_tenTo_b4 (F := F) hC F _ _ _ _ hE _ _ _ hH hS (lv_sub hl [2, 1, 0] rfl)
-- X8_oneStreetOn
def fX8_oneStreetOn_b57 (F : Nat) (k5 : Nat → Int32 → Int32 → Int32 → Int32 → HL → Option (Int32 × HL)) (a0 : Nat) (x1 : Int32) (x2 : Int32) (x3 : Int32) (x4 : Int32) (L : HL) : Option (Int32 × HL) := k5 a0 x1 x2 x3 (x4 + 1) L
set_option maxHeartbeats 4000000 in
set_option maxRecDepth 100000 in
theorem sX8_oneStreetOn_b57 {b0 : Nat} {D : va_G} {cA : Nat → ClassId} {p : Program} {l : Launch} {ev : Env} {s : State} {m : MethodId} {args : Array Value} {below : List Frame} {meth : Method} {c : Code} {F : Nat} {z : (Int32 × HL)} {k5 : Nat → Int32 → Int32 → Int32 → Int32 → HL → Option (Int32 × HL)} {a0 : Nat} {x1 : Int32} {x2 : Int32} {x3 : Int32} {x4 : Int32} {L : HL} (hC : Cx D cA p s m args meth c cX8_oneStreetOn 5 RX8 wsX8_oneStreetOn (some .int)) (hk5 : ∀ (a0' : Nat) (x1' : Int32) (x2' : Int32) (x3' : Int32) (x4' : Int32) (L' : HL), k5 a0' x1' x2' x3' x4' L' = some z → WB b0 D cA p l ev (RM 1 0 0) s m args below meth c 5 0 0 (MQ below (Qk b0 D cA (some (.int z.1)) z.2) args s 0 0 (Ab b0)) 5 [(0, .ref (b0 + a0')), (1, .int x1'), (2, .int x2'), (3, .int x3'), (4, .int x4')] [] L') (hE : fX8_oneStreetOn_b57 F k5 a0 x1 x2 x3 x4 L = some z) : WB b0 D cA p l ev (RM 1 0 0) s m args below meth c 5 0 0 (MQ below (Qk b0 D cA (some (.int z.1)) z.2) args s 0 0 (Ab b0)) 57 [(0, .ref (b0 + a0)), (1, .int x1), (2, .int x2), (3, .int x3), (4, .int x4)] [] L := by
  obtain ⟨hx, hb, hml, hown, hts, hK, hr, hlocks⟩ := id hC
  intro H locs ls hH hS hl
  unfold fX8_oneStreetOn_b57 at hE
  refine lv_iinc (v := (x4 + 1)) (lv' := [(4, .int (x4 + 1)), (0, .ref (b0 + a0)), (1, .int x1), (2, .int x2), (3, .int x3)]) hx hb dX8_oneStreetOn_57 hl (k := 4) rfl rfl (by decide) rfl (fun ls hl => ?_)
  refine lv_goto (tgt := 5) hx hb dX8_oneStreetOn_60 (by decide) ?_
  exact hk5 _ _ _ _ _ _ hE _ _ _ hH hS (lv_sub hl [1, 2, 3, 4, 0] rfl)
def fX8_oneStreetOn_b5c (F : Nat) (k5 : Nat → Int32 → Int32 → Int32 → Int32 → HL → Option (Int32 × HL)) (a0 : Nat) (x1 : Int32) (x2 : Int32) (x3 : Int32) (x4 : Int32) (L : HL) : Option (Int32 × HL) := (o_gR L a0 7 0).bind fun v1 => (o_gI L v1 4 1).bind fun v2 => if v2 ≤ x4 then (some (x3, L)) else ((o_gR L a0 7 0).bind fun v4 => (o_gR L v4 4 8).bind fun v5 => (o_aI L v5 0 x4).bind fun v6 => if v6 < x2 then (fX8_oneStreetOn_b57 F k5 a0 x1 x2 x3 x4 L) else ((o_gR L a0 7 0).bind fun v8 => (fX7_endsOf_P F L v8 x4).bind fun z9 => if (x1 &&& z9.1) = 0 then (fX8_oneStreetOn_b57 F k5 a0 x1 x2 x3 x4 z9.2) else ((o_gR z9.2 a0 7 0).bind fun v11 => (fX7_endsOf_P F z9.2 v11 x4).bind fun z12 => fX8_oneStreetOn_b57 F k5 a0 x1 x2 (x3 ||| z12.1) x4 z12.2)))
def fX8_oneStreetOn_b5 (F : Nat) : Nat → Nat → Int32 → Int32 → Int32 → Int32 → HL → Option (Int32 × HL)
  | 0 => fun _ _ _ _ _ _ => none
  | n + 1 => fun a0 x1 x2 x3 x4 L => fX8_oneStreetOn_b5c F (fX8_oneStreetOn_b5 F n) a0 x1 x2 x3 x4 L
set_option maxHeartbeats 4000000 in
set_option maxRecDepth 100000 in
theorem sX8_oneStreetOn_b5c {b0 : Nat} {D : va_G} {cA : Nat → ClassId} {p : Program} {l : Launch} {ev : Env} {s : State} {m : MethodId} {args : Array Value} {below : List Frame} {meth : Method} {c : Code} {F : Nat} {z : (Int32 × HL)} {k5 : Nat → Int32 → Int32 → Int32 → Int32 → HL → Option (Int32 × HL)} {a0 : Nat} {x1 : Int32} {x2 : Int32} {x3 : Int32} {x4 : Int32} {L : HL} (hC : Cx D cA p s m args meth c cX8_oneStreetOn 5 RX8 wsX8_oneStreetOn (some .int)) (hk5 : ∀ (a0' : Nat) (x1' : Int32) (x2' : Int32) (x3' : Int32) (x4' : Int32) (L' : HL), k5 a0' x1' x2' x3' x4' L' = some z → WB b0 D cA p l ev (RM 1 0 0) s m args below meth c 5 0 0 (MQ below (Qk b0 D cA (some (.int z.1)) z.2) args s 0 0 (Ab b0)) 5 [(0, .ref (b0 + a0')), (1, .int x1'), (2, .int x2'), (3, .int x3'), (4, .int x4')] [] L') (hE : fX8_oneStreetOn_b5c F k5 a0 x1 x2 x3 x4 L = some z) : WB b0 D cA p l ev (RM 1 0 0) s m args below meth c 5 0 0 (MQ below (Qk b0 D cA (some (.int z.1)) z.2) args s 0 0 (Ab b0)) 5 [(0, .ref (b0 + a0)), (1, .int x1), (2, .int x2), (3, .int x3), (4, .int x4)] [] L := by
  obtain ⟨hx, hb, hml, hown, hts, hK, hr, hlocks⟩ := id hC
  intro H locs ls hH hS hl
  unfold fX8_oneStreetOn_b5c at hE
  refine lv_iload hx hb dX8_oneStreetOn_5 (lv_at hl 4 rfl) ?_
  refine lv_aload_n hx hb dX8_oneStreetOn_7 rfl (lv_at hl 0 rfl) ?_
  obtain ⟨v1, hv1, hE⟩ := Option.bind_eq_some_iff.mp hE
  refine r_gR 0 (C := RX8) (T := TX8) (N := 2) (ci := 7) hx hb hts (by decide +kernel) hown hK hH hv1 rfl (by decide) (hts (.fieldLink RX8 14 "KindStreets$Ways" "plan" "LKindStreets$Plan;") (by decide +kernel)) (fun _ h9 => h9) dX8_oneStreetOn_8 ?_
  obtain ⟨v2, hv2, hE⟩ := Option.bind_eq_some_iff.mp hE
  refine r_gI 1 (C := RX4) (T := TX4) (N := 9) (ci := 4) hx hb hts (by decide +kernel) hown hK hH hv2 rfl (by decide) (hts (.fieldLink RX8 40 "KindStreets$Plan" "streets" "I") (by decide +kernel)) (u_same (hts (.sameField "KindStreets$Plan" "KindStreets$Town" "streets" "I") (by decide +kernel))) dX8_oneStreetOn_11 ?_
  refine lv_icmp_ge (tgt := 63) hx hb dX8_oneStreetOn_14 (by decide) (fun c3 => ?_) (fun c3 => ?_)
  · rw [if_pos c3] at hE
    refine lv_iload_n hx hb dX8_oneStreetOn_63 rfl (lv_at hl 3 rfl) ?_
    have hZ := Option.some.inj hE
    subst hZ
    exact W.iret (v := x3) hx hb hr (fun t ht hW => ⟨rfl, by rw [ht]; exact hH, hS.F ht⟩) hS.2.2 dX8_oneStreetOn_64
  · rw [if_neg c3] at hE
    refine lv_aload_n hx hb dX8_oneStreetOn_17 rfl (lv_at hl 0 rfl) ?_
    obtain ⟨v4, hv4, hE⟩ := Option.bind_eq_some_iff.mp hE
    refine r_gR 0 (C := RX8) (T := TX8) (N := 2) (ci := 7) hx hb hts (by decide +kernel) hown hK hH hv4 rfl (by decide) (hts (.fieldLink RX8 14 "KindStreets$Ways" "plan" "LKindStreets$Plan;") (by decide +kernel)) (fun _ h9 => h9) dX8_oneStreetOn_18 ?_
    obtain ⟨v5, hv5, hE⟩ := Option.bind_eq_some_iff.mp hE
    refine r_gR 8 (C := RX4) (T := TX4) (N := 9) (ci := 4) hx hb hts (by decide +kernel) hown hK hH hv5 rfl (by decide) (hts (.fieldLink RX8 43 "KindStreets$Plan" "width" "[I") (by decide +kernel)) (fun _ h9 => h9) dX8_oneStreetOn_21 ?_
    refine lv_iload hx hb dX8_oneStreetOn_24 (lv_at hl 4 rfl) ?_
    obtain ⟨v6, hv6, hE⟩ := Option.bind_eq_some_iff.mp hE
    refine r_iald hx hb hK hH hv6 dX8_oneStreetOn_26 ?_
    refine lv_iload_n hx hb dX8_oneStreetOn_27 rfl (lv_at hl 2 rfl) ?_
    refine lv_icmp_lt (tgt := 57) hx hb dX8_oneStreetOn_28 (by decide) (fun c7 => ?_) (fun c7 => ?_)
    · rw [if_pos c7] at hE
      exact sX8_oneStreetOn_b57 (F := F) hC hk5 hE _ _ _ hH hS (lv_sub hl [0, 1, 2, 3, 4] rfl)
    · rw [if_neg c7] at hE
      refine lv_iload_n hx hb dX8_oneStreetOn_31 rfl (lv_at hl 1 rfl) ?_
      refine lv_aload_n hx hb dX8_oneStreetOn_32 rfl (lv_at hl 0 rfl) ?_
      obtain ⟨v8, hv8, hE⟩ := Option.bind_eq_some_iff.mp hE
      refine r_gR 0 (C := RX8) (T := TX8) (N := 2) (ci := 7) hx hb hts (by decide +kernel) hown hK hH hv8 rfl (by decide) (hts (.fieldLink RX8 14 "KindStreets$Ways" "plan" "LKindStreets$Plan;") (by decide +kernel)) (fun _ h9 => h9) dX8_oneStreetOn_33 ?_
      refine lv_iload hx hb dX8_oneStreetOn_36 (lv_at hl 4 rfl) ?_
      obtain ⟨z9, hz9, hE⟩ := Option.bind_eq_some_iff.mp hE
      refine r_callI (va_runU (As := [.int x4]) (rest := [.int x1]) ⟨hx, hb, hml, hown, hts⟩ (sX7_endsOf_P l b0 D cA hz9) (va_cwU 1 hts gX8_oneStreetOn_X7_endsOf_u46X4 rfl rfl rfl rfl (by decide +kernel) (rm_ok (by decide) (by decide))) (pre_V (ci := 4) hK hH (oX7_endsOf_P hz9) rfl) rfl rfl hl.1 rfl (lv_room (Nat.le_of_ble_eq_true rfl)) dX8_oneStreetOn_38 ⟨Nat.zero_le _, Nat.zero_le _⟩) hS (fun H locs hH hS => ?_)
      refine lv_iand hx hb dX8_oneStreetOn_41 ?_
      refine lv_if_eq (tgt := 57) hx hb dX8_oneStreetOn_42 (by decide) (fun c10 => ?_) (fun c10 => ?_)
      · rw [if_pos c10] at hE
        exact sX8_oneStreetOn_b57 (F := F) hC hk5 hE _ _ _ hH hS (lv_sub hl [0, 1, 2, 3, 4] rfl)
      · rw [if_neg c10] at hE
        refine lv_iload_n hx hb dX8_oneStreetOn_45 rfl (lv_at hl 3 rfl) ?_
        refine lv_aload_n hx hb dX8_oneStreetOn_46 rfl (lv_at hl 0 rfl) ?_
        obtain ⟨v11, hv11, hE⟩ := Option.bind_eq_some_iff.mp hE
        refine r_gR 0 (C := RX8) (T := TX8) (N := 2) (ci := 7) hx hb hts (by decide +kernel) hown hK hH hv11 rfl (by decide) (hts (.fieldLink RX8 14 "KindStreets$Ways" "plan" "LKindStreets$Plan;") (by decide +kernel)) (fun _ h9 => h9) dX8_oneStreetOn_47 ?_
        refine lv_iload hx hb dX8_oneStreetOn_50 (lv_at hl 4 rfl) ?_
        obtain ⟨z12, hz12, hE⟩ := Option.bind_eq_some_iff.mp hE
        refine r_callI (va_runU (As := [.int x4]) (rest := [.int x3]) ⟨hx, hb, hml, hown, hts⟩ (sX7_endsOf_P l b0 D cA hz12) (va_cwU 1 hts gX8_oneStreetOn_X7_endsOf_u46X4 rfl rfl rfl rfl (by decide +kernel) (rm_ok (by decide) (by decide))) (pre_V (ci := 4) hK hH (oX7_endsOf_P hz12) rfl) rfl rfl hl.1 rfl (lv_room (Nat.le_of_ble_eq_true rfl)) dX8_oneStreetOn_52 ⟨Nat.zero_le _, Nat.zero_le _⟩) hS (fun H locs hH hS => ?_)
        refine lv_ior hx hb dX8_oneStreetOn_55 ?_
        refine lv_istore_n (lv' := [(3, .int (x3 ||| z12.1)), (0, .ref (b0 + a0)), (1, .int x1), (2, .int x2), (4, .int x4)]) hx hb dX8_oneStreetOn_56 rfl hl (by decide) rfl (fun ls hl => ?_)
        exact sX8_oneStreetOn_b57 (F := F) hC hk5 hE _ _ _ hH hS (lv_sub hl [1, 2, 3, 0, 4] rfl)
theorem sX8_oneStreetOn_b5 {b0 : Nat} {D : va_G} {cA : Nat → ClassId} {p : Program} {l : Launch} {ev : Env} {s : State} {m : MethodId} {args : Array Value} {below : List Frame} {meth : Method} {c : Code} {F : Nat} {z : (Int32 × HL)} (hC : Cx D cA p s m args meth c cX8_oneStreetOn 5 RX8 wsX8_oneStreetOn (some .int)) : ∀ (n : Nat) (a0 : Nat) (x1 : Int32) (x2 : Int32) (x3 : Int32) (x4 : Int32) (L : HL), fX8_oneStreetOn_b5 F n a0 x1 x2 x3 x4 L = some z → WB b0 D cA p l ev (RM 1 0 0) s m args below meth c 5 0 0 (MQ below (Qk b0 D cA (some (.int z.1)) z.2) args s 0 0 (Ab b0)) 5 [(0, .ref (b0 + a0)), (1, .int x1), (2, .int x2), (3, .int x3), (4, .int x4)] [] L := by
  intro n
  induction n with
  | zero => intro a0 x1 x2 x3 x4 L hE; cases hE
  | succ n ih => intro a0 x1 x2 x3 x4 L hE; exact sX8_oneStreetOn_b5c (F := F) hC ih hE
def fX8_oneStreetOn (F : Nat) (L : HL) (a0 : Nat) (x1 : Int32) (x2 : Int32) : Option (Int32 × HL) := (o_ob L a0 7).bind fun _ => fX8_oneStreetOn_b5 F F a0 x1 x2 x1 0 L
theorem oX8_oneStreetOn {F : Nat} {L : HL} {a0 : Nat} {x1 : Int32} {x2 : Int32} {z : (Int32 × HL)} (hE : fX8_oneStreetOn F L a0 x1 x2 = some z) : o_ob L a0 7 = some () := by
  obtain ⟨_, h, _⟩ := Option.bind_eq_some_iff.mp hE
  exact h
set_option maxHeartbeats 4000000 in
set_option maxRecDepth 100000 in
theorem sX8_oneStreetOn (l : Launch) (b0 : Nat) (D : va_G) (cA : Nat → ClassId) {F : Nat} {L : HL} {a0 : Nat} {x1 : Int32} {x2 : Int32} {z : (Int32 × HL)} (hE : fX8_oneStreetOn F L a0 x1 x2 = some z) : Met l yX8_oneStreetOn wsX8_oneStreetOn (RM 1 0 0) (Pk b0 D cA [.ref (b0 + a0), .int x1, .int x2] L) (Qk b0 D cA (some (.int z.1)) z.2) 0 0 (Ab b0) := by
  refine Met.ofW (cc := cX8_oneStreetOn) (maxL := 5) (ret := (some .int)) (by decide) rfl ?_
  intro p ev s m args below meth c s₁ B hml hv
  obtain ⟨rfl, hH, hK⟩ := hv
  have hx := B.exec
  have hb := B.bytes
  have hr := B.returns
  have hts := atoms_spec (ws := wsX8_oneStreetOn) B.pre
  have hown : s.vm.findClass RX8 = some m.cls := findClass_of_methodNamed B.named
  have hlocks := B.notSynchronized
  have hC : Cx D cA p s m _ meth c cX8_oneStreetOn 5 RX8 wsX8_oneStreetOn (some .int) := ⟨hx, hb, hml, hown, hts, hK, hr, hlocks⟩
  have hS : va_S (Ab b0) s.heap s.heap [] := va_S.rf
  have hl := lv_entry ([.ref (b0 + a0), .int x1, .int x2]) (n := 5) (Nat.le_of_ble_eq_true rfl)
  rw [lg_entry_eq]
  generalize (lg_sl ([.ref (b0 + a0), .int x1, .int x2]) ++ List.replicate (5 - (lg_sl ([.ref (b0 + a0), .int x1, .int x2])).length) Slot.unset).toArray = ls at hl ⊢
  have hl : lv_has ls 5 [(0, .ref (b0 + a0)), (1, .int x1), (2, .int x2)] := hl
  unfold fX8_oneStreetOn at hE
  obtain ⟨_, _, hE⟩ := Option.bind_eq_some_iff.mp hE
  refine lv_iload_n hx hb dX8_oneStreetOn_0 rfl (lv_at hl 1 rfl) ?_
  refine lv_istore_n (lv' := [(3, .int x1), (0, .ref (b0 + a0)), (1, .int x1), (2, .int x2)]) hx hb dX8_oneStreetOn_1 rfl hl (by decide) rfl (fun ls hl => ?_)
  refine lv_iconst (v := 0) hx hb dX8_oneStreetOn_2 (by decide) ?_
  refine lv_istore (lv' := [(4, .int 0), (3, .int x1), (0, .ref (b0 + a0)), (1, .int x1), (2, .int x2)]) hx hb dX8_oneStreetOn_3 hl (by decide) rfl (fun ls hl => ?_)
  exact sX8_oneStreetOn_b5 (F := F) hC F _ _ _ _ _ _ hE _ _ _ hH hS (lv_sub hl [2, 3, 4, 1, 0] rfl)
-- X8_fewestStreets
def fX8_fewestStreets_b8c (F : Nat) (k8 : Nat → Int32 → Int32 → Int32 → Int32 → HL → Option (Int32 × HL)) (a0 : Nat) (x2 : Int32) (x3 : Int32) (x4 : Int32) (x5 : Int32) (L : HL) : Option (Int32 × HL) := (o_gR L a0 7 0).bind fun v1 => (o_gI L v1 4 0).bind fun v2 => if v2 ≤ x5 then (some ((-9), L)) else ((fX8_oneStreetOn F L a0 x4 x3).bind fun z4 => (fX5_has F z4.2 z4.1 x2).bind fun z5 => if z5.1 = 0 then (k8 a0 x2 x3 z4.1 (x5 + 1) z5.2) else (some (x5, z5.2)))
def fX8_fewestStreets_b8 (F : Nat) : Nat → Nat → Int32 → Int32 → Int32 → Int32 → HL → Option (Int32 × HL)
  | 0 => fun _ _ _ _ _ _ => none
  | n + 1 => fun a0 x2 x3 x4 x5 L => fX8_fewestStreets_b8c F (fX8_fewestStreets_b8 F n) a0 x2 x3 x4 x5 L
set_option maxHeartbeats 4000000 in
set_option maxRecDepth 100000 in
theorem sX8_fewestStreets_b8c {b0 : Nat} {D : va_G} {cA : Nat → ClassId} {p : Program} {l : Launch} {ev : Env} {s : State} {m : MethodId} {args : Array Value} {below : List Frame} {meth : Method} {c : Code} {F : Nat} {z : (Int32 × HL)} {k8 : Nat → Int32 → Int32 → Int32 → Int32 → HL → Option (Int32 × HL)} {a0 : Nat} {x2 : Int32} {x3 : Int32} {x4 : Int32} {x5 : Int32} {L : HL} (hC : Cx D cA p s m args meth c cX8_fewestStreets 6 RX8 wsX8_fewestStreets (some .int)) (hk8 : ∀ (a0' : Nat) (x2' : Int32) (x3' : Int32) (x4' : Int32) (x5' : Int32) (L' : HL), k8 a0' x2' x3' x4' x5' L' = some z → WB b0 D cA p l ev (RM 2 0 0) s m args below meth c 6 0 0 (MQ below (Qk b0 D cA (some (.int z.1)) z.2) args s 0 0 (Ab b0)) 8 [(0, .ref (b0 + a0')), (2, .int x2'), (3, .int x3'), (4, .int x4'), (5, .int x5')] [] L') (hE : fX8_fewestStreets_b8c F k8 a0 x2 x3 x4 x5 L = some z) : WB b0 D cA p l ev (RM 2 0 0) s m args below meth c 6 0 0 (MQ below (Qk b0 D cA (some (.int z.1)) z.2) args s 0 0 (Ab b0)) 8 [(0, .ref (b0 + a0)), (2, .int x2), (3, .int x3), (4, .int x4), (5, .int x5)] [] L := by
  obtain ⟨hx, hb, hml, hown, hts, hK, hr, hlocks⟩ := id hC
  intro H locs ls hH hS hl
  unfold fX8_fewestStreets_b8c at hE
  refine lv_iload hx hb dX8_fewestStreets_8 (lv_at hl 4 rfl) ?_
  refine lv_aload_n hx hb dX8_fewestStreets_10 rfl (lv_at hl 0 rfl) ?_
  obtain ⟨v1, hv1, hE⟩ := Option.bind_eq_some_iff.mp hE
  refine r_gR 0 (C := RX8) (T := TX8) (N := 2) (ci := 7) hx hb hts (by decide +kernel) hown hK hH hv1 rfl (by decide) (hts (.fieldLink RX8 14 "KindStreets$Ways" "plan" "LKindStreets$Plan;") (by decide +kernel)) (fun _ h9 => h9) dX8_fewestStreets_11 ?_
  obtain ⟨v2, hv2, hE⟩ := Option.bind_eq_some_iff.mp hE
  refine r_gI 0 (C := RX4) (T := TX4) (N := 9) (ci := 4) hx hb hts (by decide +kernel) hown hK hH hv2 rfl (by decide) (hts (.fieldLink RX8 26 "KindStreets$Plan" "yards" "I") (by decide +kernel)) (u_same (hts (.sameField "KindStreets$Plan" "KindStreets$Town" "yards" "I") (by decide +kernel))) dX8_fewestStreets_14 ?_
  refine lv_icmp_ge (tgt := 47) hx hb dX8_fewestStreets_17 (by decide) (fun c3 => ?_) (fun c3 => ?_)
  · rw [if_pos c3] at hE
    refine lv_bipush (v := (-9)) hx hb dX8_fewestStreets_47 (by decide) ?_
    have hZ := Option.some.inj hE
    subst hZ
    exact W.iret (v := (-9)) hx hb hr (fun t ht hW => ⟨rfl, by rw [ht]; exact hH, hS.F ht⟩) hS.2.2 dX8_fewestStreets_49
  · rw [if_neg c3] at hE
    refine lv_aload_n hx hb dX8_fewestStreets_20 rfl (lv_at hl 0 rfl) ?_
    refine lv_iload hx hb dX8_fewestStreets_21 (lv_at hl 3 rfl) ?_
    refine lv_iload_n hx hb dX8_fewestStreets_23 rfl (lv_at hl 2 rfl) ?_
    obtain ⟨z4, hz4, hE⟩ := Option.bind_eq_some_iff.mp hE
    refine r_callI (va_runV (As := [.int x4, .int x3]) (rest := []) ⟨hx, hb, hml, hown, hts⟩ (sX8_oneStreetOn l b0 D cA hz4) (cwV 2 hts gX8_fewestStreets_X8_oneStreetOn rfl rfl rfl (by decide +kernel) (rm_ok (by decide) (by decide))) (pre_V (ci := 7) hK hH (oX8_oneStreetOn hz4) rfl) rfl rfl hl.1 rfl (lv_room (Nat.le_of_ble_eq_true rfl)) dX8_fewestStreets_24 ⟨Nat.zero_le _, Nat.zero_le _⟩) hS (fun H locs hH hS => ?_)
    refine lv_istore (lv' := [(4, .int z4.1), (0, .ref (b0 + a0)), (2, .int x2), (3, .int x3), (5, .int x5)]) hx hb dX8_fewestStreets_27 hl (by decide) rfl (fun ls hl => ?_)
    refine lv_iload hx hb dX8_fewestStreets_29 (lv_at hl 0 rfl) ?_
    refine lv_iload_n hx hb dX8_fewestStreets_31 rfl (lv_at hl 2 rfl) ?_
    obtain ⟨z5, hz5, hE⟩ := Option.bind_eq_some_iff.mp hE
    refine r_callI (va_runS (As := [.int z4.1, .int x2]) (rest := []) ⟨hx, hb, hml, hown, hts⟩ (sX5_has l b0 D cA hz5) (va_cwS 2 hts gX8_fewestStreets_X5_has rfl rfl rfl (by decide +kernel) (rm_ok (by decide) (by decide))) (pre_S hK hH) rfl rfl hl.1 rfl (lv_room (Nat.le_of_ble_eq_true rfl)) dX8_fewestStreets_32 ⟨Nat.zero_le _, Nat.zero_le _⟩) hS (fun H locs hH hS => ?_)
    refine lv_if_eq (tgt := 41) hx hb dX8_fewestStreets_35 (by decide) (fun c6 => ?_) (fun c6 => ?_)
    · rw [if_pos c6] at hE
      refine lv_iinc (v := (x5 + 1)) (lv' := [(5, .int (x5 + 1)), (4, .int z4.1), (0, .ref (b0 + a0)), (2, .int x2), (3, .int x3)]) hx hb dX8_fewestStreets_41 hl (k := 4) rfl rfl (by decide) rfl (fun ls hl => ?_)
      refine lv_goto (tgt := 8) hx hb dX8_fewestStreets_44 (by decide) ?_
      exact hk8 _ _ _ _ _ _ hE _ _ _ hH hS (lv_sub hl [2, 3, 4, 1, 0] rfl)
    · rw [if_neg c6] at hE
      refine lv_iload hx hb dX8_fewestStreets_38 (lv_at hl 4 rfl) ?_
      have hZ := Option.some.inj hE
      subst hZ
      exact W.iret (v := x5) hx hb hr (fun t ht hW => ⟨rfl, by rw [ht]; exact hH, hS.F ht⟩) hS.2.2 dX8_fewestStreets_40
theorem sX8_fewestStreets_b8 {b0 : Nat} {D : va_G} {cA : Nat → ClassId} {p : Program} {l : Launch} {ev : Env} {s : State} {m : MethodId} {args : Array Value} {below : List Frame} {meth : Method} {c : Code} {F : Nat} {z : (Int32 × HL)} (hC : Cx D cA p s m args meth c cX8_fewestStreets 6 RX8 wsX8_fewestStreets (some .int)) : ∀ (n : Nat) (a0 : Nat) (x2 : Int32) (x3 : Int32) (x4 : Int32) (x5 : Int32) (L : HL), fX8_fewestStreets_b8 F n a0 x2 x3 x4 x5 L = some z → WB b0 D cA p l ev (RM 2 0 0) s m args below meth c 6 0 0 (MQ below (Qk b0 D cA (some (.int z.1)) z.2) args s 0 0 (Ab b0)) 8 [(0, .ref (b0 + a0)), (2, .int x2), (3, .int x3), (4, .int x4), (5, .int x5)] [] L := by
  intro n
  induction n with
  | zero => intro a0 x2 x3 x4 x5 L hE; cases hE
  | succ n ih => intro a0 x2 x3 x4 x5 L hE; exact sX8_fewestStreets_b8c (F := F) hC ih hE
def fX8_fewestStreets (F : Nat) (L : HL) (a0 : Nat) (x1 : Int32) (x2 : Int32) (x3 : Int32) : Option (Int32 × HL) := (o_ob L a0 7).bind fun _ => fX8_fewestStreets_b8 F F a0 x2 x3 ((1 : Int32) <<< (x1 &&& 31)) 1 L
theorem oX8_fewestStreets {F : Nat} {L : HL} {a0 : Nat} {x1 : Int32} {x2 : Int32} {x3 : Int32} {z : (Int32 × HL)} (hE : fX8_fewestStreets F L a0 x1 x2 x3 = some z) : o_ob L a0 7 = some () := by
  obtain ⟨_, h, _⟩ := Option.bind_eq_some_iff.mp hE
  exact h
set_option maxHeartbeats 4000000 in
set_option maxRecDepth 100000 in
theorem sX8_fewestStreets (l : Launch) (b0 : Nat) (D : va_G) (cA : Nat → ClassId) {F : Nat} {L : HL} {a0 : Nat} {x1 : Int32} {x2 : Int32} {x3 : Int32} {z : (Int32 × HL)} (hE : fX8_fewestStreets F L a0 x1 x2 x3 = some z) : Met l yX8_fewestStreets wsX8_fewestStreets (RM 2 0 0) (Pk b0 D cA [.ref (b0 + a0), .int x1, .int x2, .int x3] L) (Qk b0 D cA (some (.int z.1)) z.2) 0 0 (Ab b0) := by
  refine Met.ofW (cc := cX8_fewestStreets) (maxL := 6) (ret := (some .int)) (by decide) rfl ?_
  intro p ev s m args below meth c s₁ B hml hv
  obtain ⟨rfl, hH, hK⟩ := hv
  have hx := B.exec
  have hb := B.bytes
  have hr := B.returns
  have hts := atoms_spec (ws := wsX8_fewestStreets) B.pre
  have hown : s.vm.findClass RX8 = some m.cls := findClass_of_methodNamed B.named
  have hlocks := B.notSynchronized
  have hC : Cx D cA p s m _ meth c cX8_fewestStreets 6 RX8 wsX8_fewestStreets (some .int) := ⟨hx, hb, hml, hown, hts, hK, hr, hlocks⟩
  have hS : va_S (Ab b0) s.heap s.heap [] := va_S.rf
  have hl := lv_entry ([.ref (b0 + a0), .int x1, .int x2, .int x3]) (n := 6) (Nat.le_of_ble_eq_true rfl)
  rw [lg_entry_eq]
  generalize (lg_sl ([.ref (b0 + a0), .int x1, .int x2, .int x3]) ++ List.replicate (6 - (lg_sl ([.ref (b0 + a0), .int x1, .int x2, .int x3])).length) Slot.unset).toArray = ls at hl ⊢
  have hl : lv_has ls 6 [(0, .ref (b0 + a0)), (1, .int x1), (2, .int x2), (3, .int x3)] := hl
  unfold fX8_fewestStreets at hE
  obtain ⟨_, _, hE⟩ := Option.bind_eq_some_iff.mp hE
  refine lv_iconst (v := 1) hx hb dX8_fewestStreets_0 (by decide) ?_
  refine lv_iload_n hx hb dX8_fewestStreets_1 rfl (lv_at hl 1 rfl) ?_
  refine lv_ishl hx hb dX8_fewestStreets_2 ?_
  refine lv_istore (lv' := [(4, .int ((1 : Int32) <<< (x1 &&& 31))), (0, .ref (b0 + a0)), (1, .int x1), (2, .int x2), (3, .int x3)]) hx hb dX8_fewestStreets_3 hl (by decide) rfl (fun ls hl => ?_)
  refine lv_iconst (v := 1) hx hb dX8_fewestStreets_5 (by decide) ?_
  refine lv_istore (lv' := [(5, .int 1), (4, .int ((1 : Int32) <<< (x1 &&& 31))), (0, .ref (b0 + a0)), (1, .int x1), (2, .int x2), (3, .int x3)]) hx hb dX8_fewestStreets_6 hl (by decide) rfl (fun ls hl => ?_)
  exact sX8_fewestStreets_b8 (F := F) hC F _ _ _ _ _ _ hE _ _ _ hH hS (lv_sub hl [2, 4, 5, 1, 0] rfl)
-- X8_widestWay
def fX8_widestWay_b3c (F : Nat) (k3 : Nat → Int32 → Int32 → Int32 → HL → Option (Int32 × HL)) (a0 : Nat) (x1 : Int32) (x2 : Int32) (x3 : Int32) (L : HL) : Option (Int32 × HL) := if x3 < 1 then (some ((-9), L)) else ((fX8_fewestStreets F L a0 x1 x2 x3).bind fun z2 => if z2.1 = (-9) then (k3 a0 x1 x2 (x3 + (-1)) z2.2) else (some (x3, z2.2)))
def fX8_widestWay_b3 (F : Nat) : Nat → Nat → Int32 → Int32 → Int32 → HL → Option (Int32 × HL)
  | 0 => fun _ _ _ _ _ => none
  | n + 1 => fun a0 x1 x2 x3 L => fX8_widestWay_b3c F (fX8_widestWay_b3 F n) a0 x1 x2 x3 L
set_option maxHeartbeats 4000000 in
set_option maxRecDepth 100000 in
theorem sX8_widestWay_b3c {b0 : Nat} {D : va_G} {cA : Nat → ClassId} {p : Program} {l : Launch} {ev : Env} {s : State} {m : MethodId} {args : Array Value} {below : List Frame} {meth : Method} {c : Code} {F : Nat} {z : (Int32 × HL)} {k3 : Nat → Int32 → Int32 → Int32 → HL → Option (Int32 × HL)} {a0 : Nat} {x1 : Int32} {x2 : Int32} {x3 : Int32} {L : HL} (hC : Cx D cA p s m args meth c cX8_widestWay 4 RX8 wsX8_widestWay (some .int)) (hk3 : ∀ (a0' : Nat) (x1' : Int32) (x2' : Int32) (x3' : Int32) (L' : HL), k3 a0' x1' x2' x3' L' = some z → WB b0 D cA p l ev (RM 3 0 0) s m args below meth c 4 0 0 (MQ below (Qk b0 D cA (some (.int z.1)) z.2) args s 0 0 (Ab b0)) 3 [(0, .ref (b0 + a0')), (1, .int x1'), (2, .int x2'), (3, .int x3')] [] L') (hE : fX8_widestWay_b3c F k3 a0 x1 x2 x3 L = some z) : WB b0 D cA p l ev (RM 3 0 0) s m args below meth c 4 0 0 (MQ below (Qk b0 D cA (some (.int z.1)) z.2) args s 0 0 (Ab b0)) 3 [(0, .ref (b0 + a0)), (1, .int x1), (2, .int x2), (3, .int x3)] [] L := by
  obtain ⟨hx, hb, hml, hown, hts, hK, hr, hlocks⟩ := id hC
  intro H locs ls hH hS hl
  unfold fX8_widestWay_b3c at hE
  refine lv_iload_n hx hb dX8_widestWay_3 rfl (lv_at hl 3 rfl) ?_
  refine lv_iconst (v := 1) hx hb dX8_widestWay_4 (by decide) ?_
  refine lv_icmp_lt (tgt := 28) hx hb dX8_widestWay_5 (by decide) (fun c1 => ?_) (fun c1 => ?_)
  · rw [if_pos c1] at hE
    refine lv_bipush (v := (-9)) hx hb dX8_widestWay_28 (by decide) ?_
    have hZ := Option.some.inj hE
    subst hZ
    exact W.iret (v := (-9)) hx hb hr (fun t ht hW => ⟨rfl, by rw [ht]; exact hH, hS.F ht⟩) hS.2.2 dX8_widestWay_30
  · rw [if_neg c1] at hE
    refine lv_aload_n hx hb dX8_widestWay_8 rfl (lv_at hl 0 rfl) ?_
    refine lv_iload_n hx hb dX8_widestWay_9 rfl (lv_at hl 1 rfl) ?_
    refine lv_iload_n hx hb dX8_widestWay_10 rfl (lv_at hl 2 rfl) ?_
    refine lv_iload_n hx hb dX8_widestWay_11 rfl (lv_at hl 3 rfl) ?_
    obtain ⟨z2, hz2, hE⟩ := Option.bind_eq_some_iff.mp hE
    refine r_callI (va_runV (As := [.int x1, .int x2, .int x3]) (rest := []) ⟨hx, hb, hml, hown, hts⟩ (sX8_fewestStreets l b0 D cA hz2) (cwV 3 hts gX8_widestWay_X8_fewestStreets rfl rfl rfl (by decide +kernel) (rm_ok (by decide) (by decide))) (pre_V (ci := 7) hK hH (oX8_fewestStreets hz2) rfl) rfl rfl hl.1 rfl (lv_room (Nat.le_of_ble_eq_true rfl)) dX8_widestWay_12 ⟨Nat.zero_le _, Nat.zero_le _⟩) hS (fun H locs hH hS => ?_)
    refine lv_bipush (v := (-9)) hx hb dX8_widestWay_15 (by decide) ?_
    refine lv_icmp_eq (tgt := 22) hx hb dX8_widestWay_17 (by decide) (fun c3 => ?_) (fun c3 => ?_)
    · rw [if_pos c3] at hE
      refine lv_iinc (v := (x3 + (-1))) (lv' := [(3, .int (x3 + (-1))), (0, .ref (b0 + a0)), (1, .int x1), (2, .int x2)]) hx hb dX8_widestWay_22 hl (k := 3) rfl rfl (by decide) rfl (fun ls hl => ?_)
      refine lv_goto (tgt := 3) hx hb dX8_widestWay_25 (by decide) ?_
      exact hk3 _ _ _ _ _ hE _ _ _ hH hS (lv_sub hl [1, 2, 3, 0] rfl)
    · rw [if_neg c3] at hE
      refine lv_iload_n hx hb dX8_widestWay_20 rfl (lv_at hl 3 rfl) ?_
      have hZ := Option.some.inj hE
      subst hZ
      exact W.iret (v := x3) hx hb hr (fun t ht hW => ⟨rfl, by rw [ht]; exact hH, hS.F ht⟩) hS.2.2 dX8_widestWay_21
theorem sX8_widestWay_b3 {b0 : Nat} {D : va_G} {cA : Nat → ClassId} {p : Program} {l : Launch} {ev : Env} {s : State} {m : MethodId} {args : Array Value} {below : List Frame} {meth : Method} {c : Code} {F : Nat} {z : (Int32 × HL)} (hC : Cx D cA p s m args meth c cX8_widestWay 4 RX8 wsX8_widestWay (some .int)) : ∀ (n : Nat) (a0 : Nat) (x1 : Int32) (x2 : Int32) (x3 : Int32) (L : HL), fX8_widestWay_b3 F n a0 x1 x2 x3 L = some z → WB b0 D cA p l ev (RM 3 0 0) s m args below meth c 4 0 0 (MQ below (Qk b0 D cA (some (.int z.1)) z.2) args s 0 0 (Ab b0)) 3 [(0, .ref (b0 + a0)), (1, .int x1), (2, .int x2), (3, .int x3)] [] L := by
  intro n
  induction n with
  | zero => intro a0 x1 x2 x3 L hE; cases hE
  | succ n ih => intro a0 x1 x2 x3 L hE; exact sX8_widestWay_b3c (F := F) hC ih hE
def fX8_widestWay (F : Nat) (L : HL) (a0 : Nat) (x1 : Int32) (x2 : Int32) : Option (Int32 × HL) := (o_ob L a0 7).bind fun _ => fX8_widestWay_b3 F F a0 x1 x2 10 L
theorem oX8_widestWay {F : Nat} {L : HL} {a0 : Nat} {x1 : Int32} {x2 : Int32} {z : (Int32 × HL)} (hE : fX8_widestWay F L a0 x1 x2 = some z) : o_ob L a0 7 = some () := by
  obtain ⟨_, h, _⟩ := Option.bind_eq_some_iff.mp hE
  exact h
set_option maxHeartbeats 4000000 in
set_option maxRecDepth 100000 in
theorem sX8_widestWay (l : Launch) (b0 : Nat) (D : va_G) (cA : Nat → ClassId) {F : Nat} {L : HL} {a0 : Nat} {x1 : Int32} {x2 : Int32} {z : (Int32 × HL)} (hE : fX8_widestWay F L a0 x1 x2 = some z) : Met l yX8_widestWay wsX8_widestWay (RM 3 0 0) (Pk b0 D cA [.ref (b0 + a0), .int x1, .int x2] L) (Qk b0 D cA (some (.int z.1)) z.2) 0 0 (Ab b0) := by
  refine Met.ofW (cc := cX8_widestWay) (maxL := 4) (ret := (some .int)) (by decide) rfl ?_
  intro p ev s m args below meth c s₁ B hml hv
  obtain ⟨rfl, hH, hK⟩ := hv
  have hx := B.exec
  have hb := B.bytes
  have hr := B.returns
  have hts := atoms_spec (ws := wsX8_widestWay) B.pre
  have hown : s.vm.findClass RX8 = some m.cls := findClass_of_methodNamed B.named
  have hlocks := B.notSynchronized
  have hC : Cx D cA p s m _ meth c cX8_widestWay 4 RX8 wsX8_widestWay (some .int) := ⟨hx, hb, hml, hown, hts, hK, hr, hlocks⟩
  have hS : va_S (Ab b0) s.heap s.heap [] := va_S.rf
  have hl := lv_entry ([.ref (b0 + a0), .int x1, .int x2]) (n := 4) (Nat.le_of_ble_eq_true rfl)
  rw [lg_entry_eq]
  generalize (lg_sl ([.ref (b0 + a0), .int x1, .int x2]) ++ List.replicate (4 - (lg_sl ([.ref (b0 + a0), .int x1, .int x2])).length) Slot.unset).toArray = ls at hl ⊢
  have hl : lv_has ls 4 [(0, .ref (b0 + a0)), (1, .int x1), (2, .int x2)] := hl
  unfold fX8_widestWay at hE
  obtain ⟨_, _, hE⟩ := Option.bind_eq_some_iff.mp hE
  refine lv_bipush (v := 10) hx hb dX8_widestWay_0 (by decide) ?_
  refine lv_istore_n (lv' := [(3, .int 10), (0, .ref (b0 + a0)), (1, .int x1), (2, .int x2)]) hx hb dX8_widestWay_2 rfl hl (by decide) rfl (fun ls hl => ?_)
  exact sX8_widestWay_b3 (F := F) hC F _ _ _ _ _ hE _ _ _ hH hS (lv_sub hl [1, 2, 3, 0] rfl)
-- X8_cutAround
def fX8_cutAround_b51 (F : Nat) (k4 : Nat → Int32 → Int32 → Int32 → HL → Option (Int32 × HL)) (a0 : Nat) (x1 : Int32) (x2 : Int32) (x3 : Int32) (L : HL) : Option (Int32 × HL) := k4 a0 x1 x2 (x3 + 1) L
set_option maxHeartbeats 4000000 in
set_option maxRecDepth 100000 in
theorem sX8_cutAround_b51 {b0 : Nat} {D : va_G} {cA : Nat → ClassId} {p : Program} {l : Launch} {ev : Env} {s : State} {m : MethodId} {args : Array Value} {below : List Frame} {meth : Method} {c : Code} {F : Nat} {z : (Int32 × HL)} {k4 : Nat → Int32 → Int32 → Int32 → HL → Option (Int32 × HL)} {a0 : Nat} {x1 : Int32} {x2 : Int32} {x3 : Int32} {L : HL} (hC : Cx D cA p s m args meth c cX8_cutAround 4 RX8 wsX8_cutAround (some .int)) (hk4 : ∀ (a0' : Nat) (x1' : Int32) (x2' : Int32) (x3' : Int32) (L' : HL), k4 a0' x1' x2' x3' L' = some z → WB b0 D cA p l ev (RM 2 0 0) s m args below meth c 4 0 0 (MQ below (Qk b0 D cA (some (.int z.1)) z.2) args s 0 0 (Ab b0)) 4 [(0, .ref (b0 + a0')), (1, .int x1'), (2, .int x2'), (3, .int x3')] [] L') (hE : fX8_cutAround_b51 F k4 a0 x1 x2 x3 L = some z) : WB b0 D cA p l ev (RM 2 0 0) s m args below meth c 4 0 0 (MQ below (Qk b0 D cA (some (.int z.1)) z.2) args s 0 0 (Ab b0)) 51 [(0, .ref (b0 + a0)), (1, .int x1), (2, .int x2), (3, .int x3)] [] L := by
  obtain ⟨hx, hb, hml, hown, hts, hK, hr, hlocks⟩ := id hC
  intro H locs ls hH hS hl
  unfold fX8_cutAround_b51 at hE
  refine lv_iinc (v := (x3 + 1)) (lv' := [(3, .int (x3 + 1)), (0, .ref (b0 + a0)), (1, .int x1), (2, .int x2)]) hx hb dX8_cutAround_51 hl (k := 3) rfl rfl (by decide) rfl (fun ls hl => ?_)
  refine lv_goto (tgt := 4) hx hb dX8_cutAround_54 (by decide) ?_
  exact hk4 _ _ _ _ _ hE _ _ _ hH hS (lv_sub hl [1, 2, 3, 0] rfl)
def fX8_cutAround_b4c (F : Nat) (k4 : Nat → Int32 → Int32 → Int32 → HL → Option (Int32 × HL)) (a0 : Nat) (x1 : Int32) (x2 : Int32) (x3 : Int32) (L : HL) : Option (Int32 × HL) := (o_gR L a0 7 0).bind fun v1 => (o_gI L v1 4 1).bind fun v2 => if v2 ≤ x3 then (some (x2, L)) else ((o_gR L a0 7 0).bind fun v4 => (fX4_leadsOut F L v4 x3 x1).bind fun z5 => if z5.1 = 0 then (fX8_cutAround_b51 F k4 a0 x1 x2 x3 z5.2) else ((o_gR z5.2 a0 7 0).bind fun v7 => (o_gR z5.2 v7 4 8).bind fun v8 => (o_aI z5.2 v8 0 x3).bind fun v9 => fX8_cutAround_b51 F k4 a0 x1 (x2 + (((v9 * 8192) + 512) + ((1 : Int32) <<< (x3 &&& 31)))) x3 z5.2))
def fX8_cutAround_b4 (F : Nat) : Nat → Nat → Int32 → Int32 → Int32 → HL → Option (Int32 × HL)
  | 0 => fun _ _ _ _ _ => none
  | n + 1 => fun a0 x1 x2 x3 L => fX8_cutAround_b4c F (fX8_cutAround_b4 F n) a0 x1 x2 x3 L
set_option maxHeartbeats 4000000 in
set_option maxRecDepth 100000 in
theorem sX8_cutAround_b4c {b0 : Nat} {D : va_G} {cA : Nat → ClassId} {p : Program} {l : Launch} {ev : Env} {s : State} {m : MethodId} {args : Array Value} {below : List Frame} {meth : Method} {c : Code} {F : Nat} {z : (Int32 × HL)} {k4 : Nat → Int32 → Int32 → Int32 → HL → Option (Int32 × HL)} {a0 : Nat} {x1 : Int32} {x2 : Int32} {x3 : Int32} {L : HL} (hC : Cx D cA p s m args meth c cX8_cutAround 4 RX8 wsX8_cutAround (some .int)) (hk4 : ∀ (a0' : Nat) (x1' : Int32) (x2' : Int32) (x3' : Int32) (L' : HL), k4 a0' x1' x2' x3' L' = some z → WB b0 D cA p l ev (RM 2 0 0) s m args below meth c 4 0 0 (MQ below (Qk b0 D cA (some (.int z.1)) z.2) args s 0 0 (Ab b0)) 4 [(0, .ref (b0 + a0')), (1, .int x1'), (2, .int x2'), (3, .int x3')] [] L') (hE : fX8_cutAround_b4c F k4 a0 x1 x2 x3 L = some z) : WB b0 D cA p l ev (RM 2 0 0) s m args below meth c 4 0 0 (MQ below (Qk b0 D cA (some (.int z.1)) z.2) args s 0 0 (Ab b0)) 4 [(0, .ref (b0 + a0)), (1, .int x1), (2, .int x2), (3, .int x3)] [] L := by
  obtain ⟨hx, hb, hml, hown, hts, hK, hr, hlocks⟩ := id hC
  intro H locs ls hH hS hl
  unfold fX8_cutAround_b4c at hE
  refine lv_iload_n hx hb dX8_cutAround_4 rfl (lv_at hl 3 rfl) ?_
  refine lv_aload_n hx hb dX8_cutAround_5 rfl (lv_at hl 0 rfl) ?_
  obtain ⟨v1, hv1, hE⟩ := Option.bind_eq_some_iff.mp hE
  refine r_gR 0 (C := RX8) (T := TX8) (N := 2) (ci := 7) hx hb hts (by decide +kernel) hown hK hH hv1 rfl (by decide) (hts (.fieldLink RX8 14 "KindStreets$Ways" "plan" "LKindStreets$Plan;") (by decide +kernel)) (fun _ h9 => h9) dX8_cutAround_6 ?_
  obtain ⟨v2, hv2, hE⟩ := Option.bind_eq_some_iff.mp hE
  refine r_gI 1 (C := RX4) (T := TX4) (N := 9) (ci := 4) hx hb hts (by decide +kernel) hown hK hH hv2 rfl (by decide) (hts (.fieldLink RX8 40 "KindStreets$Plan" "streets" "I") (by decide +kernel)) (u_same (hts (.sameField "KindStreets$Plan" "KindStreets$Town" "streets" "I") (by decide +kernel))) dX8_cutAround_9 ?_
  refine lv_icmp_ge (tgt := 57) hx hb dX8_cutAround_12 (by decide) (fun c3 => ?_) (fun c3 => ?_)
  · rw [if_pos c3] at hE
    refine lv_iload_n hx hb dX8_cutAround_57 rfl (lv_at hl 2 rfl) ?_
    have hZ := Option.some.inj hE
    subst hZ
    exact W.iret (v := x2) hx hb hr (fun t ht hW => ⟨rfl, by rw [ht]; exact hH, hS.F ht⟩) hS.2.2 dX8_cutAround_58
  · rw [if_neg c3] at hE
    refine lv_aload_n hx hb dX8_cutAround_15 rfl (lv_at hl 0 rfl) ?_
    obtain ⟨v4, hv4, hE⟩ := Option.bind_eq_some_iff.mp hE
    refine r_gR 0 (C := RX8) (T := TX8) (N := 2) (ci := 7) hx hb hts (by decide +kernel) hown hK hH hv4 rfl (by decide) (hts (.fieldLink RX8 14 "KindStreets$Ways" "plan" "LKindStreets$Plan;") (by decide +kernel)) (fun _ h9 => h9) dX8_cutAround_16 ?_
    refine lv_iload_n hx hb dX8_cutAround_19 rfl (lv_at hl 3 rfl) ?_
    refine lv_iload_n hx hb dX8_cutAround_20 rfl (lv_at hl 1 rfl) ?_
    obtain ⟨z5, hz5, hE⟩ := Option.bind_eq_some_iff.mp hE
    refine r_callI (va_runV (As := [.int x3, .int x1]) (rest := []) ⟨hx, hb, hml, hown, hts⟩ (sX4_leadsOut l b0 D cA hz5) (cwV 2 hts gX8_cutAround_X4_leadsOut rfl rfl rfl (by decide +kernel) (rm_ok (by decide) (by decide))) (pre_V (ci := 4) hK hH (oX4_leadsOut hz5) rfl) rfl rfl hl.1 rfl (lv_room (Nat.le_of_ble_eq_true rfl)) dX8_cutAround_21 ⟨Nat.zero_le _, Nat.zero_le _⟩) hS (fun H locs hH hS => ?_)
    refine lv_if_eq (tgt := 51) hx hb dX8_cutAround_24 (by decide) (fun c6 => ?_) (fun c6 => ?_)
    · rw [if_pos c6] at hE
      exact sX8_cutAround_b51 (F := F) hC hk4 hE _ _ _ hH hS (lv_sub hl [0, 1, 2, 3] rfl)
    · rw [if_neg c6] at hE
      refine lv_iload_n hx hb dX8_cutAround_27 rfl (lv_at hl 2 rfl) ?_
      refine lv_aload_n hx hb dX8_cutAround_28 rfl (lv_at hl 0 rfl) ?_
      obtain ⟨v7, hv7, hE⟩ := Option.bind_eq_some_iff.mp hE
      refine r_gR 0 (C := RX8) (T := TX8) (N := 2) (ci := 7) hx hb hts (by decide +kernel) hown hK hH hv7 rfl (by decide) (hts (.fieldLink RX8 14 "KindStreets$Ways" "plan" "LKindStreets$Plan;") (by decide +kernel)) (fun _ h9 => h9) dX8_cutAround_29 ?_
      obtain ⟨v8, hv8, hE⟩ := Option.bind_eq_some_iff.mp hE
      refine r_gR 8 (C := RX4) (T := TX4) (N := 9) (ci := 4) hx hb hts (by decide +kernel) hown hK hH hv8 rfl (by decide) (hts (.fieldLink RX8 43 "KindStreets$Plan" "width" "[I") (by decide +kernel)) (fun _ h9 => h9) dX8_cutAround_32 ?_
      refine lv_iload_n hx hb dX8_cutAround_35 rfl (lv_at hl 3 rfl) ?_
      obtain ⟨v9, hv9, hE⟩ := Option.bind_eq_some_iff.mp hE
      refine r_iald hx hb hK hH hv9 dX8_cutAround_36 ?_
      refine lv_sipush (v := 8192) hx hb dX8_cutAround_37 (by decide) ?_
      refine lv_imul hx hb dX8_cutAround_40 ?_
      refine lv_sipush (v := 512) hx hb dX8_cutAround_41 (by decide) ?_
      refine lv_iadd hx hb dX8_cutAround_44 ?_
      refine lv_iconst (v := 1) hx hb dX8_cutAround_45 (by decide) ?_
      refine lv_iload_n hx hb dX8_cutAround_46 rfl (lv_at hl 3 rfl) ?_
      refine lv_ishl hx hb dX8_cutAround_47 ?_
      refine lv_iadd hx hb dX8_cutAround_48 ?_
      refine lv_iadd hx hb dX8_cutAround_49 ?_
      refine lv_istore_n (lv' := [(2, .int (x2 + (((v9 * 8192) + 512) + ((1 : Int32) <<< (x3 &&& 31))))), (0, .ref (b0 + a0)), (1, .int x1), (3, .int x3)]) hx hb dX8_cutAround_50 rfl hl (by decide) rfl (fun ls hl => ?_)
      exact sX8_cutAround_b51 (F := F) hC hk4 hE _ _ _ hH hS (lv_sub hl [1, 2, 0, 3] rfl)
theorem sX8_cutAround_b4 {b0 : Nat} {D : va_G} {cA : Nat → ClassId} {p : Program} {l : Launch} {ev : Env} {s : State} {m : MethodId} {args : Array Value} {below : List Frame} {meth : Method} {c : Code} {F : Nat} {z : (Int32 × HL)} (hC : Cx D cA p s m args meth c cX8_cutAround 4 RX8 wsX8_cutAround (some .int)) : ∀ (n : Nat) (a0 : Nat) (x1 : Int32) (x2 : Int32) (x3 : Int32) (L : HL), fX8_cutAround_b4 F n a0 x1 x2 x3 L = some z → WB b0 D cA p l ev (RM 2 0 0) s m args below meth c 4 0 0 (MQ below (Qk b0 D cA (some (.int z.1)) z.2) args s 0 0 (Ab b0)) 4 [(0, .ref (b0 + a0)), (1, .int x1), (2, .int x2), (3, .int x3)] [] L := by
  intro n
  induction n with
  | zero => intro a0 x1 x2 x3 L hE; cases hE
  | succ n ih => intro a0 x1 x2 x3 L hE; exact sX8_cutAround_b4c (F := F) hC ih hE
def fX8_cutAround (F : Nat) (L : HL) (a0 : Nat) (x1 : Int32) : Option (Int32 × HL) := (o_ob L a0 7).bind fun _ => fX8_cutAround_b4 F F a0 x1 0 0 L
theorem oX8_cutAround {F : Nat} {L : HL} {a0 : Nat} {x1 : Int32} {z : (Int32 × HL)} (hE : fX8_cutAround F L a0 x1 = some z) : o_ob L a0 7 = some () := by
  obtain ⟨_, h, _⟩ := Option.bind_eq_some_iff.mp hE
  exact h
set_option maxHeartbeats 4000000 in
set_option maxRecDepth 100000 in
theorem sX8_cutAround (l : Launch) (b0 : Nat) (D : va_G) (cA : Nat → ClassId) {F : Nat} {L : HL} {a0 : Nat} {x1 : Int32} {z : (Int32 × HL)} (hE : fX8_cutAround F L a0 x1 = some z) : Met l yX8_cutAround wsX8_cutAround (RM 2 0 0) (Pk b0 D cA [.ref (b0 + a0), .int x1] L) (Qk b0 D cA (some (.int z.1)) z.2) 0 0 (Ab b0) := by
  refine Met.ofW (cc := cX8_cutAround) (maxL := 4) (ret := (some .int)) (by decide) rfl ?_
  intro p ev s m args below meth c s₁ B hml hv
  obtain ⟨rfl, hH, hK⟩ := hv
  have hx := B.exec
  have hb := B.bytes
  have hr := B.returns
  have hts := atoms_spec (ws := wsX8_cutAround) B.pre
  have hown : s.vm.findClass RX8 = some m.cls := findClass_of_methodNamed B.named
  have hlocks := B.notSynchronized
  have hC : Cx D cA p s m _ meth c cX8_cutAround 4 RX8 wsX8_cutAround (some .int) := ⟨hx, hb, hml, hown, hts, hK, hr, hlocks⟩
  have hS : va_S (Ab b0) s.heap s.heap [] := va_S.rf
  have hl := lv_entry ([.ref (b0 + a0), .int x1]) (n := 4) (Nat.le_of_ble_eq_true rfl)
  rw [lg_entry_eq]
  generalize (lg_sl ([.ref (b0 + a0), .int x1]) ++ List.replicate (4 - (lg_sl ([.ref (b0 + a0), .int x1])).length) Slot.unset).toArray = ls at hl ⊢
  have hl : lv_has ls 4 [(0, .ref (b0 + a0)), (1, .int x1)] := hl
  unfold fX8_cutAround at hE
  obtain ⟨_, _, hE⟩ := Option.bind_eq_some_iff.mp hE
  refine lv_iconst (v := 0) hx hb dX8_cutAround_0 (by decide) ?_
  refine lv_istore_n (lv' := [(2, .int 0), (0, .ref (b0 + a0)), (1, .int x1)]) hx hb dX8_cutAround_1 rfl hl (by decide) rfl (fun ls hl => ?_)
  refine lv_iconst (v := 0) hx hb dX8_cutAround_2 (by decide) ?_
  refine lv_istore_n (lv' := [(3, .int 0), (2, .int 0), (0, .ref (b0 + a0)), (1, .int x1)]) hx hb dX8_cutAround_3 rfl hl (by decide) rfl (fun ls hl => ?_)
  exact sX8_cutAround_b4 (F := F) hC F _ _ _ _ _ hE _ _ _ hH hS (lv_sub hl [2, 3, 1, 0] rfl)
-- X8_leastCut
def fX8_leastCut_b50 (F : Nat) (k6 : Nat → Int32 → Int32 → Int32 → Int32 → HL → Option (Int32 × HL)) (a0 : Nat) (x1 : Int32) (x2 : Int32) (x3 : Int32) (x4 : Int32) (L : HL) : Option (Int32 × HL) := k6 a0 x1 x2 x3 (x4 + 1) L
set_option maxHeartbeats 4000000 in
set_option maxRecDepth 100000 in
theorem sX8_leastCut_b50 {b0 : Nat} {D : va_G} {cA : Nat → ClassId} {p : Program} {l : Launch} {ev : Env} {s : State} {m : MethodId} {args : Array Value} {below : List Frame} {meth : Method} {c : Code} {F : Nat} {z : (Int32 × HL)} {k6 : Nat → Int32 → Int32 → Int32 → Int32 → HL → Option (Int32 × HL)} {a0 : Nat} {x1 : Int32} {x2 : Int32} {x3 : Int32} {x4 : Int32} {L : HL} (hC : Cx D cA p s m args meth c cX8_leastCut 5 RX8 wsX8_leastCut (some .int)) (hk6 : ∀ (a0' : Nat) (x1' : Int32) (x2' : Int32) (x3' : Int32) (x4' : Int32) (L' : HL), k6 a0' x1' x2' x3' x4' L' = some z → WB b0 D cA p l ev (RM 3 0 0) s m args below meth c 5 0 0 (MQ below (Qk b0 D cA (some (.int z.1)) z.2) args s 0 0 (Ab b0)) 6 [(0, .ref (b0 + a0')), (1, .int x1'), (2, .int x2'), (3, .int x3'), (4, .int x4')] [] L') (hE : fX8_leastCut_b50 F k6 a0 x1 x2 x3 x4 L = some z) : WB b0 D cA p l ev (RM 3 0 0) s m args below meth c 5 0 0 (MQ below (Qk b0 D cA (some (.int z.1)) z.2) args s 0 0 (Ab b0)) 50 [(0, .ref (b0 + a0)), (1, .int x1), (2, .int x2), (3, .int x3), (4, .int x4)] [] L := by
  obtain ⟨hx, hb, hml, hown, hts, hK, hr, hlocks⟩ := id hC
  intro H locs ls hH hS hl
  unfold fX8_leastCut_b50 at hE
  refine lv_iinc (v := (x4 + 1)) (lv' := [(4, .int (x4 + 1)), (0, .ref (b0 + a0)), (1, .int x1), (2, .int x2), (3, .int x3)]) hx hb dX8_leastCut_50 hl (k := 4) rfl rfl (by decide) rfl (fun ls hl => ?_)
  refine lv_goto (tgt := 6) hx hb dX8_leastCut_53 (by decide) ?_
  exact hk6 _ _ _ _ _ _ hE _ _ _ hH hS (lv_sub hl [1, 2, 3, 4, 0] rfl)
def fX8_leastCut_b6c (F : Nat) (k6 : Nat → Int32 → Int32 → Int32 → Int32 → HL → Option (Int32 × HL)) (a0 : Nat) (x1 : Int32) (x2 : Int32) (x3 : Int32) (x4 : Int32) (L : HL) : Option (Int32 × HL) := (o_gR L a0 7 0).bind fun v1 => (o_gI L v1 4 0).bind fun v2 => (fX5_allOf F L v2).bind fun z3 => if z3.1 < x4 then (some (x3, z3.2)) else ((fX5_has F z3.2 x4 x1).bind fun z5 => if z5.1 = 0 then (fX8_leastCut_b50 F k6 a0 x1 x2 x3 x4 z5.2) else ((fX5_has F z5.2 x4 x2).bind fun z7 => if z7.1 = 0 then ((fX8_cutAround F z7.2 a0 x4).bind fun z9 => fX8_leastCut_b50 F k6 a0 x1 x2 (if z9.1 < x3 then z9.1 else x3) x4 z9.2) else (fX8_leastCut_b50 F k6 a0 x1 x2 x3 x4 z7.2)))
def fX8_leastCut_b6 (F : Nat) : Nat → Nat → Int32 → Int32 → Int32 → Int32 → HL → Option (Int32 × HL)
  | 0 => fun _ _ _ _ _ _ => none
  | n + 1 => fun a0 x1 x2 x3 x4 L => fX8_leastCut_b6c F (fX8_leastCut_b6 F n) a0 x1 x2 x3 x4 L
set_option maxHeartbeats 4000000 in
set_option maxRecDepth 100000 in
theorem sX8_leastCut_b6c {b0 : Nat} {D : va_G} {cA : Nat → ClassId} {p : Program} {l : Launch} {ev : Env} {s : State} {m : MethodId} {args : Array Value} {below : List Frame} {meth : Method} {c : Code} {F : Nat} {z : (Int32 × HL)} {k6 : Nat → Int32 → Int32 → Int32 → Int32 → HL → Option (Int32 × HL)} {a0 : Nat} {x1 : Int32} {x2 : Int32} {x3 : Int32} {x4 : Int32} {L : HL} (hC : Cx D cA p s m args meth c cX8_leastCut 5 RX8 wsX8_leastCut (some .int)) (hk6 : ∀ (a0' : Nat) (x1' : Int32) (x2' : Int32) (x3' : Int32) (x4' : Int32) (L' : HL), k6 a0' x1' x2' x3' x4' L' = some z → WB b0 D cA p l ev (RM 3 0 0) s m args below meth c 5 0 0 (MQ below (Qk b0 D cA (some (.int z.1)) z.2) args s 0 0 (Ab b0)) 6 [(0, .ref (b0 + a0')), (1, .int x1'), (2, .int x2'), (3, .int x3'), (4, .int x4')] [] L') (hE : fX8_leastCut_b6c F k6 a0 x1 x2 x3 x4 L = some z) : WB b0 D cA p l ev (RM 3 0 0) s m args below meth c 5 0 0 (MQ below (Qk b0 D cA (some (.int z.1)) z.2) args s 0 0 (Ab b0)) 6 [(0, .ref (b0 + a0)), (1, .int x1), (2, .int x2), (3, .int x3), (4, .int x4)] [] L := by
  obtain ⟨hx, hb, hml, hown, hts, hK, hr, hlocks⟩ := id hC
  intro H locs ls hH hS hl
  unfold fX8_leastCut_b6c at hE
  refine lv_iload hx hb dX8_leastCut_6 (lv_at hl 4 rfl) ?_
  refine lv_aload_n hx hb dX8_leastCut_8 rfl (lv_at hl 0 rfl) ?_
  obtain ⟨v1, hv1, hE⟩ := Option.bind_eq_some_iff.mp hE
  refine r_gR 0 (C := RX8) (T := TX8) (N := 2) (ci := 7) hx hb hts (by decide +kernel) hown hK hH hv1 rfl (by decide) (hts (.fieldLink RX8 14 "KindStreets$Ways" "plan" "LKindStreets$Plan;") (by decide +kernel)) (fun _ h9 => h9) dX8_leastCut_9 ?_
  obtain ⟨v2, hv2, hE⟩ := Option.bind_eq_some_iff.mp hE
  refine r_gI 0 (C := RX4) (T := TX4) (N := 9) (ci := 4) hx hb hts (by decide +kernel) hown hK hH hv2 rfl (by decide) (hts (.fieldLink RX8 26 "KindStreets$Plan" "yards" "I") (by decide +kernel)) (u_same (hts (.sameField "KindStreets$Plan" "KindStreets$Town" "yards" "I") (by decide +kernel))) dX8_leastCut_12 ?_
  obtain ⟨z3, hz3, hE⟩ := Option.bind_eq_some_iff.mp hE
  refine r_callI (va_runS (As := [.int v2]) (rest := [.int x4]) ⟨hx, hb, hml, hown, hts⟩ (sX5_allOf l b0 D cA hz3) (va_cwS 1 hts gX8_leastCut_X5_allOf rfl rfl rfl (by decide +kernel) (rm_ok (by decide) (by decide))) (pre_S hK hH) rfl rfl hl.1 rfl (lv_room (Nat.le_of_ble_eq_true rfl)) dX8_leastCut_15 ⟨Nat.zero_le _, Nat.zero_le _⟩) hS (fun H locs hH hS => ?_)
  refine lv_icmp_gt (tgt := 56) hx hb dX8_leastCut_18 (by decide) (fun c4 => ?_) (fun c4 => ?_)
  · rw [if_pos c4] at hE
    refine lv_iload_n hx hb dX8_leastCut_56 rfl (lv_at hl 3 rfl) ?_
    have hZ := Option.some.inj hE
    subst hZ
    exact W.iret (v := x3) hx hb hr (fun t ht hW => ⟨rfl, by rw [ht]; exact hH, hS.F ht⟩) hS.2.2 dX8_leastCut_57
  · rw [if_neg c4] at hE
    refine lv_iload hx hb dX8_leastCut_21 (lv_at hl 4 rfl) ?_
    refine lv_iload_n hx hb dX8_leastCut_23 rfl (lv_at hl 1 rfl) ?_
    obtain ⟨z5, hz5, hE⟩ := Option.bind_eq_some_iff.mp hE
    refine r_callI (va_runS (As := [.int x4, .int x1]) (rest := []) ⟨hx, hb, hml, hown, hts⟩ (sX5_has l b0 D cA hz5) (va_cwS 2 hts gX8_leastCut_X5_has rfl rfl rfl (by decide +kernel) (rm_ok (by decide) (by decide))) (pre_S hK hH) rfl rfl hl.1 rfl (lv_room (Nat.le_of_ble_eq_true rfl)) dX8_leastCut_24 ⟨Nat.zero_le _, Nat.zero_le _⟩) hS (fun H locs hH hS => ?_)
    refine lv_if_eq (tgt := 50) hx hb dX8_leastCut_27 (by decide) (fun c6 => ?_) (fun c6 => ?_)
    · rw [if_pos c6] at hE
      exact sX8_leastCut_b50 (F := F) hC hk6 hE _ _ _ hH hS (lv_sub hl [0, 1, 2, 3, 4] rfl)
    · rw [if_neg c6] at hE
      refine lv_iload hx hb dX8_leastCut_30 (lv_at hl 4 rfl) ?_
      refine lv_iload_n hx hb dX8_leastCut_32 rfl (lv_at hl 2 rfl) ?_
      obtain ⟨z7, hz7, hE⟩ := Option.bind_eq_some_iff.mp hE
      refine r_callI (va_runS (As := [.int x4, .int x2]) (rest := []) ⟨hx, hb, hml, hown, hts⟩ (sX5_has l b0 D cA hz7) (va_cwS 2 hts gX8_leastCut_X5_has rfl rfl rfl (by decide +kernel) (rm_ok (by decide) (by decide))) (pre_S hK hH) rfl rfl hl.1 rfl (lv_room (Nat.le_of_ble_eq_true rfl)) dX8_leastCut_33 ⟨Nat.zero_le _, Nat.zero_le _⟩) hS (fun H locs hH hS => ?_)
      refine lv_if_ne (tgt := 50) hx hb dX8_leastCut_36 (by decide) (fun c8 => ?_) (fun c8 => ?_)
      · rw [if_neg c8] at hE
        exact sX8_leastCut_b50 (F := F) hC hk6 hE _ _ _ hH hS (lv_sub hl [0, 1, 2, 3, 4] rfl)
      · rw [if_pos c8] at hE
        refine lv_iload_n hx hb dX8_leastCut_39 rfl (lv_at hl 3 rfl) ?_
        refine lv_aload_n hx hb dX8_leastCut_40 rfl (lv_at hl 0 rfl) ?_
        refine lv_iload hx hb dX8_leastCut_41 (lv_at hl 4 rfl) ?_
        obtain ⟨z9, hz9, hE⟩ := Option.bind_eq_some_iff.mp hE
        refine r_callI (va_runV (As := [.int x4]) (rest := [.int x3]) ⟨hx, hb, hml, hown, hts⟩ (sX8_cutAround l b0 D cA hz9) (cwV 1 hts gX8_leastCut_X8_cutAround rfl rfl rfl (by decide +kernel) (rm_ok (by decide) (by decide))) (pre_V (ci := 7) hK hH (oX8_cutAround hz9) rfl) rfl rfl hl.1 rfl (lv_room (Nat.le_of_ble_eq_true rfl)) dX8_leastCut_43 ⟨Nat.zero_le _, Nat.zero_le _⟩) hS (fun H locs hH hS => ?_)
        refine va_mmin hx hb (hml.trans hl.1.symm) hown (hts (.methodLink RX8 57 Lib.Math.min.name) (by decide +kernel)) (hts (.static Lib.Math.min.name) (by decide +kernel)) (hts (.initialized "java/lang/Math") (by decide +kernel)) (hts (.code Lib.Math.min.name Lib.Math.min.code 2 (some .int)) (by decide +kernel)) (by decide) (Nat.le_of_ble_eq_true rfl) (by decide) (by decide) dX8_leastCut_46 ?_
        refine lv_istore_n (lv' := [(3, .int (if z9.1 < x3 then z9.1 else x3)), (0, .ref (b0 + a0)), (1, .int x1), (2, .int x2), (4, .int x4)]) hx hb dX8_leastCut_49 rfl hl (by decide) rfl (fun ls hl => ?_)
        exact sX8_leastCut_b50 (F := F) hC hk6 hE _ _ _ hH hS (lv_sub hl [1, 2, 3, 0, 4] rfl)
theorem sX8_leastCut_b6 {b0 : Nat} {D : va_G} {cA : Nat → ClassId} {p : Program} {l : Launch} {ev : Env} {s : State} {m : MethodId} {args : Array Value} {below : List Frame} {meth : Method} {c : Code} {F : Nat} {z : (Int32 × HL)} (hC : Cx D cA p s m args meth c cX8_leastCut 5 RX8 wsX8_leastCut (some .int)) : ∀ (n : Nat) (a0 : Nat) (x1 : Int32) (x2 : Int32) (x3 : Int32) (x4 : Int32) (L : HL), fX8_leastCut_b6 F n a0 x1 x2 x3 x4 L = some z → WB b0 D cA p l ev (RM 3 0 0) s m args below meth c 5 0 0 (MQ below (Qk b0 D cA (some (.int z.1)) z.2) args s 0 0 (Ab b0)) 6 [(0, .ref (b0 + a0)), (1, .int x1), (2, .int x2), (3, .int x3), (4, .int x4)] [] L := by
  intro n
  induction n with
  | zero => intro a0 x1 x2 x3 x4 L hE; cases hE
  | succ n ih => intro a0 x1 x2 x3 x4 L hE; exact sX8_leastCut_b6c (F := F) hC ih hE
def fX8_leastCut (F : Nat) (L : HL) (a0 : Nat) (x1 : Int32) (x2 : Int32) : Option (Int32 × HL) := (o_ob L a0 7).bind fun _ => fX8_leastCut_b6 F F a0 x1 x2 1073741824 0 L
theorem oX8_leastCut {F : Nat} {L : HL} {a0 : Nat} {x1 : Int32} {x2 : Int32} {z : (Int32 × HL)} (hE : fX8_leastCut F L a0 x1 x2 = some z) : o_ob L a0 7 = some () := by
  obtain ⟨_, h, _⟩ := Option.bind_eq_some_iff.mp hE
  exact h
set_option maxHeartbeats 4000000 in
set_option maxRecDepth 100000 in
theorem sX8_leastCut (l : Launch) (b0 : Nat) (D : va_G) (cA : Nat → ClassId) {F : Nat} {L : HL} {a0 : Nat} {x1 : Int32} {x2 : Int32} {z : (Int32 × HL)} (hE : fX8_leastCut F L a0 x1 x2 = some z) : Met l yX8_leastCut wsX8_leastCut (RM 3 0 0) (Pk b0 D cA [.ref (b0 + a0), .int x1, .int x2] L) (Qk b0 D cA (some (.int z.1)) z.2) 0 0 (Ab b0) := by
  refine Met.ofW (cc := cX8_leastCut) (maxL := 5) (ret := (some .int)) (by decide) rfl ?_
  intro p ev s m args below meth c s₁ B hml hv
  obtain ⟨rfl, hH, hK⟩ := hv
  have hx := B.exec
  have hb := B.bytes
  have hr := B.returns
  have hts := atoms_spec (ws := wsX8_leastCut) B.pre
  have hown : s.vm.findClass RX8 = some m.cls := findClass_of_methodNamed B.named
  have hlocks := B.notSynchronized
  have hC : Cx D cA p s m _ meth c cX8_leastCut 5 RX8 wsX8_leastCut (some .int) := ⟨hx, hb, hml, hown, hts, hK, hr, hlocks⟩
  have hS : va_S (Ab b0) s.heap s.heap [] := va_S.rf
  have hl := lv_entry ([.ref (b0 + a0), .int x1, .int x2]) (n := 5) (Nat.le_of_ble_eq_true rfl)
  rw [lg_entry_eq]
  generalize (lg_sl ([.ref (b0 + a0), .int x1, .int x2]) ++ List.replicate (5 - (lg_sl ([.ref (b0 + a0), .int x1, .int x2])).length) Slot.unset).toArray = ls at hl ⊢
  have hl : lv_has ls 5 [(0, .ref (b0 + a0)), (1, .int x1), (2, .int x2)] := hl
  unfold fX8_leastCut at hE
  obtain ⟨_, _, hE⟩ := Option.bind_eq_some_iff.mp hE
  refine lv_ldc hx hb hown (hts (.constant RX8 50 (1073741824)) (by decide +kernel)) dX8_leastCut_0 ?_
  refine lv_istore_n (lv' := [(3, .int 1073741824), (0, .ref (b0 + a0)), (1, .int x1), (2, .int x2)]) hx hb dX8_leastCut_2 rfl hl (by decide) rfl (fun ls hl => ?_)
  refine lv_iconst (v := 0) hx hb dX8_leastCut_3 (by decide) ?_
  refine lv_istore (lv' := [(4, .int 0), (3, .int 1073741824), (0, .ref (b0 + a0)), (1, .int x1), (2, .int x2)]) hx hb dX8_leastCut_4 hl (by decide) rfl (fun ls hl => ?_)
  exact sX8_leastCut_b6 (F := F) hC F _ _ _ _ _ _ hE _ _ _ hH hS (lv_sub hl [2, 3, 4, 1, 0] rfl)
-- X8_goBothWays
def fX8_goBothWays (F : Nat) (L : HL) (a0 : Nat) (x1 : Int32) (x2 : Int32) : Option HL := (o_ob L a0 7).bind fun _ => (o_gR L a0 7 0).bind fun v1 => (o_gR L v1 4 3).bind fun v2 => (o_aI L v2 0 x1).bind fun v3 => (o_gR L a0 7 0).bind fun v4 => (o_gR L v4 4 4).bind fun v5 => (o_aI L v5 0 x1).bind fun v6 => (o_gR L a0 7 1).bind fun v7 => (o_gR L a0 7 1).bind fun v8 => (o_aI L v8 0 v3).bind fun v9 => (o_gR L a0 7 1).bind fun v10 => (o_aI L v10 0 v6).bind fun v11 => (o_sI L v7 0 v3 (if (v11 + x2) < v9 then (v11 + x2) else v9)).bind fun L12 => (o_gR L12 a0 7 1).bind fun v13 => (o_gR L12 a0 7 1).bind fun v14 => (o_aI L12 v14 0 v6).bind fun v15 => (o_gR L12 a0 7 1).bind fun v16 => (o_aI L12 v16 0 v3).bind fun v17 => (o_sI L12 v13 0 v6 (if (v17 + x2) < v15 then (v17 + x2) else v15)).bind fun L18 => some L18
theorem oX8_goBothWays {F : Nat} {L : HL} {a0 : Nat} {x1 : Int32} {x2 : Int32} {z : HL} (hE : fX8_goBothWays F L a0 x1 x2 = some z) : o_ob L a0 7 = some () := by
  obtain ⟨_, h, _⟩ := Option.bind_eq_some_iff.mp hE
  exact h
set_option maxHeartbeats 4000000 in
set_option maxRecDepth 100000 in
theorem sX8_goBothWays (l : Launch) (b0 : Nat) (D : va_G) (cA : Nat → ClassId) {F : Nat} {L : HL} {a0 : Nat} {x1 : Int32} {x2 : Int32} {z : HL} (hE : fX8_goBothWays F L a0 x1 x2 = some z) : Met l yX8_goBothWays wsX8_goBothWays (RM 1 0 0) (Pk b0 D cA [.ref (b0 + a0), .int x1, .int x2] L) (Qk b0 D cA none z) 0 0 (Ab b0) := by
  refine Met.ofW (cc := cX8_goBothWays) (maxL := 5) (ret := none) (by decide) rfl ?_
  intro p ev s m args below meth c s₁ B hml hv
  obtain ⟨rfl, hH, hK⟩ := hv
  have hx := B.exec
  have hb := B.bytes
  have hr := B.returns
  have hts := atoms_spec (ws := wsX8_goBothWays) B.pre
  have hown : s.vm.findClass RX8 = some m.cls := findClass_of_methodNamed B.named
  have hlocks := B.notSynchronized
  have hC : Cx D cA p s m _ meth c cX8_goBothWays 5 RX8 wsX8_goBothWays none := ⟨hx, hb, hml, hown, hts, hK, hr, hlocks⟩
  have hS : va_S (Ab b0) s.heap s.heap [] := va_S.rf
  have hl := lv_entry ([.ref (b0 + a0), .int x1, .int x2]) (n := 5) (Nat.le_of_ble_eq_true rfl)
  rw [lg_entry_eq]
  generalize (lg_sl ([.ref (b0 + a0), .int x1, .int x2]) ++ List.replicate (5 - (lg_sl ([.ref (b0 + a0), .int x1, .int x2])).length) Slot.unset).toArray = ls at hl ⊢
  have hl : lv_has ls 5 [(0, .ref (b0 + a0)), (1, .int x1), (2, .int x2)] := hl
  unfold fX8_goBothWays at hE
  obtain ⟨_, _, hE⟩ := Option.bind_eq_some_iff.mp hE
  refine lv_aload_n hx hb dX8_goBothWays_0 rfl (lv_at hl 0 rfl) ?_
  obtain ⟨v1, hv1, hE⟩ := Option.bind_eq_some_iff.mp hE
  refine r_gR 0 (C := RX8) (T := TX8) (N := 2) (ci := 7) hx hb hts (by decide +kernel) hown hK hH hv1 rfl (by decide) (hts (.fieldLink RX8 14 "KindStreets$Ways" "plan" "LKindStreets$Plan;") (by decide +kernel)) (fun _ h9 => h9) dX8_goBothWays_1 ?_
  obtain ⟨v2, hv2, hE⟩ := Option.bind_eq_some_iff.mp hE
  refine r_gR 3 (C := RX4) (T := TX4) (N := 9) (ci := 4) hx hb hts (by decide +kernel) hown hK hH hv2 rfl (by decide) (hts (.fieldLink RX8 75 "KindStreets$Plan" "one" "[I") (by decide +kernel)) (u_same (hts (.sameField "KindStreets$Plan" "KindStreets$Town" "one" "[I") (by decide +kernel))) dX8_goBothWays_4 ?_
  refine lv_iload_n hx hb dX8_goBothWays_7 rfl (lv_at hl 1 rfl) ?_
  obtain ⟨v3, hv3, hE⟩ := Option.bind_eq_some_iff.mp hE
  refine r_iald hx hb hK hH hv3 dX8_goBothWays_8 ?_
  refine lv_istore_n (lv' := [(3, .int v3), (0, .ref (b0 + a0)), (1, .int x1), (2, .int x2)]) hx hb dX8_goBothWays_9 rfl hl (by decide) rfl (fun ls hl => ?_)
  refine lv_aload_n hx hb dX8_goBothWays_10 rfl (lv_at hl 1 rfl) ?_
  obtain ⟨v4, hv4, hE⟩ := Option.bind_eq_some_iff.mp hE
  refine r_gR 0 (C := RX8) (T := TX8) (N := 2) (ci := 7) hx hb hts (by decide +kernel) hown hK hH hv4 rfl (by decide) (hts (.fieldLink RX8 14 "KindStreets$Ways" "plan" "LKindStreets$Plan;") (by decide +kernel)) (fun _ h9 => h9) dX8_goBothWays_11 ?_
  obtain ⟨v5, hv5, hE⟩ := Option.bind_eq_some_iff.mp hE
  refine r_gR 4 (C := RX4) (T := TX4) (N := 9) (ci := 4) hx hb hts (by decide +kernel) hown hK hH hv5 rfl (by decide) (hts (.fieldLink RX8 78 "KindStreets$Plan" "other" "[I") (by decide +kernel)) (u_same (hts (.sameField "KindStreets$Plan" "KindStreets$Town" "other" "[I") (by decide +kernel))) dX8_goBothWays_14 ?_
  refine lv_iload_n hx hb dX8_goBothWays_17 rfl (lv_at hl 2 rfl) ?_
  obtain ⟨v6, hv6, hE⟩ := Option.bind_eq_some_iff.mp hE
  refine r_iald hx hb hK hH hv6 dX8_goBothWays_18 ?_
  refine lv_istore (lv' := [(4, .int v6), (3, .int v3), (0, .ref (b0 + a0)), (1, .int x1), (2, .int x2)]) hx hb dX8_goBothWays_19 hl (by decide) rfl (fun ls hl => ?_)
  refine lv_aload_n hx hb dX8_goBothWays_21 rfl (lv_at hl 2 rfl) ?_
  obtain ⟨v7, hv7, hE⟩ := Option.bind_eq_some_iff.mp hE
  refine r_gR 1 (C := RX8) (T := TX8) (N := 2) (ci := 7) hx hb hts (by decide +kernel) hown hK hH hv7 rfl (by decide) (hts (.fieldLink RX8 18 "KindStreets$Ways" "price" "[I") (by decide +kernel)) (fun _ h9 => h9) dX8_goBothWays_22 ?_
  refine lv_iload_n hx hb dX8_goBothWays_25 rfl (lv_at hl 1 rfl) ?_
  refine lv_aload_n hx hb dX8_goBothWays_26 rfl (lv_at hl 2 rfl) ?_
  obtain ⟨v8, hv8, hE⟩ := Option.bind_eq_some_iff.mp hE
  refine r_gR 1 (C := RX8) (T := TX8) (N := 2) (ci := 7) hx hb hts (by decide +kernel) hown hK hH hv8 rfl (by decide) (hts (.fieldLink RX8 18 "KindStreets$Ways" "price" "[I") (by decide +kernel)) (fun _ h9 => h9) dX8_goBothWays_27 ?_
  refine lv_iload_n hx hb dX8_goBothWays_30 rfl (lv_at hl 1 rfl) ?_
  obtain ⟨v9, hv9, hE⟩ := Option.bind_eq_some_iff.mp hE
  refine r_iald hx hb hK hH hv9 dX8_goBothWays_31 ?_
  refine lv_aload_n hx hb dX8_goBothWays_32 rfl (lv_at hl 2 rfl) ?_
  obtain ⟨v10, hv10, hE⟩ := Option.bind_eq_some_iff.mp hE
  refine r_gR 1 (C := RX8) (T := TX8) (N := 2) (ci := 7) hx hb hts (by decide +kernel) hown hK hH hv10 rfl (by decide) (hts (.fieldLink RX8 18 "KindStreets$Ways" "price" "[I") (by decide +kernel)) (fun _ h9 => h9) dX8_goBothWays_33 ?_
  refine lv_iload hx hb dX8_goBothWays_36 (lv_at hl 0 rfl) ?_
  obtain ⟨v11, hv11, hE⟩ := Option.bind_eq_some_iff.mp hE
  refine r_iald hx hb hK hH hv11 dX8_goBothWays_38 ?_
  refine lv_iload_n hx hb dX8_goBothWays_39 rfl (lv_at hl 4 rfl) ?_
  refine lv_iadd hx hb dX8_goBothWays_40 ?_
  refine va_mmin hx hb (hml.trans hl.1.symm) hown (hts (.methodLink RX8 57 Lib.Math.min.name) (by decide +kernel)) (hts (.static Lib.Math.min.name) (by decide +kernel)) (hts (.initialized "java/lang/Math") (by decide +kernel)) (hts (.code Lib.Math.min.name Lib.Math.min.code 2 (some .int)) (by decide +kernel)) (by decide) (Nat.le_of_ble_eq_true rfl) (by decide) (by decide) dX8_goBothWays_41 ?_
  obtain ⟨L12, hL12, hE⟩ := Option.bind_eq_some_iff.mp hE
  refine r_iast hx hb hK hH hS hL12 dX8_goBothWays_44 (fun H locs hH hS => ?_)
  refine lv_aload_n hx hb dX8_goBothWays_45 rfl (lv_at hl 2 rfl) ?_
  obtain ⟨v13, hv13, hE⟩ := Option.bind_eq_some_iff.mp hE
  refine r_gR 1 (C := RX8) (T := TX8) (N := 2) (ci := 7) hx hb hts (by decide +kernel) hown hK hH hv13 rfl (by decide) (hts (.fieldLink RX8 18 "KindStreets$Ways" "price" "[I") (by decide +kernel)) (fun _ h9 => h9) dX8_goBothWays_46 ?_
  refine lv_iload hx hb dX8_goBothWays_49 (lv_at hl 0 rfl) ?_
  refine lv_aload_n hx hb dX8_goBothWays_51 rfl (lv_at hl 2 rfl) ?_
  obtain ⟨v14, hv14, hE⟩ := Option.bind_eq_some_iff.mp hE
  refine r_gR 1 (C := RX8) (T := TX8) (N := 2) (ci := 7) hx hb hts (by decide +kernel) hown hK hH hv14 rfl (by decide) (hts (.fieldLink RX8 18 "KindStreets$Ways" "price" "[I") (by decide +kernel)) (fun _ h9 => h9) dX8_goBothWays_52 ?_
  refine lv_iload hx hb dX8_goBothWays_55 (lv_at hl 0 rfl) ?_
  obtain ⟨v15, hv15, hE⟩ := Option.bind_eq_some_iff.mp hE
  refine r_iald hx hb hK hH hv15 dX8_goBothWays_57 ?_
  refine lv_aload_n hx hb dX8_goBothWays_58 rfl (lv_at hl 2 rfl) ?_
  obtain ⟨v16, hv16, hE⟩ := Option.bind_eq_some_iff.mp hE
  refine r_gR 1 (C := RX8) (T := TX8) (N := 2) (ci := 7) hx hb hts (by decide +kernel) hown hK hH hv16 rfl (by decide) (hts (.fieldLink RX8 18 "KindStreets$Ways" "price" "[I") (by decide +kernel)) (fun _ h9 => h9) dX8_goBothWays_59 ?_
  refine lv_iload_n hx hb dX8_goBothWays_62 rfl (lv_at hl 1 rfl) ?_
  obtain ⟨v17, hv17, hE⟩ := Option.bind_eq_some_iff.mp hE
  refine r_iald hx hb hK hH hv17 dX8_goBothWays_63 ?_
  refine lv_iload_n hx hb dX8_goBothWays_64 rfl (lv_at hl 4 rfl) ?_
  refine lv_iadd hx hb dX8_goBothWays_65 ?_
  refine va_mmin hx hb (hml.trans hl.1.symm) hown (hts (.methodLink RX8 57 Lib.Math.min.name) (by decide +kernel)) (hts (.static Lib.Math.min.name) (by decide +kernel)) (hts (.initialized "java/lang/Math") (by decide +kernel)) (hts (.code Lib.Math.min.name Lib.Math.min.code 2 (some .int)) (by decide +kernel)) (by decide) (Nat.le_of_ble_eq_true rfl) (by decide) (by decide) dX8_goBothWays_66 ?_
  obtain ⟨L18, hL18, hE⟩ := Option.bind_eq_some_iff.mp hE
  refine r_iast hx hb hK hH hS hL18 dX8_goBothWays_69 (fun H locs hH hS => ?_)
  have hZ := Option.some.inj hE
  subst hZ
  exact W.vret hx hb hr (fun t ht hW => ⟨rfl, by rw [ht]; exact hH, hS.F ht⟩) hS.2.2 dX8_goBothWays_70
-- X8_leastPrice
def fX8_leastPrice_b75 (F : Nat) (k34 : Nat → Int32 → Int32 → Int32 → Int32 → HL → Option (Int32 × HL)) (a0 : Nat) (x2 : Int32) (x3 : Int32) (x4 : Int32) (x5 : Int32) (y0 : Int32) (y1 : Int32) (y2 : Nat) (L : HL) : Option (Int32 × HL) := (fX8_goBothWays F L y2 y1 y0).bind fun z17 => k34 a0 x2 x3 x4 (x5 + 1) z17
set_option maxHeartbeats 4000000 in
set_option maxRecDepth 100000 in
theorem sX8_leastPrice_b75 {b0 : Nat} {D : va_G} {cA : Nat → ClassId} {p : Program} {l : Launch} {ev : Env} {s : State} {m : MethodId} {args : Array Value} {below : List Frame} {meth : Method} {c : Code} {F : Nat} {z : (Int32 × HL)} {k34 : Nat → Int32 → Int32 → Int32 → Int32 → HL → Option (Int32 × HL)} {a0 : Nat} {x2 : Int32} {x3 : Int32} {x4 : Int32} {x5 : Int32} {y0 : Int32} {y1 : Int32} {y2 : Nat} {L : HL} (hC : Cx D cA p s m args meth c cX8_leastPrice 6 RX8 wsX8_leastPrice (some .int)) (hk34 : ∀ (a0' : Nat) (x2' : Int32) (x3' : Int32) (x4' : Int32) (x5' : Int32) (L' : HL), k34 a0' x2' x3' x4' x5' L' = some z → WB b0 D cA p l ev (RM 2 0 0) s m args below meth c 6 0 0 (MQ below (Qk b0 D cA (some (.int z.1)) z.2) args s 0 0 (Ab b0)) 34 [(0, .ref (b0 + a0')), (2, .int x2'), (3, .int x3'), (4, .int x4'), (5, .int x5')] [] L') (hE : fX8_leastPrice_b75 F k34 a0 x2 x3 x4 x5 y0 y1 y2 L = some z) : WB b0 D cA p l ev (RM 2 0 0) s m args below meth c 6 0 0 (MQ below (Qk b0 D cA (some (.int z.1)) z.2) args s 0 0 (Ab b0)) 75 [(0, .ref (b0 + a0)), (2, .int x2), (3, .int x3), (4, .int x4), (5, .int x5)] [.int y0, .int y1, .ref (b0 + y2)] L := by
  obtain ⟨hx, hb, hml, hown, hts, hK, hr, hlocks⟩ := id hC
  intro H locs ls hH hS hl
  unfold fX8_leastPrice_b75 at hE
  obtain ⟨z17, hz17, hE⟩ := Option.bind_eq_some_iff.mp hE
  refine r_callV (va_runV (As := [.int y1, .int y0]) (rest := []) ⟨hx, hb, hml, hown, hts⟩ (sX8_goBothWays l b0 D cA hz17) (cwV 2 hts gX8_leastPrice_X8_goBothWays rfl rfl rfl (by decide +kernel) (rm_ok (by decide) (by decide))) (pre_V (ci := 7) hK hH (oX8_goBothWays hz17) rfl) rfl rfl hl.1 rfl (lv_room (Nat.le_of_ble_eq_true rfl)) dX8_leastPrice_75 ⟨Nat.zero_le _, Nat.zero_le _⟩) hS (fun H locs hH hS => ?_)
  refine lv_iinc (v := (x5 + 1)) (lv' := [(5, .int (x5 + 1)), (0, .ref (b0 + a0)), (2, .int x2), (3, .int x3), (4, .int x4)]) hx hb dX8_leastPrice_78 hl (k := 4) rfl rfl (by decide) rfl (fun ls hl => ?_)
  refine lv_goto (tgt := 34) hx hb dX8_leastPrice_81 (by decide) ?_
  exact hk34 _ _ _ _ _ _ hE _ _ _ hH hS (lv_sub hl [1, 2, 3, 4, 0] rfl)
def fX8_leastPrice_b34c (F : Nat) (k19 : Nat → Int32 → Int32 → Int32 → HL → Option (Int32 × HL)) (k34 : Nat → Int32 → Int32 → Int32 → Int32 → HL → Option (Int32 × HL)) (a0 : Nat) (x2 : Int32) (x3 : Int32) (x4 : Int32) (x5 : Int32) (L : HL) : Option (Int32 × HL) := (o_gR L a0 7 0).bind fun v10 => (o_gI L v10 4 1).bind fun v11 => if v11 ≤ x5 then (k19 a0 x2 x3 (x4 + 1) L) else ((o_gR L a0 7 0).bind fun v13 => (o_gR L v13 4 8).bind fun v14 => (o_aI L v14 0 x5).bind fun v15 => if v15 < x3 then (fX8_leastPrice_b75 F k34 a0 x2 x3 x4 x5 (512 + ((1 : Int32) <<< (x5 &&& 31))) x5 a0 L) else (fX8_leastPrice_b75 F k34 a0 x2 x3 x4 x5 0 x5 a0 L))
def fX8_leastPrice_b34 (F : Nat) (k19 : Nat → Int32 → Int32 → Int32 → HL → Option (Int32 × HL)) : Nat → Nat → Int32 → Int32 → Int32 → Int32 → HL → Option (Int32 × HL)
  | 0 => fun _ _ _ _ _ _ => none
  | n + 1 => fun a0 x2 x3 x4 x5 L => fX8_leastPrice_b34c F k19 (fX8_leastPrice_b34 F k19 n) a0 x2 x3 x4 x5 L
set_option maxHeartbeats 4000000 in
set_option maxRecDepth 100000 in
theorem sX8_leastPrice_b34c {b0 : Nat} {D : va_G} {cA : Nat → ClassId} {p : Program} {l : Launch} {ev : Env} {s : State} {m : MethodId} {args : Array Value} {below : List Frame} {meth : Method} {c : Code} {F : Nat} {z : (Int32 × HL)} {k19 : Nat → Int32 → Int32 → Int32 → HL → Option (Int32 × HL)} {k34 : Nat → Int32 → Int32 → Int32 → Int32 → HL → Option (Int32 × HL)} {a0 : Nat} {x2 : Int32} {x3 : Int32} {x4 : Int32} {x5 : Int32} {L : HL} (hC : Cx D cA p s m args meth c cX8_leastPrice 6 RX8 wsX8_leastPrice (some .int)) (hk19 : ∀ (a0' : Nat) (x2' : Int32) (x3' : Int32) (x4' : Int32) (L' : HL), k19 a0' x2' x3' x4' L' = some z → WB b0 D cA p l ev (RM 2 0 0) s m args below meth c 6 0 0 (MQ below (Qk b0 D cA (some (.int z.1)) z.2) args s 0 0 (Ab b0)) 19 [(0, .ref (b0 + a0')), (2, .int x2'), (3, .int x3'), (4, .int x4')] [] L') (hk34 : ∀ (a0' : Nat) (x2' : Int32) (x3' : Int32) (x4' : Int32) (x5' : Int32) (L' : HL), k34 a0' x2' x3' x4' x5' L' = some z → WB b0 D cA p l ev (RM 2 0 0) s m args below meth c 6 0 0 (MQ below (Qk b0 D cA (some (.int z.1)) z.2) args s 0 0 (Ab b0)) 34 [(0, .ref (b0 + a0')), (2, .int x2'), (3, .int x3'), (4, .int x4'), (5, .int x5')] [] L') (hE : fX8_leastPrice_b34c F k19 k34 a0 x2 x3 x4 x5 L = some z) : WB b0 D cA p l ev (RM 2 0 0) s m args below meth c 6 0 0 (MQ below (Qk b0 D cA (some (.int z.1)) z.2) args s 0 0 (Ab b0)) 34 [(0, .ref (b0 + a0)), (2, .int x2), (3, .int x3), (4, .int x4), (5, .int x5)] [] L := by
  obtain ⟨hx, hb, hml, hown, hts, hK, hr, hlocks⟩ := id hC
  intro H locs ls hH hS hl
  unfold fX8_leastPrice_b34c at hE
  refine lv_iload hx hb dX8_leastPrice_34 (lv_at hl 4 rfl) ?_
  refine lv_aload_n hx hb dX8_leastPrice_36 rfl (lv_at hl 0 rfl) ?_
  obtain ⟨v10, hv10, hE⟩ := Option.bind_eq_some_iff.mp hE
  refine r_gR 0 (C := RX8) (T := TX8) (N := 2) (ci := 7) hx hb hts (by decide +kernel) hown hK hH hv10 rfl (by decide) (hts (.fieldLink RX8 14 "KindStreets$Ways" "plan" "LKindStreets$Plan;") (by decide +kernel)) (fun _ h9 => h9) dX8_leastPrice_37 ?_
  obtain ⟨v11, hv11, hE⟩ := Option.bind_eq_some_iff.mp hE
  refine r_gI 1 (C := RX4) (T := TX4) (N := 9) (ci := 4) hx hb hts (by decide +kernel) hown hK hH hv11 rfl (by decide) (hts (.fieldLink RX8 40 "KindStreets$Plan" "streets" "I") (by decide +kernel)) (u_same (hts (.sameField "KindStreets$Plan" "KindStreets$Town" "streets" "I") (by decide +kernel))) dX8_leastPrice_40 ?_
  refine lv_icmp_ge (tgt := 84) hx hb dX8_leastPrice_43 (by decide) (fun c12 => ?_) (fun c12 => ?_)
  · rw [if_pos c12] at hE
    refine lv_iinc (v := (x4 + 1)) (lv' := [(4, .int (x4 + 1)), (0, .ref (b0 + a0)), (2, .int x2), (3, .int x3), (5, .int x5)]) hx hb dX8_leastPrice_84 hl (k := 3) rfl rfl (by decide) rfl (fun ls hl => ?_)
    refine lv_goto (tgt := 19) hx hb dX8_leastPrice_87 (by decide) ?_
    exact hk19 _ _ _ _ _ hE _ _ _ hH hS (lv_sub hl [1, 2, 3, 0] rfl)
  · rw [if_neg c12] at hE
    refine lv_aload_n hx hb dX8_leastPrice_46 rfl (lv_at hl 0 rfl) ?_
    refine lv_iload hx hb dX8_leastPrice_47 (lv_at hl 4 rfl) ?_
    refine lv_aload_n hx hb dX8_leastPrice_49 rfl (lv_at hl 0 rfl) ?_
    obtain ⟨v13, hv13, hE⟩ := Option.bind_eq_some_iff.mp hE
    refine r_gR 0 (C := RX8) (T := TX8) (N := 2) (ci := 7) hx hb hts (by decide +kernel) hown hK hH hv13 rfl (by decide) (hts (.fieldLink RX8 14 "KindStreets$Ways" "plan" "LKindStreets$Plan;") (by decide +kernel)) (fun _ h9 => h9) dX8_leastPrice_50 ?_
    obtain ⟨v14, hv14, hE⟩ := Option.bind_eq_some_iff.mp hE
    refine r_gR 8 (C := RX4) (T := TX4) (N := 9) (ci := 4) hx hb hts (by decide +kernel) hown hK hH hv14 rfl (by decide) (hts (.fieldLink RX8 43 "KindStreets$Plan" "width" "[I") (by decide +kernel)) (fun _ h9 => h9) dX8_leastPrice_53 ?_
    refine lv_iload hx hb dX8_leastPrice_56 (lv_at hl 4 rfl) ?_
    obtain ⟨v15, hv15, hE⟩ := Option.bind_eq_some_iff.mp hE
    refine r_iald hx hb hK hH hv15 dX8_leastPrice_58 ?_
    refine lv_iload_n hx hb dX8_leastPrice_59 rfl (lv_at hl 2 rfl) ?_
    refine lv_icmp_lt (tgt := 67) hx hb dX8_leastPrice_60 (by decide) (fun c16 => ?_) (fun c16 => ?_)
    · rw [if_pos c16] at hE
      refine lv_sipush (v := 512) hx hb dX8_leastPrice_67 (by decide) ?_
      refine lv_iconst (v := 1) hx hb dX8_leastPrice_70 (by decide) ?_
      refine lv_iload hx hb dX8_leastPrice_71 (lv_at hl 4 rfl) ?_
      refine lv_ishl hx hb dX8_leastPrice_73 ?_
      refine lv_iadd hx hb dX8_leastPrice_74 ?_
      exact sX8_leastPrice_b75 (F := F) hC hk34 hE _ _ _ hH hS (lv_sub hl [0, 1, 2, 3, 4] rfl)
    · rw [if_neg c16] at hE
      refine lv_iconst (v := 0) hx hb dX8_leastPrice_63 (by decide) ?_
      refine lv_goto (tgt := 75) hx hb dX8_leastPrice_64 (by decide) ?_
      exact sX8_leastPrice_b75 (F := F) hC hk34 hE _ _ _ hH hS (lv_sub hl [0, 1, 2, 3, 4] rfl)
theorem sX8_leastPrice_b34 {b0 : Nat} {D : va_G} {cA : Nat → ClassId} {p : Program} {l : Launch} {ev : Env} {s : State} {m : MethodId} {args : Array Value} {below : List Frame} {meth : Method} {c : Code} {F : Nat} {z : (Int32 × HL)} {k19 : Nat → Int32 → Int32 → Int32 → HL → Option (Int32 × HL)} (hC : Cx D cA p s m args meth c cX8_leastPrice 6 RX8 wsX8_leastPrice (some .int)) (hk19 : ∀ (a0' : Nat) (x2' : Int32) (x3' : Int32) (x4' : Int32) (L' : HL), k19 a0' x2' x3' x4' L' = some z → WB b0 D cA p l ev (RM 2 0 0) s m args below meth c 6 0 0 (MQ below (Qk b0 D cA (some (.int z.1)) z.2) args s 0 0 (Ab b0)) 19 [(0, .ref (b0 + a0')), (2, .int x2'), (3, .int x3'), (4, .int x4')] [] L') : ∀ (n : Nat) (a0 : Nat) (x2 : Int32) (x3 : Int32) (x4 : Int32) (x5 : Int32) (L : HL), fX8_leastPrice_b34 F k19 n a0 x2 x3 x4 x5 L = some z → WB b0 D cA p l ev (RM 2 0 0) s m args below meth c 6 0 0 (MQ below (Qk b0 D cA (some (.int z.1)) z.2) args s 0 0 (Ab b0)) 34 [(0, .ref (b0 + a0)), (2, .int x2), (3, .int x3), (4, .int x4), (5, .int x5)] [] L := by
  intro n
  induction n with
  | zero => intro a0 x2 x3 x4 x5 L hE; cases hE
  | succ n ih => intro a0 x2 x3 x4 x5 L hE; exact sX8_leastPrice_b34c (F := F) hC hk19 ih hE
def fX8_leastPrice_b19c (F : Nat) (k19 : Nat → Int32 → Int32 → Int32 → HL → Option (Int32 × HL)) (a0 : Nat) (x2 : Int32) (x3 : Int32) (x4 : Int32) (L : HL) : Option (Int32 × HL) := (o_gR L a0 7 0).bind fun v5 => (o_gI L v5 4 0).bind fun v6 => if v6 ≤ x4 then ((o_gR L a0 7 1).bind fun v8 => (o_aI L v8 0 x2).bind fun v9 => some (v9, L)) else (fX8_leastPrice_b34 F k19 F a0 x2 x3 x4 0 L)
def fX8_leastPrice_b19 (F : Nat) : Nat → Nat → Int32 → Int32 → Int32 → HL → Option (Int32 × HL)
  | 0 => fun _ _ _ _ _ => none
  | n + 1 => fun a0 x2 x3 x4 L => fX8_leastPrice_b19c F (fX8_leastPrice_b19 F n) a0 x2 x3 x4 L
set_option maxHeartbeats 4000000 in
set_option maxRecDepth 100000 in
theorem sX8_leastPrice_b19c {b0 : Nat} {D : va_G} {cA : Nat → ClassId} {p : Program} {l : Launch} {ev : Env} {s : State} {m : MethodId} {args : Array Value} {below : List Frame} {meth : Method} {c : Code} {F : Nat} {z : (Int32 × HL)} {k19 : Nat → Int32 → Int32 → Int32 → HL → Option (Int32 × HL)} {a0 : Nat} {x2 : Int32} {x3 : Int32} {x4 : Int32} {L : HL} (hC : Cx D cA p s m args meth c cX8_leastPrice 6 RX8 wsX8_leastPrice (some .int)) (hk19 : ∀ (a0' : Nat) (x2' : Int32) (x3' : Int32) (x4' : Int32) (L' : HL), k19 a0' x2' x3' x4' L' = some z → WB b0 D cA p l ev (RM 2 0 0) s m args below meth c 6 0 0 (MQ below (Qk b0 D cA (some (.int z.1)) z.2) args s 0 0 (Ab b0)) 19 [(0, .ref (b0 + a0')), (2, .int x2'), (3, .int x3'), (4, .int x4')] [] L') (hE : fX8_leastPrice_b19c F k19 a0 x2 x3 x4 L = some z) : WB b0 D cA p l ev (RM 2 0 0) s m args below meth c 6 0 0 (MQ below (Qk b0 D cA (some (.int z.1)) z.2) args s 0 0 (Ab b0)) 19 [(0, .ref (b0 + a0)), (2, .int x2), (3, .int x3), (4, .int x4)] [] L := by
  obtain ⟨hx, hb, hml, hown, hts, hK, hr, hlocks⟩ := id hC
  intro H locs ls hH hS hl
  unfold fX8_leastPrice_b19c at hE
  refine lv_iload hx hb dX8_leastPrice_19 (lv_at hl 3 rfl) ?_
  refine lv_aload_n hx hb dX8_leastPrice_21 rfl (lv_at hl 0 rfl) ?_
  obtain ⟨v5, hv5, hE⟩ := Option.bind_eq_some_iff.mp hE
  refine r_gR 0 (C := RX8) (T := TX8) (N := 2) (ci := 7) hx hb hts (by decide +kernel) hown hK hH hv5 rfl (by decide) (hts (.fieldLink RX8 14 "KindStreets$Ways" "plan" "LKindStreets$Plan;") (by decide +kernel)) (fun _ h9 => h9) dX8_leastPrice_22 ?_
  obtain ⟨v6, hv6, hE⟩ := Option.bind_eq_some_iff.mp hE
  refine r_gI 0 (C := RX4) (T := TX4) (N := 9) (ci := 4) hx hb hts (by decide +kernel) hown hK hH hv6 rfl (by decide) (hts (.fieldLink RX8 26 "KindStreets$Plan" "yards" "I") (by decide +kernel)) (u_same (hts (.sameField "KindStreets$Plan" "KindStreets$Town" "yards" "I") (by decide +kernel))) dX8_leastPrice_25 ?_
  refine lv_icmp_ge (tgt := 90) hx hb dX8_leastPrice_28 (by decide) (fun c7 => ?_) (fun c7 => ?_)
  · rw [if_pos c7] at hE
    refine lv_aload_n hx hb dX8_leastPrice_90 rfl (lv_at hl 0 rfl) ?_
    obtain ⟨v8, hv8, hE⟩ := Option.bind_eq_some_iff.mp hE
    refine r_gR 1 (C := RX8) (T := TX8) (N := 2) (ci := 7) hx hb hts (by decide +kernel) hown hK hH hv8 rfl (by decide) (hts (.fieldLink RX8 18 "KindStreets$Ways" "price" "[I") (by decide +kernel)) (fun _ h9 => h9) dX8_leastPrice_91 ?_
    refine lv_iload_n hx hb dX8_leastPrice_94 rfl (lv_at hl 1 rfl) ?_
    obtain ⟨v9, hv9, hE⟩ := Option.bind_eq_some_iff.mp hE
    refine r_iald hx hb hK hH hv9 dX8_leastPrice_95 ?_
    have hZ := Option.some.inj hE
    subst hZ
    exact W.iret (v := v9) hx hb hr (fun t ht hW => ⟨rfl, by rw [ht]; exact hH, hS.F ht⟩) hS.2.2 dX8_leastPrice_96
  · rw [if_neg c7] at hE
    refine lv_iconst (v := 0) hx hb dX8_leastPrice_31 (by decide) ?_
    refine lv_istore (lv' := [(5, .int 0), (0, .ref (b0 + a0)), (2, .int x2), (3, .int x3), (4, .int x4)]) hx hb dX8_leastPrice_32 hl (by decide) rfl (fun ls hl => ?_)
    exact sX8_leastPrice_b34 (F := F) hC hk19 F _ _ _ _ _ _ hE _ _ _ hH hS (lv_sub hl [1, 2, 3, 4, 0] rfl)
theorem sX8_leastPrice_b19 {b0 : Nat} {D : va_G} {cA : Nat → ClassId} {p : Program} {l : Launch} {ev : Env} {s : State} {m : MethodId} {args : Array Value} {below : List Frame} {meth : Method} {c : Code} {F : Nat} {z : (Int32 × HL)} (hC : Cx D cA p s m args meth c cX8_leastPrice 6 RX8 wsX8_leastPrice (some .int)) : ∀ (n : Nat) (a0 : Nat) (x2 : Int32) (x3 : Int32) (x4 : Int32) (L : HL), fX8_leastPrice_b19 F n a0 x2 x3 x4 L = some z → WB b0 D cA p l ev (RM 2 0 0) s m args below meth c 6 0 0 (MQ below (Qk b0 D cA (some (.int z.1)) z.2) args s 0 0 (Ab b0)) 19 [(0, .ref (b0 + a0)), (2, .int x2), (3, .int x3), (4, .int x4)] [] L := by
  intro n
  induction n with
  | zero => intro a0 x2 x3 x4 L hE; cases hE
  | succ n ih => intro a0 x2 x3 x4 L hE; exact sX8_leastPrice_b19c (F := F) hC ih hE
def fX8_leastPrice (F : Nat) (L : HL) (a0 : Nat) (x1 : Int32) (x2 : Int32) (x3 : Int32) : Option (Int32 × HL) := (o_ob L a0 7).bind fun _ => (o_gR L a0 7 1).bind fun v1 => (fJ7_fill_53178 F L v1 1073741824).bind fun z2 => (o_gR z2 a0 7 1).bind fun v3 => (o_sI z2 v3 0 x1 0).bind fun L4 => fX8_leastPrice_b19 F F a0 x2 x3 1 L4
theorem oX8_leastPrice {F : Nat} {L : HL} {a0 : Nat} {x1 : Int32} {x2 : Int32} {x3 : Int32} {z : (Int32 × HL)} (hE : fX8_leastPrice F L a0 x1 x2 x3 = some z) : o_ob L a0 7 = some () := by
  obtain ⟨_, h, _⟩ := Option.bind_eq_some_iff.mp hE
  exact h
set_option maxHeartbeats 4000000 in
set_option maxRecDepth 100000 in
theorem sX8_leastPrice (l : Launch) (b0 : Nat) (D : va_G) (cA : Nat → ClassId) {F : Nat} {L : HL} {a0 : Nat} {x1 : Int32} {x2 : Int32} {x3 : Int32} {z : (Int32 × HL)} (hE : fX8_leastPrice F L a0 x1 x2 x3 = some z) : Met l yX8_leastPrice wsX8_leastPrice (RM 2 0 0) (Pk b0 D cA [.ref (b0 + a0), .int x1, .int x2, .int x3] L) (Qk b0 D cA (some (.int z.1)) z.2) 0 0 (Ab b0) := by
  refine Met.ofW (cc := cX8_leastPrice) (maxL := 6) (ret := (some .int)) (by decide) rfl ?_
  intro p ev s m args below meth c s₁ B hml hv
  obtain ⟨rfl, hH, hK⟩ := hv
  have hx := B.exec
  have hb := B.bytes
  have hr := B.returns
  have hts := atoms_spec (ws := wsX8_leastPrice) B.pre
  have hown : s.vm.findClass RX8 = some m.cls := findClass_of_methodNamed B.named
  have hlocks := B.notSynchronized
  have hC : Cx D cA p s m _ meth c cX8_leastPrice 6 RX8 wsX8_leastPrice (some .int) := ⟨hx, hb, hml, hown, hts, hK, hr, hlocks⟩
  have hS : va_S (Ab b0) s.heap s.heap [] := va_S.rf
  have hl := lv_entry ([.ref (b0 + a0), .int x1, .int x2, .int x3]) (n := 6) (Nat.le_of_ble_eq_true rfl)
  rw [lg_entry_eq]
  generalize (lg_sl ([.ref (b0 + a0), .int x1, .int x2, .int x3]) ++ List.replicate (6 - (lg_sl ([.ref (b0 + a0), .int x1, .int x2, .int x3])).length) Slot.unset).toArray = ls at hl ⊢
  have hl : lv_has ls 6 [(0, .ref (b0 + a0)), (1, .int x1), (2, .int x2), (3, .int x3)] := hl
  unfold fX8_leastPrice at hE
  obtain ⟨_, _, hE⟩ := Option.bind_eq_some_iff.mp hE
  refine lv_aload_n hx hb dX8_leastPrice_0 rfl (lv_at hl 0 rfl) ?_
  obtain ⟨v1, hv1, hE⟩ := Option.bind_eq_some_iff.mp hE
  refine r_gR 1 (C := RX8) (T := TX8) (N := 2) (ci := 7) hx hb hts (by decide +kernel) hown hK hH hv1 rfl (by decide) (hts (.fieldLink RX8 18 "KindStreets$Ways" "price" "[I") (by decide +kernel)) (fun _ h9 => h9) dX8_leastPrice_1 ?_
  refine lv_ldc hx hb hown (hts (.constant RX8 50 (1073741824)) (by decide +kernel)) dX8_leastPrice_4 ?_
  obtain ⟨z2, hz2, hE⟩ := Option.bind_eq_some_iff.mp hE
  refine r_callV (va_runS (As := [.ref (b0 + v1), .int 1073741824]) (rest := []) ⟨hx, hb, hml, hown, hts⟩ (sJ7_fill_53178 l b0 D cA hz2) (va_cwS 2 hts gX8_leastPrice_J7_fill_53178 rfl rfl rfl (by decide +kernel) (rm_ok (by decide) (by decide))) (pre_S hK hH) rfl rfl hl.1 rfl (lv_room (Nat.le_of_ble_eq_true rfl)) dX8_leastPrice_6 ⟨Nat.zero_le _, Nat.zero_le _⟩) hS (fun H locs hH hS => ?_)
  refine lv_aload_n hx hb dX8_leastPrice_9 rfl (lv_at hl 0 rfl) ?_
  obtain ⟨v3, hv3, hE⟩ := Option.bind_eq_some_iff.mp hE
  refine r_gR 1 (C := RX8) (T := TX8) (N := 2) (ci := 7) hx hb hts (by decide +kernel) hown hK hH hv3 rfl (by decide) (hts (.fieldLink RX8 18 "KindStreets$Ways" "price" "[I") (by decide +kernel)) (fun _ h9 => h9) dX8_leastPrice_10 ?_
  refine lv_iload_n hx hb dX8_leastPrice_13 rfl (lv_at hl 1 rfl) ?_
  refine lv_iconst (v := 0) hx hb dX8_leastPrice_14 (by decide) ?_
  obtain ⟨L4, hL4, hE⟩ := Option.bind_eq_some_iff.mp hE
  refine r_iast hx hb hK hH hS hL4 dX8_leastPrice_15 (fun H locs hH hS => ?_)
  refine lv_iconst (v := 1) hx hb dX8_leastPrice_16 (by decide) ?_
  refine lv_istore (lv' := [(4, .int 1), (0, .ref (b0 + a0)), (1, .int x1), (2, .int x2), (3, .int x3)]) hx hb dX8_leastPrice_17 hl (by decide) rfl (fun ls hl => ?_)
  exact sX8_leastPrice_b19 (F := F) hC F _ _ _ _ _ hE _ _ _ hH hS (lv_sub hl [1, 3, 4, 0] rfl)
-- X8_streetOut
def fX8_streetOut_b35 (F : Nat) (k2 : Nat → Int32 → Int32 → Int32 → HL → Option (Int32 × HL)) (a0 : Nat) (x1 : Int32) (x2 : Int32) (x3 : Int32) (L : HL) : Option (Int32 × HL) := k2 a0 x1 x2 (x3 + 1) L
set_option maxHeartbeats 4000000 in
set_option maxRecDepth 100000 in
theorem sX8_streetOut_b35 {b0 : Nat} {D : va_G} {cA : Nat → ClassId} {p : Program} {l : Launch} {ev : Env} {s : State} {m : MethodId} {args : Array Value} {below : List Frame} {meth : Method} {c : Code} {F : Nat} {z : (Int32 × HL)} {k2 : Nat → Int32 → Int32 → Int32 → HL → Option (Int32 × HL)} {a0 : Nat} {x1 : Int32} {x2 : Int32} {x3 : Int32} {L : HL} (hC : Cx D cA p s m args meth c cX8_streetOut 4 RX8 wsX8_streetOut (some .int)) (hk2 : ∀ (a0' : Nat) (x1' : Int32) (x2' : Int32) (x3' : Int32) (L' : HL), k2 a0' x1' x2' x3' L' = some z → WB b0 D cA p l ev (RM 2 0 0) s m args below meth c 4 0 0 (MQ below (Qk b0 D cA (some (.int z.1)) z.2) args s 0 0 (Ab b0)) 2 [(0, .ref (b0 + a0')), (1, .int x1'), (2, .int x2'), (3, .int x3')] [] L') (hE : fX8_streetOut_b35 F k2 a0 x1 x2 x3 L = some z) : WB b0 D cA p l ev (RM 2 0 0) s m args below meth c 4 0 0 (MQ below (Qk b0 D cA (some (.int z.1)) z.2) args s 0 0 (Ab b0)) 35 [(0, .ref (b0 + a0)), (1, .int x1), (2, .int x2), (3, .int x3)] [] L := by
  obtain ⟨hx, hb, hml, hown, hts, hK, hr, hlocks⟩ := id hC
  intro H locs ls hH hS hl
  unfold fX8_streetOut_b35 at hE
  refine lv_iinc (v := (x3 + 1)) (lv' := [(3, .int (x3 + 1)), (0, .ref (b0 + a0)), (1, .int x1), (2, .int x2)]) hx hb dX8_streetOut_35 hl (k := 3) rfl rfl (by decide) rfl (fun ls hl => ?_)
  refine lv_goto (tgt := 2) hx hb dX8_streetOut_38 (by decide) ?_
  exact hk2 _ _ _ _ _ hE _ _ _ hH hS (lv_sub hl [1, 2, 3, 0] rfl)
def fX8_streetOut_b2c (F : Nat) (k2 : Nat → Int32 → Int32 → Int32 → HL → Option (Int32 × HL)) (a0 : Nat) (x1 : Int32) (x2 : Int32) (x3 : Int32) (L : HL) : Option (Int32 × HL) := (o_gR L a0 7 0).bind fun v1 => (o_gI L v1 4 1).bind fun v2 => if v2 ≤ x3 then (some ((-9), L)) else ((fX5_has F L x2 x3).bind fun z4 => if z4.1 = 0 then (fX8_streetOut_b35 F k2 a0 x1 x2 x3 z4.2) else ((o_gR z4.2 a0 7 0).bind fun v6 => (fX4_leadsOut F z4.2 v6 x3 x1).bind fun z7 => if z7.1 = 0 then (fX8_streetOut_b35 F k2 a0 x1 x2 x3 z7.2) else (some (x3, z7.2))))
def fX8_streetOut_b2 (F : Nat) : Nat → Nat → Int32 → Int32 → Int32 → HL → Option (Int32 × HL)
  | 0 => fun _ _ _ _ _ => none
  | n + 1 => fun a0 x1 x2 x3 L => fX8_streetOut_b2c F (fX8_streetOut_b2 F n) a0 x1 x2 x3 L
set_option maxHeartbeats 4000000 in
set_option maxRecDepth 100000 in
theorem sX8_streetOut_b2c {b0 : Nat} {D : va_G} {cA : Nat → ClassId} {p : Program} {l : Launch} {ev : Env} {s : State} {m : MethodId} {args : Array Value} {below : List Frame} {meth : Method} {c : Code} {F : Nat} {z : (Int32 × HL)} {k2 : Nat → Int32 → Int32 → Int32 → HL → Option (Int32 × HL)} {a0 : Nat} {x1 : Int32} {x2 : Int32} {x3 : Int32} {L : HL} (hC : Cx D cA p s m args meth c cX8_streetOut 4 RX8 wsX8_streetOut (some .int)) (hk2 : ∀ (a0' : Nat) (x1' : Int32) (x2' : Int32) (x3' : Int32) (L' : HL), k2 a0' x1' x2' x3' L' = some z → WB b0 D cA p l ev (RM 2 0 0) s m args below meth c 4 0 0 (MQ below (Qk b0 D cA (some (.int z.1)) z.2) args s 0 0 (Ab b0)) 2 [(0, .ref (b0 + a0')), (1, .int x1'), (2, .int x2'), (3, .int x3')] [] L') (hE : fX8_streetOut_b2c F k2 a0 x1 x2 x3 L = some z) : WB b0 D cA p l ev (RM 2 0 0) s m args below meth c 4 0 0 (MQ below (Qk b0 D cA (some (.int z.1)) z.2) args s 0 0 (Ab b0)) 2 [(0, .ref (b0 + a0)), (1, .int x1), (2, .int x2), (3, .int x3)] [] L := by
  obtain ⟨hx, hb, hml, hown, hts, hK, hr, hlocks⟩ := id hC
  intro H locs ls hH hS hl
  unfold fX8_streetOut_b2c at hE
  refine lv_iload_n hx hb dX8_streetOut_2 rfl (lv_at hl 3 rfl) ?_
  refine lv_aload_n hx hb dX8_streetOut_3 rfl (lv_at hl 0 rfl) ?_
  obtain ⟨v1, hv1, hE⟩ := Option.bind_eq_some_iff.mp hE
  refine r_gR 0 (C := RX8) (T := TX8) (N := 2) (ci := 7) hx hb hts (by decide +kernel) hown hK hH hv1 rfl (by decide) (hts (.fieldLink RX8 14 "KindStreets$Ways" "plan" "LKindStreets$Plan;") (by decide +kernel)) (fun _ h9 => h9) dX8_streetOut_4 ?_
  obtain ⟨v2, hv2, hE⟩ := Option.bind_eq_some_iff.mp hE
  refine r_gI 1 (C := RX4) (T := TX4) (N := 9) (ci := 4) hx hb hts (by decide +kernel) hown hK hH hv2 rfl (by decide) (hts (.fieldLink RX8 40 "KindStreets$Plan" "streets" "I") (by decide +kernel)) (u_same (hts (.sameField "KindStreets$Plan" "KindStreets$Town" "streets" "I") (by decide +kernel))) dX8_streetOut_7 ?_
  refine lv_icmp_ge (tgt := 41) hx hb dX8_streetOut_10 (by decide) (fun c3 => ?_) (fun c3 => ?_)
  · rw [if_pos c3] at hE
    refine lv_bipush (v := (-9)) hx hb dX8_streetOut_41 (by decide) ?_
    have hZ := Option.some.inj hE
    subst hZ
    exact W.iret (v := (-9)) hx hb hr (fun t ht hW => ⟨rfl, by rw [ht]; exact hH, hS.F ht⟩) hS.2.2 dX8_streetOut_43
  · rw [if_neg c3] at hE
    refine lv_iload_n hx hb dX8_streetOut_13 rfl (lv_at hl 2 rfl) ?_
    refine lv_iload_n hx hb dX8_streetOut_14 rfl (lv_at hl 3 rfl) ?_
    obtain ⟨z4, hz4, hE⟩ := Option.bind_eq_some_iff.mp hE
    refine r_callI (va_runS (As := [.int x2, .int x3]) (rest := []) ⟨hx, hb, hml, hown, hts⟩ (sX5_has l b0 D cA hz4) (va_cwS 2 hts gX8_streetOut_X5_has rfl rfl rfl (by decide +kernel) (rm_ok (by decide) (by decide))) (pre_S hK hH) rfl rfl hl.1 rfl (lv_room (Nat.le_of_ble_eq_true rfl)) dX8_streetOut_15 ⟨Nat.zero_le _, Nat.zero_le _⟩) hS (fun H locs hH hS => ?_)
    refine lv_if_eq (tgt := 35) hx hb dX8_streetOut_18 (by decide) (fun c5 => ?_) (fun c5 => ?_)
    · rw [if_pos c5] at hE
      exact sX8_streetOut_b35 (F := F) hC hk2 hE _ _ _ hH hS (lv_sub hl [0, 1, 2, 3] rfl)
    · rw [if_neg c5] at hE
      refine lv_aload_n hx hb dX8_streetOut_21 rfl (lv_at hl 0 rfl) ?_
      obtain ⟨v6, hv6, hE⟩ := Option.bind_eq_some_iff.mp hE
      refine r_gR 0 (C := RX8) (T := TX8) (N := 2) (ci := 7) hx hb hts (by decide +kernel) hown hK hH hv6 rfl (by decide) (hts (.fieldLink RX8 14 "KindStreets$Ways" "plan" "LKindStreets$Plan;") (by decide +kernel)) (fun _ h9 => h9) dX8_streetOut_22 ?_
      refine lv_iload_n hx hb dX8_streetOut_25 rfl (lv_at hl 3 rfl) ?_
      refine lv_iload_n hx hb dX8_streetOut_26 rfl (lv_at hl 1 rfl) ?_
      obtain ⟨z7, hz7, hE⟩ := Option.bind_eq_some_iff.mp hE
      refine r_callI (va_runV (As := [.int x3, .int x1]) (rest := []) ⟨hx, hb, hml, hown, hts⟩ (sX4_leadsOut l b0 D cA hz7) (cwV 2 hts gX8_streetOut_X4_leadsOut rfl rfl rfl (by decide +kernel) (rm_ok (by decide) (by decide))) (pre_V (ci := 4) hK hH (oX4_leadsOut hz7) rfl) rfl rfl hl.1 rfl (lv_room (Nat.le_of_ble_eq_true rfl)) dX8_streetOut_27 ⟨Nat.zero_le _, Nat.zero_le _⟩) hS (fun H locs hH hS => ?_)
      refine lv_if_eq (tgt := 35) hx hb dX8_streetOut_30 (by decide) (fun c8 => ?_) (fun c8 => ?_)
      · rw [if_pos c8] at hE
        exact sX8_streetOut_b35 (F := F) hC hk2 hE _ _ _ hH hS (lv_sub hl [0, 1, 2, 3] rfl)
      · rw [if_neg c8] at hE
        refine lv_iload_n hx hb dX8_streetOut_33 rfl (lv_at hl 3 rfl) ?_
        have hZ := Option.some.inj hE
        subst hZ
        exact W.iret (v := x3) hx hb hr (fun t ht hW => ⟨rfl, by rw [ht]; exact hH, hS.F ht⟩) hS.2.2 dX8_streetOut_34
theorem sX8_streetOut_b2 {b0 : Nat} {D : va_G} {cA : Nat → ClassId} {p : Program} {l : Launch} {ev : Env} {s : State} {m : MethodId} {args : Array Value} {below : List Frame} {meth : Method} {c : Code} {F : Nat} {z : (Int32 × HL)} (hC : Cx D cA p s m args meth c cX8_streetOut 4 RX8 wsX8_streetOut (some .int)) : ∀ (n : Nat) (a0 : Nat) (x1 : Int32) (x2 : Int32) (x3 : Int32) (L : HL), fX8_streetOut_b2 F n a0 x1 x2 x3 L = some z → WB b0 D cA p l ev (RM 2 0 0) s m args below meth c 4 0 0 (MQ below (Qk b0 D cA (some (.int z.1)) z.2) args s 0 0 (Ab b0)) 2 [(0, .ref (b0 + a0)), (1, .int x1), (2, .int x2), (3, .int x3)] [] L := by
  intro n
  induction n with
  | zero => intro a0 x1 x2 x3 L hE; cases hE
  | succ n ih => intro a0 x1 x2 x3 L hE; exact sX8_streetOut_b2c (F := F) hC ih hE
def fX8_streetOut (F : Nat) (L : HL) (a0 : Nat) (x1 : Int32) (x2 : Int32) : Option (Int32 × HL) := (o_ob L a0 7).bind fun _ => fX8_streetOut_b2 F F a0 x1 x2 0 L
theorem oX8_streetOut {F : Nat} {L : HL} {a0 : Nat} {x1 : Int32} {x2 : Int32} {z : (Int32 × HL)} (hE : fX8_streetOut F L a0 x1 x2 = some z) : o_ob L a0 7 = some () := by
  obtain ⟨_, h, _⟩ := Option.bind_eq_some_iff.mp hE
  exact h
set_option maxHeartbeats 4000000 in
set_option maxRecDepth 100000 in
theorem sX8_streetOut (l : Launch) (b0 : Nat) (D : va_G) (cA : Nat → ClassId) {F : Nat} {L : HL} {a0 : Nat} {x1 : Int32} {x2 : Int32} {z : (Int32 × HL)} (hE : fX8_streetOut F L a0 x1 x2 = some z) : Met l yX8_streetOut wsX8_streetOut (RM 2 0 0) (Pk b0 D cA [.ref (b0 + a0), .int x1, .int x2] L) (Qk b0 D cA (some (.int z.1)) z.2) 0 0 (Ab b0) := by
  refine Met.ofW (cc := cX8_streetOut) (maxL := 4) (ret := (some .int)) (by decide) rfl ?_
  intro p ev s m args below meth c s₁ B hml hv
  obtain ⟨rfl, hH, hK⟩ := hv
  have hx := B.exec
  have hb := B.bytes
  have hr := B.returns
  have hts := atoms_spec (ws := wsX8_streetOut) B.pre
  have hown : s.vm.findClass RX8 = some m.cls := findClass_of_methodNamed B.named
  have hlocks := B.notSynchronized
  have hC : Cx D cA p s m _ meth c cX8_streetOut 4 RX8 wsX8_streetOut (some .int) := ⟨hx, hb, hml, hown, hts, hK, hr, hlocks⟩
  have hS : va_S (Ab b0) s.heap s.heap [] := va_S.rf
  have hl := lv_entry ([.ref (b0 + a0), .int x1, .int x2]) (n := 4) (Nat.le_of_ble_eq_true rfl)
  rw [lg_entry_eq]
  generalize (lg_sl ([.ref (b0 + a0), .int x1, .int x2]) ++ List.replicate (4 - (lg_sl ([.ref (b0 + a0), .int x1, .int x2])).length) Slot.unset).toArray = ls at hl ⊢
  have hl : lv_has ls 4 [(0, .ref (b0 + a0)), (1, .int x1), (2, .int x2)] := hl
  unfold fX8_streetOut at hE
  obtain ⟨_, _, hE⟩ := Option.bind_eq_some_iff.mp hE
  refine lv_iconst (v := 0) hx hb dX8_streetOut_0 (by decide) ?_
  refine lv_istore_n (lv' := [(3, .int 0), (0, .ref (b0 + a0)), (1, .int x1), (2, .int x2)]) hx hb dX8_streetOut_1 rfl hl (by decide) rfl (fun ls hl => ?_)
  exact sX8_streetOut_b2 (F := F) hC F _ _ _ _ _ hE _ _ _ hH hS (lv_sub hl [1, 2, 3, 0] rfl)
-- X8_chances
def fX8_chancesc (F : Nat) (kself : HL → Nat → Int32 → Int32 → Int32 → Int32 → Option (Int32 × HL)) (L : HL) (a0 : Nat) (x1 : Int32) (x2 : Int32) (x3 : Int32) (x4 : Int32) : Option (Int32 × HL) := (o_ob L a0 7).bind fun _ => (fX5_has F L x1 x3).bind fun z1 => if z1.1 = 0 then ((fX8_streetOut F z1.2 a0 x1 x2).bind fun z3 => if z3.1 = (-9) then (some (0, z3.2)) else ((fX5_without F z3.2 x2 z3.1).bind fun z5 => (o_gR z5.2 a0 7 0).bind fun v6 => (fX7_endsOf_P F z5.2 v6 z3.1).bind fun z7 => (kself z7.2 a0 (x1 ||| z7.1) z5.1 x3 x4).bind fun z8 => (kself z8.2 a0 x1 z5.1 x3 x4).bind fun z9 => some (((10 - x4) * z8.1) + (x4 * z9.1), z9.2))) else ((fJ6_bitCount_0f7a4 F z1.2 x2).bind fun z10 => (fX8_tenTo F z10.2 z10.1).bind fun z11 => some (z11.1, z11.2))
def fX8_chances (F : Nat) : Nat → HL → Nat → Int32 → Int32 → Int32 → Int32 → Option (Int32 × HL)
  | 0 => fun _ _ _ _ _ _ => none
  | n + 1 => fun L a0 x1 x2 x3 x4 => fX8_chancesc F (fX8_chances F n) L a0 x1 x2 x3 x4
theorem oX8_chances {F n : Nat} {L : HL} {a0 : Nat} {x1 : Int32} {x2 : Int32} {x3 : Int32} {x4 : Int32} {z : (Int32 × HL)} (hE : fX8_chances F n L a0 x1 x2 x3 x4 = some z) : o_ob L a0 7 = some () := by
  cases n with
  | zero => cases hE
  | succ n => obtain ⟨_, h, _⟩ := Option.bind_eq_some_iff.mp (show (o_ob L a0 7).bind _ = some z from hE); exact h
set_option maxHeartbeats 4000000 in
set_option maxRecDepth 100000 in
theorem sX8_chancesn (l : Launch) (b0 : Nat) (D : va_G) (cA : Nat → ClassId) {F : Nat} : ∀ {n : Nat} {L : HL} {a0 : Nat} {x1 : Int32} {x2 : Int32} {x3 : Int32} {x4 : Int32} {z : (Int32 × HL)} (hE : fX8_chances F n L a0 x1 x2 x3 x4 = some z), Met l yX8_chances wsX8_chances (RM (n + 6) 0 0) (Pk b0 D cA [.ref (b0 + a0), .int x1, .int x2, .int x3, .int x4] L) (Qk b0 D cA (some (.int z.1)) z.2) 0 0 (Ab b0) := by
  intro n
  induction n with
  | zero => intro L a0 x1 x2 x3 x4 z hE; cases hE
  | succ n ih =>
    intro L a0 x1 x2 x3 x4 z hE
    obtain ⟨_, _, hE⟩ := Option.bind_eq_some_iff.mp (show (o_ob L a0 7).bind _ = some z from hE)
    have hself := @ih
    have hobs := @oX8_chances F n
    have hd : 6 ≤ n + 6 := Nat.le_add_left _ _
    rw [show n + 1 + 6 = (n + 6) + 1 by omega]
    generalize n + 6 = dd at hself hd ⊢
    generalize fX8_chances F n = kself at hself hobs hE
    refine Met.ofW (cc := cX8_chances) (maxL := 7) (ret := (some .int)) (by decide) rfl ?_
    intro p ev s m args below meth c s₁ B hml hv
    obtain ⟨rfl, hH, hK⟩ := hv
    have hx := B.exec
    have hb := B.bytes
    have hr := B.returns
    have hts := atoms_spec (ws := wsX8_chances) B.pre
    have hown : s.vm.findClass RX8 = some m.cls := findClass_of_methodNamed B.named
    have hlocks := B.notSynchronized
    have hC : Cx D cA p s m _ meth c cX8_chances 7 RX8 wsX8_chances (some .int) := ⟨hx, hb, hml, hown, hts, hK, hr, hlocks⟩
    have hS : va_S (Ab b0) s.heap s.heap [] := va_S.rf
    have hl := lv_entry ([.ref (b0 + a0), .int x1, .int x2, .int x3, .int x4]) (n := 7) (Nat.le_of_ble_eq_true rfl)
    rw [lg_entry_eq]
    generalize (lg_sl ([.ref (b0 + a0), .int x1, .int x2, .int x3, .int x4]) ++ List.replicate (7 - (lg_sl ([.ref (b0 + a0), .int x1, .int x2, .int x3, .int x4])).length) Slot.unset).toArray = ls at hl ⊢
    have hl : lv_has ls 7 [(0, .ref (b0 + a0)), (1, .int x1), (2, .int x2), (3, .int x3), (4, .int x4)] := hl
    refine lv_iload_n hx hb dX8_chances_0 rfl (lv_at hl 1 rfl) ?_
    refine lv_iload_n hx hb dX8_chances_1 rfl (lv_at hl 3 rfl) ?_
    obtain ⟨z1, hz1, hE⟩ := Option.bind_eq_some_iff.mp hE
    refine r_callI (va_runS (As := [.int x1, .int x3]) (rest := []) ⟨hx, hb, hml, hown, hts⟩ (sX5_has l b0 D cA hz1) (va_cwS 2 hts gX8_chances_X5_has rfl rfl rfl (by decide +kernel) (rm_ok (by omega) (by decide))) (pre_S hK hH) rfl rfl hl.1 rfl (lv_room (Nat.le_of_ble_eq_true rfl)) dX8_chances_2 ⟨Nat.zero_le _, Nat.zero_le _⟩) hS (fun H locs hH hS => ?_)
    refine lv_if_eq (tgt := 16) hx hb dX8_chances_5 (by decide) (fun c2 => ?_) (fun c2 => ?_)
    · rw [if_pos c2] at hE
      refine lv_aload_n hx hb dX8_chances_16 rfl (lv_at hl 0 rfl) ?_
      refine lv_iload_n hx hb dX8_chances_17 rfl (lv_at hl 1 rfl) ?_
      refine lv_iload_n hx hb dX8_chances_18 rfl (lv_at hl 2 rfl) ?_
      obtain ⟨z3, hz3, hE⟩ := Option.bind_eq_some_iff.mp hE
      refine r_callI (va_runV (As := [.int x1, .int x2]) (rest := []) ⟨hx, hb, hml, hown, hts⟩ (sX8_streetOut l b0 D cA hz3) (cwV 2 hts gX8_chances_X8_streetOut rfl rfl rfl (by decide +kernel) (rm_ok (by omega) (by decide))) (pre_V (ci := 7) hK hH (oX8_streetOut hz3) rfl) rfl rfl hl.1 rfl (lv_room (Nat.le_of_ble_eq_true rfl)) dX8_chances_19 ⟨Nat.zero_le _, Nat.zero_le _⟩) hS (fun H locs hH hS => ?_)
      refine lv_istore (lv' := [(5, .int z3.1), (0, .ref (b0 + a0)), (1, .int x1), (2, .int x2), (3, .int x3), (4, .int x4)]) hx hb dX8_chances_22 hl (by decide) rfl (fun ls hl => ?_)
      refine lv_iload hx hb dX8_chances_24 (lv_at hl 0 rfl) ?_
      refine lv_bipush (v := (-9)) hx hb dX8_chances_26 (by decide) ?_
      refine lv_icmp_ne (tgt := 33) hx hb dX8_chances_28 (by decide) (fun c4 => ?_) (fun c4 => ?_)
      · rw [if_neg c4] at hE
        refine lv_iload_n hx hb dX8_chances_33 rfl (lv_at hl 3 rfl) ?_
        refine lv_iload hx hb dX8_chances_34 (lv_at hl 0 rfl) ?_
        obtain ⟨z5, hz5, hE⟩ := Option.bind_eq_some_iff.mp hE
        refine r_callI (va_runS (As := [.int x2, .int z3.1]) (rest := []) ⟨hx, hb, hml, hown, hts⟩ (sX5_without l b0 D cA hz5) (va_cwS 2 hts gX8_chances_X5_without rfl rfl rfl (by decide +kernel) (rm_ok (by omega) (by decide))) (pre_S hK hH) rfl rfl hl.1 rfl (lv_room (Nat.le_of_ble_eq_true rfl)) dX8_chances_36 ⟨Nat.zero_le _, Nat.zero_le _⟩) hS (fun H locs hH hS => ?_)
        refine lv_istore (lv' := [(6, .int z5.1), (5, .int z3.1), (0, .ref (b0 + a0)), (1, .int x1), (2, .int x2), (3, .int x3), (4, .int x4)]) hx hb dX8_chances_39 hl (by decide) rfl (fun ls hl => ?_)
        refine lv_bipush (v := 10) hx hb dX8_chances_41 (by decide) ?_
        refine lv_iload hx hb dX8_chances_43 (lv_at hl 6 rfl) ?_
        refine lv_isub hx hb dX8_chances_45 ?_
        refine lv_aload_n hx hb dX8_chances_46 rfl (lv_at hl 2 rfl) ?_
        refine lv_iload_n hx hb dX8_chances_47 rfl (lv_at hl 3 rfl) ?_
        refine lv_aload_n hx hb dX8_chances_48 rfl (lv_at hl 2 rfl) ?_
        obtain ⟨v6, hv6, hE⟩ := Option.bind_eq_some_iff.mp hE
        refine r_gR 0 (C := RX8) (T := TX8) (N := 2) (ci := 7) hx hb hts (by decide +kernel) hown hK hH hv6 rfl (by decide) (hts (.fieldLink RX8 14 "KindStreets$Ways" "plan" "LKindStreets$Plan;") (by decide +kernel)) (fun _ h9 => h9) dX8_chances_49 ?_
        refine lv_iload hx hb dX8_chances_52 (lv_at hl 1 rfl) ?_
        obtain ⟨z7, hz7, hE⟩ := Option.bind_eq_some_iff.mp hE
        refine r_callI (va_runU (As := [.int z3.1]) (rest := [.int x1, .ref (b0 + a0), .int (10 - x4)]) ⟨hx, hb, hml, hown, hts⟩ (sX7_endsOf_P l b0 D cA hz7) (va_cwU 1 hts gX8_chances_X7_endsOf_u46X4 rfl rfl rfl rfl (by decide +kernel) (rm_ok (by omega) (by decide))) (pre_V (ci := 4) hK hH (oX7_endsOf_P hz7) rfl) rfl rfl hl.1 rfl (lv_room (Nat.le_of_ble_eq_true rfl)) dX8_chances_54 ⟨Nat.zero_le _, Nat.zero_le _⟩) hS (fun H locs hH hS => ?_)
        refine lv_ior hx hb dX8_chances_57 ?_
        refine lv_iload hx hb dX8_chances_58 (lv_at hl 0 rfl) ?_
        refine lv_iload_n hx hb dX8_chances_60 rfl (lv_at hl 5 rfl) ?_
        refine lv_iload hx hb dX8_chances_61 (lv_at hl 6 rfl) ?_
        obtain ⟨z8, hz8, hE⟩ := Option.bind_eq_some_iff.mp hE
        refine r_callI (va_runV (As := [.int (x1 ||| z7.1), .int z5.1, .int x3, .int x4]) (rest := [.int (10 - x4)]) ⟨hx, hb, hml, hown, hts⟩ (hself hz8) (cwV 4 hts gX8_chances_X8_chances rfl rfl rfl (by decide +kernel) (rm_ok (by omega) (by decide))) (pre_V (ci := 7) hK hH (hobs hz8) rfl) rfl rfl hl.1 rfl (lv_room (Nat.le_of_ble_eq_true rfl)) dX8_chances_63 ⟨Nat.zero_le _, Nat.zero_le _⟩) hS (fun H locs hH hS => ?_)
        refine lv_imul hx hb dX8_chances_66 ?_
        refine lv_iload hx hb dX8_chances_67 (lv_at hl 6 rfl) ?_
        refine lv_aload_n hx hb dX8_chances_69 rfl (lv_at hl 2 rfl) ?_
        refine lv_iload_n hx hb dX8_chances_70 rfl (lv_at hl 3 rfl) ?_
        refine lv_iload hx hb dX8_chances_71 (lv_at hl 0 rfl) ?_
        refine lv_iload_n hx hb dX8_chances_73 rfl (lv_at hl 5 rfl) ?_
        refine lv_iload hx hb dX8_chances_74 (lv_at hl 6 rfl) ?_
        obtain ⟨z9, hz9, hE⟩ := Option.bind_eq_some_iff.mp hE
        refine r_callI (va_runV (As := [.int x1, .int z5.1, .int x3, .int x4]) (rest := [.int x4, .int ((10 - x4) * z8.1)]) ⟨hx, hb, hml, hown, hts⟩ (hself hz9) (cwV 4 hts gX8_chances_X8_chances rfl rfl rfl (by decide +kernel) (rm_ok (by omega) (by decide))) (pre_V (ci := 7) hK hH (hobs hz9) rfl) rfl rfl hl.1 rfl (lv_room (Nat.le_of_ble_eq_true rfl)) dX8_chances_76 ⟨Nat.zero_le _, Nat.zero_le _⟩) hS (fun H locs hH hS => ?_)
        refine lv_imul hx hb dX8_chances_79 ?_
        refine lv_iadd hx hb dX8_chances_80 ?_
        have hZ := Option.some.inj hE
        subst hZ
        exact W.iret (v := (((10 - x4) * z8.1) + (x4 * z9.1))) hx hb hr (fun t ht hW => ⟨rfl, by rw [ht]; exact hH, hS.F ht⟩) hS.2.2 dX8_chances_81
      · rw [if_pos c4] at hE
        refine lv_iconst (v := 0) hx hb dX8_chances_31 (by decide) ?_
        have hZ := Option.some.inj hE
        subst hZ
        exact W.iret (v := 0) hx hb hr (fun t ht hW => ⟨rfl, by rw [ht]; exact hH, hS.F ht⟩) hS.2.2 dX8_chances_32
    · rw [if_neg c2] at hE
      refine lv_iload_n hx hb dX8_chances_8 rfl (lv_at hl 2 rfl) ?_
      obtain ⟨z10, hz10, hE⟩ := Option.bind_eq_some_iff.mp hE
      refine r_callI (va_runS (As := [.int x2]) (rest := []) ⟨hx, hb, hml, hown, hts⟩ (sJ6_bitCount_0f7a4 l b0 D cA hz10) (va_cwS 1 hts gX8_chances_J6_bitCount_0f7a4 rfl rfl rfl (by decide +kernel) (rm_ok (by omega) (by decide))) (pre_S hK hH) rfl rfl hl.1 rfl (lv_room (Nat.le_of_ble_eq_true rfl)) dX8_chances_9 ⟨Nat.zero_le _, Nat.zero_le _⟩) hS (fun H locs hH hS => ?_)
      obtain ⟨z11, hz11, hE⟩ := Option.bind_eq_some_iff.mp hE
      refine r_callI (va_runS (As := [.int z10.1]) (rest := []) ⟨hx, hb, hml, hown, hts⟩ (sX8_tenTo l b0 D cA hz11) (va_cwS 1 hts gX8_chances_X8_tenTo rfl rfl rfl (by decide +kernel) (rm_ok (by omega) (by decide))) (pre_S hK hH) rfl rfl hl.1 rfl (lv_room (Nat.le_of_ble_eq_true rfl)) dX8_chances_12 ⟨Nat.zero_le _, Nat.zero_le _⟩) hS (fun H locs hH hS => ?_)
      have hZ := Option.some.inj hE
      subst hZ
      exact W.iret (v := z11.1) hx hb hr (fun t ht hW => ⟨rfl, by rw [ht]; exact hH, hS.F ht⟩) hS.2.2 dX8_chances_15
theorem sX8_chances (l : Launch) (b0 : Nat) (D : va_G) (cA : Nat → ClassId) {F : Nat} {L : HL} {a0 : Nat} {x1 : Int32} {x2 : Int32} {x3 : Int32} {x4 : Int32} {z : (Int32 × HL)} (hE : fX8_chances F 12 L a0 x1 x2 x3 x4 = some z) : Met l yX8_chances wsX8_chances (RM 18 0 0) (Pk b0 D cA [.ref (b0 + a0), .int x1, .int x2, .int x3, .int x4] L) (Qk b0 D cA (some (.int z.1)) z.2) 0 0 (Ab b0) := sX8_chancesn l b0 D cA hE
-- X0_wantingFrom
def fX0_wantingFrom_b34 (F : Nat) (k5 : Nat → Int32 → Int32 → Int32 → HL → Option (Int32 × HL)) (a0 : Nat) (x2 : Int32) (x3 : Int32) (x4 : Int32) (L : HL) : Option (Int32 × HL) := k5 a0 x2 x3 (x4 + 1) L
set_option maxHeartbeats 4000000 in
set_option maxRecDepth 100000 in
theorem sX0_wantingFrom_b34 {b0 : Nat} {D : va_G} {cA : Nat → ClassId} {p : Program} {l : Launch} {ev : Env} {s : State} {m : MethodId} {args : Array Value} {below : List Frame} {meth : Method} {c : Code} {F : Nat} {z : (Int32 × HL)} {k5 : Nat → Int32 → Int32 → Int32 → HL → Option (Int32 × HL)} {a0 : Nat} {x2 : Int32} {x3 : Int32} {x4 : Int32} {L : HL} (hC : Cx D cA p s m args meth c cX0_wantingFrom 5 RX0 wsX0_wantingFrom (some .int)) (hk5 : ∀ (a0' : Nat) (x2' : Int32) (x3' : Int32) (x4' : Int32) (L' : HL), k5 a0' x2' x3' x4' L' = some z → WB b0 D cA p l ev (RM 0 0 0) s m args below meth c 5 0 0 (MQ below (Qk b0 D cA (some (.int z.1)) z.2) args s 0 0 (Ab b0)) 5 [(0, .ref (b0 + a0')), (2, .int x2'), (3, .int x3'), (4, .int x4')] [] L') (hE : fX0_wantingFrom_b34 F k5 a0 x2 x3 x4 L = some z) : WB b0 D cA p l ev (RM 0 0 0) s m args below meth c 5 0 0 (MQ below (Qk b0 D cA (some (.int z.1)) z.2) args s 0 0 (Ab b0)) 34 [(0, .ref (b0 + a0)), (2, .int x2), (3, .int x3), (4, .int x4)] [] L := by
  obtain ⟨hx, hb, hml, hown, hts, hK, hr, hlocks⟩ := id hC
  intro H locs ls hH hS hl
  unfold fX0_wantingFrom_b34 at hE
  refine lv_iinc (v := (x4 + 1)) (lv' := [(4, .int (x4 + 1)), (0, .ref (b0 + a0)), (2, .int x2), (3, .int x3)]) hx hb dX0_wantingFrom_34 hl (k := 3) rfl rfl (by decide) rfl (fun ls hl => ?_)
  refine lv_goto (tgt := 5) hx hb dX0_wantingFrom_37 (by decide) ?_
  exact hk5 _ _ _ _ _ hE _ _ _ hH hS (lv_sub hl [1, 2, 3, 0] rfl)
def fX0_wantingFrom_b5c (F : Nat) (k5 : Nat → Int32 → Int32 → Int32 → HL → Option (Int32 × HL)) (a0 : Nat) (x2 : Int32) (x3 : Int32) (x4 : Int32) (L : HL) : Option (Int32 × HL) := (o_gR L a0 0 1).bind fun v1 => (o_gI L v1 4 2).bind fun v2 => if v2 ≤ x4 then (some (x3, L)) else ((o_gR L a0 0 1).bind fun v4 => (o_gR L v4 4 7).bind fun v5 => (o_aI L v5 0 x4).bind fun v6 => if v6 = x2 then (fX0_wantingFrom_b34 F k5 a0 x2 (x3 + 1) x4 L) else (fX0_wantingFrom_b34 F k5 a0 x2 x3 x4 L))
def fX0_wantingFrom_b5 (F : Nat) : Nat → Nat → Int32 → Int32 → Int32 → HL → Option (Int32 × HL)
  | 0 => fun _ _ _ _ _ => none
  | n + 1 => fun a0 x2 x3 x4 L => fX0_wantingFrom_b5c F (fX0_wantingFrom_b5 F n) a0 x2 x3 x4 L
set_option maxHeartbeats 4000000 in
set_option maxRecDepth 100000 in
theorem sX0_wantingFrom_b5c {b0 : Nat} {D : va_G} {cA : Nat → ClassId} {p : Program} {l : Launch} {ev : Env} {s : State} {m : MethodId} {args : Array Value} {below : List Frame} {meth : Method} {c : Code} {F : Nat} {z : (Int32 × HL)} {k5 : Nat → Int32 → Int32 → Int32 → HL → Option (Int32 × HL)} {a0 : Nat} {x2 : Int32} {x3 : Int32} {x4 : Int32} {L : HL} (hC : Cx D cA p s m args meth c cX0_wantingFrom 5 RX0 wsX0_wantingFrom (some .int)) (hk5 : ∀ (a0' : Nat) (x2' : Int32) (x3' : Int32) (x4' : Int32) (L' : HL), k5 a0' x2' x3' x4' L' = some z → WB b0 D cA p l ev (RM 0 0 0) s m args below meth c 5 0 0 (MQ below (Qk b0 D cA (some (.int z.1)) z.2) args s 0 0 (Ab b0)) 5 [(0, .ref (b0 + a0')), (2, .int x2'), (3, .int x3'), (4, .int x4')] [] L') (hE : fX0_wantingFrom_b5c F k5 a0 x2 x3 x4 L = some z) : WB b0 D cA p l ev (RM 0 0 0) s m args below meth c 5 0 0 (MQ below (Qk b0 D cA (some (.int z.1)) z.2) args s 0 0 (Ab b0)) 5 [(0, .ref (b0 + a0)), (2, .int x2), (3, .int x3), (4, .int x4)] [] L := by
  obtain ⟨hx, hb, hml, hown, hts, hK, hr, hlocks⟩ := id hC
  intro H locs ls hH hS hl
  unfold fX0_wantingFrom_b5c at hE
  refine lv_iload hx hb dX0_wantingFrom_5 (lv_at hl 3 rfl) ?_
  refine lv_aload_n hx hb dX0_wantingFrom_7 rfl (lv_at hl 0 rfl) ?_
  obtain ⟨v1, hv1, hE⟩ := Option.bind_eq_some_iff.mp hE
  refine r_gR 1 (C := RX0) (T := TX0) (N := 2) (ci := 0) hx hb hts (by decide +kernel) hown hK hH hv1 rfl (by decide) (hts (.fieldLink RX0 18 "KindStreets$Carriages" "plan" "LKindStreets$Plan;") (by decide +kernel)) (fun _ h9 => h9) dX0_wantingFrom_8 ?_
  obtain ⟨v2, hv2, hE⟩ := Option.bind_eq_some_iff.mp hE
  refine r_gI 2 (C := RX4) (T := TX4) (N := 9) (ci := 4) hx hb hts (by decide +kernel) hown hK hH hv2 rfl (by decide) (hts (.fieldLink RX0 36 "KindStreets$Plan" "citizens" "I") (by decide +kernel)) (u_same (hts (.sameField "KindStreets$Plan" "KindStreets$Town" "citizens" "I") (by decide +kernel))) dX0_wantingFrom_11 ?_
  refine lv_icmp_ge (tgt := 40) hx hb dX0_wantingFrom_14 (by decide) (fun c3 => ?_) (fun c3 => ?_)
  · rw [if_pos c3] at hE
    refine lv_iload_n hx hb dX0_wantingFrom_40 rfl (lv_at hl 2 rfl) ?_
    have hZ := Option.some.inj hE
    subst hZ
    exact W.iret (v := x3) hx hb hr (fun t ht hW => ⟨rfl, by rw [ht]; exact hH, hS.F ht⟩) hS.2.2 dX0_wantingFrom_41
  · rw [if_neg c3] at hE
    refine lv_aload_n hx hb dX0_wantingFrom_17 rfl (lv_at hl 0 rfl) ?_
    obtain ⟨v4, hv4, hE⟩ := Option.bind_eq_some_iff.mp hE
    refine r_gR 1 (C := RX0) (T := TX0) (N := 2) (ci := 0) hx hb hts (by decide +kernel) hown hK hH hv4 rfl (by decide) (hts (.fieldLink RX0 18 "KindStreets$Carriages" "plan" "LKindStreets$Plan;") (by decide +kernel)) (fun _ h9 => h9) dX0_wantingFrom_18 ?_
    obtain ⟨v5, hv5, hE⟩ := Option.bind_eq_some_iff.mp hE
    refine r_gR 7 (C := RX4) (T := TX4) (N := 9) (ci := 4) hx hb hts (by decide +kernel) hown hK hH hv5 rfl (by decide) (hts (.fieldLink RX0 53 "KindStreets$Plan" "wants" "[I") (by decide +kernel)) (u_same (hts (.sameField "KindStreets$Plan" "KindStreets$Town" "wants" "[I") (by decide +kernel))) dX0_wantingFrom_21 ?_
    refine lv_iload hx hb dX0_wantingFrom_24 (lv_at hl 3 rfl) ?_
    obtain ⟨v6, hv6, hE⟩ := Option.bind_eq_some_iff.mp hE
    refine r_iald hx hb hK hH hv6 dX0_wantingFrom_26 ?_
    refine lv_iload_n hx hb dX0_wantingFrom_27 rfl (lv_at hl 1 rfl) ?_
    refine lv_icmp_ne (tgt := 34) hx hb dX0_wantingFrom_28 (by decide) (fun c7 => ?_) (fun c7 => ?_)
    · rw [if_neg c7] at hE
      exact sX0_wantingFrom_b34 (F := F) hC hk5 hE _ _ _ hH hS (lv_sub hl [0, 1, 2, 3] rfl)
    · rw [if_pos c7] at hE
      refine lv_iinc (v := (x3 + 1)) (lv' := [(3, .int (x3 + 1)), (0, .ref (b0 + a0)), (2, .int x2), (4, .int x4)]) hx hb dX0_wantingFrom_31 hl (k := 2) rfl rfl (by decide) rfl (fun ls hl => ?_)
      exact sX0_wantingFrom_b34 (F := F) hC hk5 hE _ _ _ hH hS (lv_sub hl [1, 2, 0, 3] rfl)
theorem sX0_wantingFrom_b5 {b0 : Nat} {D : va_G} {cA : Nat → ClassId} {p : Program} {l : Launch} {ev : Env} {s : State} {m : MethodId} {args : Array Value} {below : List Frame} {meth : Method} {c : Code} {F : Nat} {z : (Int32 × HL)} (hC : Cx D cA p s m args meth c cX0_wantingFrom 5 RX0 wsX0_wantingFrom (some .int)) : ∀ (n : Nat) (a0 : Nat) (x2 : Int32) (x3 : Int32) (x4 : Int32) (L : HL), fX0_wantingFrom_b5 F n a0 x2 x3 x4 L = some z → WB b0 D cA p l ev (RM 0 0 0) s m args below meth c 5 0 0 (MQ below (Qk b0 D cA (some (.int z.1)) z.2) args s 0 0 (Ab b0)) 5 [(0, .ref (b0 + a0)), (2, .int x2), (3, .int x3), (4, .int x4)] [] L := by
  intro n
  induction n with
  | zero => intro a0 x2 x3 x4 L hE; cases hE
  | succ n ih => intro a0 x2 x3 x4 L hE; exact sX0_wantingFrom_b5c (F := F) hC ih hE
def fX0_wantingFrom (F : Nat) (L : HL) (a0 : Nat) (x1 : Int32) (x2 : Int32) : Option (Int32 × HL) := (o_ob L a0 0).bind fun _ => fX0_wantingFrom_b5 F F a0 x2 0 x1 L
theorem oX0_wantingFrom {F : Nat} {L : HL} {a0 : Nat} {x1 : Int32} {x2 : Int32} {z : (Int32 × HL)} (hE : fX0_wantingFrom F L a0 x1 x2 = some z) : o_ob L a0 0 = some () := by
  obtain ⟨_, h, _⟩ := Option.bind_eq_some_iff.mp hE
  exact h
set_option maxHeartbeats 4000000 in
set_option maxRecDepth 100000 in
theorem sX0_wantingFrom (l : Launch) (b0 : Nat) (D : va_G) (cA : Nat → ClassId) {F : Nat} {L : HL} {a0 : Nat} {x1 : Int32} {x2 : Int32} {z : (Int32 × HL)} (hE : fX0_wantingFrom F L a0 x1 x2 = some z) : Met l yX0_wantingFrom wsX0_wantingFrom (RM 0 0 0) (Pk b0 D cA [.ref (b0 + a0), .int x1, .int x2] L) (Qk b0 D cA (some (.int z.1)) z.2) 0 0 (Ab b0) := by
  refine Met.ofW (cc := cX0_wantingFrom) (maxL := 5) (ret := (some .int)) (by decide) rfl ?_
  intro p ev s m args below meth c s₁ B hml hv
  obtain ⟨rfl, hH, hK⟩ := hv
  have hx := B.exec
  have hb := B.bytes
  have hr := B.returns
  have hts := atoms_spec (ws := wsX0_wantingFrom) B.pre
  have hown : s.vm.findClass RX0 = some m.cls := findClass_of_methodNamed B.named
  have hlocks := B.notSynchronized
  have hC : Cx D cA p s m _ meth c cX0_wantingFrom 5 RX0 wsX0_wantingFrom (some .int) := ⟨hx, hb, hml, hown, hts, hK, hr, hlocks⟩
  have hS : va_S (Ab b0) s.heap s.heap [] := va_S.rf
  have hl := lv_entry ([.ref (b0 + a0), .int x1, .int x2]) (n := 5) (Nat.le_of_ble_eq_true rfl)
  rw [lg_entry_eq]
  generalize (lg_sl ([.ref (b0 + a0), .int x1, .int x2]) ++ List.replicate (5 - (lg_sl ([.ref (b0 + a0), .int x1, .int x2])).length) Slot.unset).toArray = ls at hl ⊢
  have hl : lv_has ls 5 [(0, .ref (b0 + a0)), (1, .int x1), (2, .int x2)] := hl
  unfold fX0_wantingFrom at hE
  obtain ⟨_, _, hE⟩ := Option.bind_eq_some_iff.mp hE
  refine lv_iconst (v := 0) hx hb dX0_wantingFrom_0 (by decide) ?_
  refine lv_istore_n (lv' := [(3, .int 0), (0, .ref (b0 + a0)), (1, .int x1), (2, .int x2)]) hx hb dX0_wantingFrom_1 rfl hl (by decide) rfl (fun ls hl => ?_)
  refine lv_iload_n hx hb dX0_wantingFrom_2 rfl (lv_at hl 2 rfl) ?_
  refine lv_istore (lv' := [(4, .int x1), (3, .int 0), (0, .ref (b0 + a0)), (1, .int x1), (2, .int x2)]) hx hb dX0_wantingFrom_3 hl (by decide) rfl (fun ls hl => ?_)
  exact sX0_wantingFrom_b5 (F := F) hC F _ _ _ _ _ hE _ _ _ hH hS (lv_sub hl [2, 4, 1, 0] rfl)
-- X0_freeOf
def fX0_freeOf_b43 (F : Nat) (k5 : Nat → Int32 → Int32 → Int32 → Int32 → HL → Option (Int32 × HL)) (a0 : Nat) (x1 : Int32) (x2 : Int32) (x3 : Int32) (x4 : Int32) (L : HL) : Option (Int32 × HL) := k5 a0 x1 x2 x3 (x4 + 1) L
set_option maxHeartbeats 4000000 in
set_option maxRecDepth 100000 in
theorem sX0_freeOf_b43 {b0 : Nat} {D : va_G} {cA : Nat → ClassId} {p : Program} {l : Launch} {ev : Env} {s : State} {m : MethodId} {args : Array Value} {below : List Frame} {meth : Method} {c : Code} {F : Nat} {z : (Int32 × HL)} {k5 : Nat → Int32 → Int32 → Int32 → Int32 → HL → Option (Int32 × HL)} {a0 : Nat} {x1 : Int32} {x2 : Int32} {x3 : Int32} {x4 : Int32} {L : HL} (hC : Cx D cA p s m args meth c cX0_freeOf 5 RX0 wsX0_freeOf (some .int)) (hk5 : ∀ (a0' : Nat) (x1' : Int32) (x2' : Int32) (x3' : Int32) (x4' : Int32) (L' : HL), k5 a0' x1' x2' x3' x4' L' = some z → WB b0 D cA p l ev (RM 1 0 0) s m args below meth c 5 0 0 (MQ below (Qk b0 D cA (some (.int z.1)) z.2) args s 0 0 (Ab b0)) 5 [(0, .ref (b0 + a0')), (1, .int x1'), (2, .int x2'), (3, .int x3'), (4, .int x4')] [] L') (hE : fX0_freeOf_b43 F k5 a0 x1 x2 x3 x4 L = some z) : WB b0 D cA p l ev (RM 1 0 0) s m args below meth c 5 0 0 (MQ below (Qk b0 D cA (some (.int z.1)) z.2) args s 0 0 (Ab b0)) 43 [(0, .ref (b0 + a0)), (1, .int x1), (2, .int x2), (3, .int x3), (4, .int x4)] [] L := by
  obtain ⟨hx, hb, hml, hown, hts, hK, hr, hlocks⟩ := id hC
  intro H locs ls hH hS hl
  unfold fX0_freeOf_b43 at hE
  refine lv_iinc (v := (x4 + 1)) (lv' := [(4, .int (x4 + 1)), (0, .ref (b0 + a0)), (1, .int x1), (2, .int x2), (3, .int x3)]) hx hb dX0_freeOf_43 hl (k := 4) rfl rfl (by decide) rfl (fun ls hl => ?_)
  refine lv_goto (tgt := 5) hx hb dX0_freeOf_46 (by decide) ?_
  exact hk5 _ _ _ _ _ _ hE _ _ _ hH hS (lv_sub hl [1, 2, 3, 4, 0] rfl)
def fX0_freeOf_b5c (F : Nat) (k5 : Nat → Int32 → Int32 → Int32 → Int32 → HL → Option (Int32 × HL)) (a0 : Nat) (x1 : Int32) (x2 : Int32) (x3 : Int32) (x4 : Int32) (L : HL) : Option (Int32 × HL) := (o_gR L a0 0 1).bind fun v1 => (o_gI L v1 4 1).bind fun v2 => if v2 ≤ x4 then (some (x3, L)) else ((fX5_has F L x1 x4).bind fun z4 => if z4.1 = 0 then (fX0_freeOf_b43 F k5 a0 x1 x2 x3 x4 z4.2) else ((o_gR z4.2 a0 0 1).bind fun v6 => (o_gR z4.2 v6 4 8).bind fun v7 => (o_aI z4.2 v7 0 x4).bind fun v8 => if v8 = x2 then (fX0_freeOf_b43 F k5 a0 x1 x2 (x3 + 1) x4 z4.2) else (fX0_freeOf_b43 F k5 a0 x1 x2 x3 x4 z4.2)))
def fX0_freeOf_b5 (F : Nat) : Nat → Nat → Int32 → Int32 → Int32 → Int32 → HL → Option (Int32 × HL)
  | 0 => fun _ _ _ _ _ _ => none
  | n + 1 => fun a0 x1 x2 x3 x4 L => fX0_freeOf_b5c F (fX0_freeOf_b5 F n) a0 x1 x2 x3 x4 L
set_option maxHeartbeats 4000000 in
set_option maxRecDepth 100000 in
theorem sX0_freeOf_b5c {b0 : Nat} {D : va_G} {cA : Nat → ClassId} {p : Program} {l : Launch} {ev : Env} {s : State} {m : MethodId} {args : Array Value} {below : List Frame} {meth : Method} {c : Code} {F : Nat} {z : (Int32 × HL)} {k5 : Nat → Int32 → Int32 → Int32 → Int32 → HL → Option (Int32 × HL)} {a0 : Nat} {x1 : Int32} {x2 : Int32} {x3 : Int32} {x4 : Int32} {L : HL} (hC : Cx D cA p s m args meth c cX0_freeOf 5 RX0 wsX0_freeOf (some .int)) (hk5 : ∀ (a0' : Nat) (x1' : Int32) (x2' : Int32) (x3' : Int32) (x4' : Int32) (L' : HL), k5 a0' x1' x2' x3' x4' L' = some z → WB b0 D cA p l ev (RM 1 0 0) s m args below meth c 5 0 0 (MQ below (Qk b0 D cA (some (.int z.1)) z.2) args s 0 0 (Ab b0)) 5 [(0, .ref (b0 + a0')), (1, .int x1'), (2, .int x2'), (3, .int x3'), (4, .int x4')] [] L') (hE : fX0_freeOf_b5c F k5 a0 x1 x2 x3 x4 L = some z) : WB b0 D cA p l ev (RM 1 0 0) s m args below meth c 5 0 0 (MQ below (Qk b0 D cA (some (.int z.1)) z.2) args s 0 0 (Ab b0)) 5 [(0, .ref (b0 + a0)), (1, .int x1), (2, .int x2), (3, .int x3), (4, .int x4)] [] L := by
  obtain ⟨hx, hb, hml, hown, hts, hK, hr, hlocks⟩ := id hC
  intro H locs ls hH hS hl
  unfold fX0_freeOf_b5c at hE
  refine lv_iload hx hb dX0_freeOf_5 (lv_at hl 4 rfl) ?_
  refine lv_aload_n hx hb dX0_freeOf_7 rfl (lv_at hl 0 rfl) ?_
  obtain ⟨v1, hv1, hE⟩ := Option.bind_eq_some_iff.mp hE
  refine r_gR 1 (C := RX0) (T := TX0) (N := 2) (ci := 0) hx hb hts (by decide +kernel) hown hK hH hv1 rfl (by decide) (hts (.fieldLink RX0 18 "KindStreets$Carriages" "plan" "LKindStreets$Plan;") (by decide +kernel)) (fun _ h9 => h9) dX0_freeOf_8 ?_
  obtain ⟨v2, hv2, hE⟩ := Option.bind_eq_some_iff.mp hE
  refine r_gI 1 (C := RX4) (T := TX4) (N := 9) (ci := 4) hx hb hts (by decide +kernel) hown hK hH hv2 rfl (by decide) (hts (.fieldLink RX0 22 "KindStreets$Plan" "streets" "I") (by decide +kernel)) (u_same (hts (.sameField "KindStreets$Plan" "KindStreets$Town" "streets" "I") (by decide +kernel))) dX0_freeOf_11 ?_
  refine lv_icmp_ge (tgt := 49) hx hb dX0_freeOf_14 (by decide) (fun c3 => ?_) (fun c3 => ?_)
  · rw [if_pos c3] at hE
    refine lv_iload_n hx hb dX0_freeOf_49 rfl (lv_at hl 3 rfl) ?_
    have hZ := Option.some.inj hE
    subst hZ
    exact W.iret (v := x3) hx hb hr (fun t ht hW => ⟨rfl, by rw [ht]; exact hH, hS.F ht⟩) hS.2.2 dX0_freeOf_50
  · rw [if_neg c3] at hE
    refine lv_iload_n hx hb dX0_freeOf_17 rfl (lv_at hl 1 rfl) ?_
    refine lv_iload hx hb dX0_freeOf_18 (lv_at hl 4 rfl) ?_
    obtain ⟨z4, hz4, hE⟩ := Option.bind_eq_some_iff.mp hE
    refine r_callI (va_runS (As := [.int x1, .int x4]) (rest := []) ⟨hx, hb, hml, hown, hts⟩ (sX5_has l b0 D cA hz4) (va_cwS 2 hts gX0_freeOf_X5_has rfl rfl rfl (by decide +kernel) (rm_ok (by decide) (by decide))) (pre_S hK hH) rfl rfl hl.1 rfl (lv_room (Nat.le_of_ble_eq_true rfl)) dX0_freeOf_20 ⟨Nat.zero_le _, Nat.zero_le _⟩) hS (fun H locs hH hS => ?_)
    refine lv_if_eq (tgt := 43) hx hb dX0_freeOf_23 (by decide) (fun c5 => ?_) (fun c5 => ?_)
    · rw [if_pos c5] at hE
      exact sX0_freeOf_b43 (F := F) hC hk5 hE _ _ _ hH hS (lv_sub hl [0, 1, 2, 3, 4] rfl)
    · rw [if_neg c5] at hE
      refine lv_aload_n hx hb dX0_freeOf_26 rfl (lv_at hl 0 rfl) ?_
      obtain ⟨v6, hv6, hE⟩ := Option.bind_eq_some_iff.mp hE
      refine r_gR 1 (C := RX0) (T := TX0) (N := 2) (ci := 0) hx hb hts (by decide +kernel) hown hK hH hv6 rfl (by decide) (hts (.fieldLink RX0 18 "KindStreets$Carriages" "plan" "LKindStreets$Plan;") (by decide +kernel)) (fun _ h9 => h9) dX0_freeOf_27 ?_
      obtain ⟨v7, hv7, hE⟩ := Option.bind_eq_some_iff.mp hE
      refine r_gR 8 (C := RX4) (T := TX4) (N := 9) (ci := 4) hx hb hts (by decide +kernel) hown hK hH hv7 rfl (by decide) (hts (.fieldLink RX0 50 "KindStreets$Plan" "width" "[I") (by decide +kernel)) (fun _ h9 => h9) dX0_freeOf_30 ?_
      refine lv_iload hx hb dX0_freeOf_33 (lv_at hl 4 rfl) ?_
      obtain ⟨v8, hv8, hE⟩ := Option.bind_eq_some_iff.mp hE
      refine r_iald hx hb hK hH hv8 dX0_freeOf_35 ?_
      refine lv_iload_n hx hb dX0_freeOf_36 rfl (lv_at hl 2 rfl) ?_
      refine lv_icmp_ne (tgt := 43) hx hb dX0_freeOf_37 (by decide) (fun c9 => ?_) (fun c9 => ?_)
      · rw [if_neg c9] at hE
        exact sX0_freeOf_b43 (F := F) hC hk5 hE _ _ _ hH hS (lv_sub hl [0, 1, 2, 3, 4] rfl)
      · rw [if_pos c9] at hE
        refine lv_iinc (v := (x3 + 1)) (lv' := [(3, .int (x3 + 1)), (0, .ref (b0 + a0)), (1, .int x1), (2, .int x2), (4, .int x4)]) hx hb dX0_freeOf_40 hl (k := 3) rfl rfl (by decide) rfl (fun ls hl => ?_)
        exact sX0_freeOf_b43 (F := F) hC hk5 hE _ _ _ hH hS (lv_sub hl [1, 2, 3, 0, 4] rfl)
theorem sX0_freeOf_b5 {b0 : Nat} {D : va_G} {cA : Nat → ClassId} {p : Program} {l : Launch} {ev : Env} {s : State} {m : MethodId} {args : Array Value} {below : List Frame} {meth : Method} {c : Code} {F : Nat} {z : (Int32 × HL)} (hC : Cx D cA p s m args meth c cX0_freeOf 5 RX0 wsX0_freeOf (some .int)) : ∀ (n : Nat) (a0 : Nat) (x1 : Int32) (x2 : Int32) (x3 : Int32) (x4 : Int32) (L : HL), fX0_freeOf_b5 F n a0 x1 x2 x3 x4 L = some z → WB b0 D cA p l ev (RM 1 0 0) s m args below meth c 5 0 0 (MQ below (Qk b0 D cA (some (.int z.1)) z.2) args s 0 0 (Ab b0)) 5 [(0, .ref (b0 + a0)), (1, .int x1), (2, .int x2), (3, .int x3), (4, .int x4)] [] L := by
  intro n
  induction n with
  | zero => intro a0 x1 x2 x3 x4 L hE; cases hE
  | succ n ih => intro a0 x1 x2 x3 x4 L hE; exact sX0_freeOf_b5c (F := F) hC ih hE
def fX0_freeOf (F : Nat) (L : HL) (a0 : Nat) (x1 : Int32) (x2 : Int32) : Option (Int32 × HL) := (o_ob L a0 0).bind fun _ => fX0_freeOf_b5 F F a0 x1 x2 0 0 L
theorem oX0_freeOf {F : Nat} {L : HL} {a0 : Nat} {x1 : Int32} {x2 : Int32} {z : (Int32 × HL)} (hE : fX0_freeOf F L a0 x1 x2 = some z) : o_ob L a0 0 = some () := by
  obtain ⟨_, h, _⟩ := Option.bind_eq_some_iff.mp hE
  exact h
set_option maxHeartbeats 4000000 in
set_option maxRecDepth 100000 in
theorem sX0_freeOf (l : Launch) (b0 : Nat) (D : va_G) (cA : Nat → ClassId) {F : Nat} {L : HL} {a0 : Nat} {x1 : Int32} {x2 : Int32} {z : (Int32 × HL)} (hE : fX0_freeOf F L a0 x1 x2 = some z) : Met l yX0_freeOf wsX0_freeOf (RM 1 0 0) (Pk b0 D cA [.ref (b0 + a0), .int x1, .int x2] L) (Qk b0 D cA (some (.int z.1)) z.2) 0 0 (Ab b0) := by
  refine Met.ofW (cc := cX0_freeOf) (maxL := 5) (ret := (some .int)) (by decide) rfl ?_
  intro p ev s m args below meth c s₁ B hml hv
  obtain ⟨rfl, hH, hK⟩ := hv
  have hx := B.exec
  have hb := B.bytes
  have hr := B.returns
  have hts := atoms_spec (ws := wsX0_freeOf) B.pre
  have hown : s.vm.findClass RX0 = some m.cls := findClass_of_methodNamed B.named
  have hlocks := B.notSynchronized
  have hC : Cx D cA p s m _ meth c cX0_freeOf 5 RX0 wsX0_freeOf (some .int) := ⟨hx, hb, hml, hown, hts, hK, hr, hlocks⟩
  have hS : va_S (Ab b0) s.heap s.heap [] := va_S.rf
  have hl := lv_entry ([.ref (b0 + a0), .int x1, .int x2]) (n := 5) (Nat.le_of_ble_eq_true rfl)
  rw [lg_entry_eq]
  generalize (lg_sl ([.ref (b0 + a0), .int x1, .int x2]) ++ List.replicate (5 - (lg_sl ([.ref (b0 + a0), .int x1, .int x2])).length) Slot.unset).toArray = ls at hl ⊢
  have hl : lv_has ls 5 [(0, .ref (b0 + a0)), (1, .int x1), (2, .int x2)] := hl
  unfold fX0_freeOf at hE
  obtain ⟨_, _, hE⟩ := Option.bind_eq_some_iff.mp hE
  refine lv_iconst (v := 0) hx hb dX0_freeOf_0 (by decide) ?_
  refine lv_istore_n (lv' := [(3, .int 0), (0, .ref (b0 + a0)), (1, .int x1), (2, .int x2)]) hx hb dX0_freeOf_1 rfl hl (by decide) rfl (fun ls hl => ?_)
  refine lv_iconst (v := 0) hx hb dX0_freeOf_2 (by decide) ?_
  refine lv_istore (lv' := [(4, .int 0), (3, .int 0), (0, .ref (b0 + a0)), (1, .int x1), (2, .int x2)]) hx hb dX0_freeOf_3 hl (by decide) rfl (fun ls hl => ?_)
  exact sX0_freeOf_b5 (F := F) hC F _ _ _ _ _ _ hE _ _ _ hH hS (lv_sub hl [2, 3, 4, 1, 0] rfl)
-- X0_mostFrom
def fX0_mostFrom_b8c (F : Nat) (k8 : Nat → Int32 → Int32 → Int32 → Int32 → Int32 → HL → Option (Int32 × HL)) (a0 : Nat) (x1 : Int32) (x2 : Int32) (x3 : Int32) (x4 : Int32) (x5 : Int32) (L : HL) : Option (Int32 × HL) := if 10 < x5 then (some (x3, L)) else ((fX0_wantingFrom F L a0 x1 x5).bind fun z2 => (fX0_freeOf F z2.2 a0 x2 x5).bind fun z3 => k8 a0 x1 x2 (x3 + (if z3.1 < (x4 + z2.1) then z3.1 else (x4 + z2.1))) ((x4 + z2.1) - (if z3.1 < (x4 + z2.1) then z3.1 else (x4 + z2.1))) (x5 + 1) z3.2)
def fX0_mostFrom_b8 (F : Nat) : Nat → Nat → Int32 → Int32 → Int32 → Int32 → Int32 → HL → Option (Int32 × HL)
  | 0 => fun _ _ _ _ _ _ _ => none
  | n + 1 => fun a0 x1 x2 x3 x4 x5 L => fX0_mostFrom_b8c F (fX0_mostFrom_b8 F n) a0 x1 x2 x3 x4 x5 L
set_option maxHeartbeats 4000000 in
set_option maxRecDepth 100000 in
theorem sX0_mostFrom_b8c {b0 : Nat} {D : va_G} {cA : Nat → ClassId} {p : Program} {l : Launch} {ev : Env} {s : State} {m : MethodId} {args : Array Value} {below : List Frame} {meth : Method} {c : Code} {F : Nat} {z : (Int32 × HL)} {k8 : Nat → Int32 → Int32 → Int32 → Int32 → Int32 → HL → Option (Int32 × HL)} {a0 : Nat} {x1 : Int32} {x2 : Int32} {x3 : Int32} {x4 : Int32} {x5 : Int32} {L : HL} (hC : Cx D cA p s m args meth c cX0_mostFrom 7 RX0 wsX0_mostFrom (some .int)) (hk8 : ∀ (a0' : Nat) (x1' : Int32) (x2' : Int32) (x3' : Int32) (x4' : Int32) (x5' : Int32) (L' : HL), k8 a0' x1' x2' x3' x4' x5' L' = some z → WB b0 D cA p l ev (RM 2 0 0) s m args below meth c 7 0 0 (MQ below (Qk b0 D cA (some (.int z.1)) z.2) args s 0 0 (Ab b0)) 8 [(0, .ref (b0 + a0')), (1, .int x1'), (2, .int x2'), (3, .int x3'), (4, .int x4'), (5, .int x5')] [] L') (hE : fX0_mostFrom_b8c F k8 a0 x1 x2 x3 x4 x5 L = some z) : WB b0 D cA p l ev (RM 2 0 0) s m args below meth c 7 0 0 (MQ below (Qk b0 D cA (some (.int z.1)) z.2) args s 0 0 (Ab b0)) 8 [(0, .ref (b0 + a0)), (1, .int x1), (2, .int x2), (3, .int x3), (4, .int x4), (5, .int x5)] [] L := by
  obtain ⟨hx, hb, hml, hown, hts, hK, hr, hlocks⟩ := id hC
  intro H locs ls hH hS hl
  unfold fX0_mostFrom_b8c at hE
  refine lv_iload hx hb dX0_mostFrom_8 (lv_at hl 5 rfl) ?_
  refine lv_bipush (v := 10) hx hb dX0_mostFrom_10 (by decide) ?_
  refine lv_icmp_gt (tgt := 59) hx hb dX0_mostFrom_12 (by decide) (fun c1 => ?_) (fun c1 => ?_)
  · rw [if_pos c1] at hE
    refine lv_iload_n hx hb dX0_mostFrom_59 rfl (lv_at hl 3 rfl) ?_
    have hZ := Option.some.inj hE
    subst hZ
    exact W.iret (v := x3) hx hb hr (fun t ht hW => ⟨rfl, by rw [ht]; exact hH, hS.F ht⟩) hS.2.2 dX0_mostFrom_60
  · rw [if_neg c1] at hE
    refine lv_iload hx hb dX0_mostFrom_15 (lv_at hl 4 rfl) ?_
    refine lv_aload_n hx hb dX0_mostFrom_17 rfl (lv_at hl 0 rfl) ?_
    refine lv_iload_n hx hb dX0_mostFrom_18 rfl (lv_at hl 1 rfl) ?_
    refine lv_iload hx hb dX0_mostFrom_19 (lv_at hl 5 rfl) ?_
    obtain ⟨z2, hz2, hE⟩ := Option.bind_eq_some_iff.mp hE
    refine r_callI (va_runV (As := [.int x1, .int x5]) (rest := [.int x4]) ⟨hx, hb, hml, hown, hts⟩ (sX0_wantingFrom l b0 D cA hz2) (cwV 2 hts gX0_mostFrom_X0_wantingFrom rfl rfl rfl (by decide +kernel) (rm_ok (by decide) (by decide))) (pre_V (ci := 0) hK hH (oX0_wantingFrom hz2) rfl) rfl rfl hl.1 rfl (lv_room (Nat.le_of_ble_eq_true rfl)) dX0_mostFrom_21 ⟨Nat.zero_le _, Nat.zero_le _⟩) hS (fun H locs hH hS => ?_)
    refine lv_iadd hx hb dX0_mostFrom_24 ?_
    refine lv_istore (lv' := [(4, .int (x4 + z2.1)), (0, .ref (b0 + a0)), (1, .int x1), (2, .int x2), (3, .int x3), (5, .int x5)]) hx hb dX0_mostFrom_25 hl (by decide) rfl (fun ls hl => ?_)
    refine lv_iload hx hb dX0_mostFrom_27 (lv_at hl 0 rfl) ?_
    refine lv_aload_n hx hb dX0_mostFrom_29 rfl (lv_at hl 1 rfl) ?_
    refine lv_iload_n hx hb dX0_mostFrom_30 rfl (lv_at hl 3 rfl) ?_
    refine lv_iload hx hb dX0_mostFrom_31 (lv_at hl 5 rfl) ?_
    obtain ⟨z3, hz3, hE⟩ := Option.bind_eq_some_iff.mp hE
    refine r_callI (va_runV (As := [.int x2, .int x5]) (rest := [.int (x4 + z2.1)]) ⟨hx, hb, hml, hown, hts⟩ (sX0_freeOf l b0 D cA hz3) (cwV 2 hts gX0_mostFrom_X0_freeOf rfl rfl rfl (by decide +kernel) (rm_ok (by decide) (by decide))) (pre_V (ci := 0) hK hH (oX0_freeOf hz3) rfl) rfl rfl hl.1 rfl (lv_room (Nat.le_of_ble_eq_true rfl)) dX0_mostFrom_33 ⟨Nat.zero_le _, Nat.zero_le _⟩) hS (fun H locs hH hS => ?_)
    refine va_mmin hx hb (hml.trans hl.1.symm) hown (hts (.methodLink RX0 62 Lib.Math.min.name) (by decide +kernel)) (hts (.static Lib.Math.min.name) (by decide +kernel)) (hts (.initialized "java/lang/Math") (by decide +kernel)) (hts (.code Lib.Math.min.name Lib.Math.min.code 2 (some .int)) (by decide +kernel)) (by decide) (Nat.le_of_ble_eq_true rfl) (by decide) (by decide) dX0_mostFrom_36 ?_
    refine lv_istore (lv' := [(6, .int (if z3.1 < (x4 + z2.1) then z3.1 else (x4 + z2.1))), (4, .int (x4 + z2.1)), (0, .ref (b0 + a0)), (1, .int x1), (2, .int x2), (3, .int x3), (5, .int x5)]) hx hb dX0_mostFrom_39 hl (by decide) rfl (fun ls hl => ?_)
    refine lv_iload_n hx hb dX0_mostFrom_41 rfl (lv_at hl 5 rfl) ?_
    refine lv_iload hx hb dX0_mostFrom_42 (lv_at hl 0 rfl) ?_
    refine lv_iadd hx hb dX0_mostFrom_44 ?_
    refine lv_istore_n (lv' := [(3, .int (x3 + (if z3.1 < (x4 + z2.1) then z3.1 else (x4 + z2.1)))), (6, .int (if z3.1 < (x4 + z2.1) then z3.1 else (x4 + z2.1))), (4, .int (x4 + z2.1)), (0, .ref (b0 + a0)), (1, .int x1), (2, .int x2), (5, .int x5)]) hx hb dX0_mostFrom_45 rfl hl (by decide) rfl (fun ls hl => ?_)
    refine lv_iload hx hb dX0_mostFrom_46 (lv_at hl 2 rfl) ?_
    refine lv_iload hx hb dX0_mostFrom_48 (lv_at hl 1 rfl) ?_
    refine lv_isub hx hb dX0_mostFrom_50 ?_
    refine lv_istore (lv' := [(4, .int ((x4 + z2.1) - (if z3.1 < (x4 + z2.1) then z3.1 else (x4 + z2.1)))), (3, .int (x3 + (if z3.1 < (x4 + z2.1) then z3.1 else (x4 + z2.1)))), (6, .int (if z3.1 < (x4 + z2.1) then z3.1 else (x4 + z2.1))), (0, .ref (b0 + a0)), (1, .int x1), (2, .int x2), (5, .int x5)]) hx hb dX0_mostFrom_51 hl (by decide) rfl (fun ls hl => ?_)
    refine lv_iinc (v := (x5 + 1)) (lv' := [(5, .int (x5 + 1)), (4, .int ((x4 + z2.1) - (if z3.1 < (x4 + z2.1) then z3.1 else (x4 + z2.1)))), (3, .int (x3 + (if z3.1 < (x4 + z2.1) then z3.1 else (x4 + z2.1)))), (6, .int (if z3.1 < (x4 + z2.1) then z3.1 else (x4 + z2.1))), (0, .ref (b0 + a0)), (1, .int x1), (2, .int x2)]) hx hb dX0_mostFrom_53 hl (k := 6) rfl rfl (by decide) rfl (fun ls hl => ?_)
    refine lv_goto (tgt := 8) hx hb dX0_mostFrom_56 (by decide) ?_
    exact hk8 _ _ _ _ _ _ _ hE _ _ _ hH hS (lv_sub hl [4, 5, 6, 2, 1, 0] rfl)
theorem sX0_mostFrom_b8 {b0 : Nat} {D : va_G} {cA : Nat → ClassId} {p : Program} {l : Launch} {ev : Env} {s : State} {m : MethodId} {args : Array Value} {below : List Frame} {meth : Method} {c : Code} {F : Nat} {z : (Int32 × HL)} (hC : Cx D cA p s m args meth c cX0_mostFrom 7 RX0 wsX0_mostFrom (some .int)) : ∀ (n : Nat) (a0 : Nat) (x1 : Int32) (x2 : Int32) (x3 : Int32) (x4 : Int32) (x5 : Int32) (L : HL), fX0_mostFrom_b8 F n a0 x1 x2 x3 x4 x5 L = some z → WB b0 D cA p l ev (RM 2 0 0) s m args below meth c 7 0 0 (MQ below (Qk b0 D cA (some (.int z.1)) z.2) args s 0 0 (Ab b0)) 8 [(0, .ref (b0 + a0)), (1, .int x1), (2, .int x2), (3, .int x3), (4, .int x4), (5, .int x5)] [] L := by
  intro n
  induction n with
  | zero => intro a0 x1 x2 x3 x4 x5 L hE; cases hE
  | succ n ih => intro a0 x1 x2 x3 x4 x5 L hE; exact sX0_mostFrom_b8c (F := F) hC ih hE
def fX0_mostFrom (F : Nat) (L : HL) (a0 : Nat) (x1 : Int32) (x2 : Int32) : Option (Int32 × HL) := (o_ob L a0 0).bind fun _ => fX0_mostFrom_b8 F F a0 x1 x2 0 0 1 L
theorem oX0_mostFrom {F : Nat} {L : HL} {a0 : Nat} {x1 : Int32} {x2 : Int32} {z : (Int32 × HL)} (hE : fX0_mostFrom F L a0 x1 x2 = some z) : o_ob L a0 0 = some () := by
  obtain ⟨_, h, _⟩ := Option.bind_eq_some_iff.mp hE
  exact h
set_option maxHeartbeats 4000000 in
set_option maxRecDepth 100000 in
theorem sX0_mostFrom (l : Launch) (b0 : Nat) (D : va_G) (cA : Nat → ClassId) {F : Nat} {L : HL} {a0 : Nat} {x1 : Int32} {x2 : Int32} {z : (Int32 × HL)} (hE : fX0_mostFrom F L a0 x1 x2 = some z) : Met l yX0_mostFrom wsX0_mostFrom (RM 2 0 0) (Pk b0 D cA [.ref (b0 + a0), .int x1, .int x2] L) (Qk b0 D cA (some (.int z.1)) z.2) 0 0 (Ab b0) := by
  refine Met.ofW (cc := cX0_mostFrom) (maxL := 7) (ret := (some .int)) (by decide) rfl ?_
  intro p ev s m args below meth c s₁ B hml hv
  obtain ⟨rfl, hH, hK⟩ := hv
  have hx := B.exec
  have hb := B.bytes
  have hr := B.returns
  have hts := atoms_spec (ws := wsX0_mostFrom) B.pre
  have hown : s.vm.findClass RX0 = some m.cls := findClass_of_methodNamed B.named
  have hlocks := B.notSynchronized
  have hC : Cx D cA p s m _ meth c cX0_mostFrom 7 RX0 wsX0_mostFrom (some .int) := ⟨hx, hb, hml, hown, hts, hK, hr, hlocks⟩
  have hS : va_S (Ab b0) s.heap s.heap [] := va_S.rf
  have hl := lv_entry ([.ref (b0 + a0), .int x1, .int x2]) (n := 7) (Nat.le_of_ble_eq_true rfl)
  rw [lg_entry_eq]
  generalize (lg_sl ([.ref (b0 + a0), .int x1, .int x2]) ++ List.replicate (7 - (lg_sl ([.ref (b0 + a0), .int x1, .int x2])).length) Slot.unset).toArray = ls at hl ⊢
  have hl : lv_has ls 7 [(0, .ref (b0 + a0)), (1, .int x1), (2, .int x2)] := hl
  unfold fX0_mostFrom at hE
  obtain ⟨_, _, hE⟩ := Option.bind_eq_some_iff.mp hE
  refine lv_iconst (v := 0) hx hb dX0_mostFrom_0 (by decide) ?_
  refine lv_istore_n (lv' := [(3, .int 0), (0, .ref (b0 + a0)), (1, .int x1), (2, .int x2)]) hx hb dX0_mostFrom_1 rfl hl (by decide) rfl (fun ls hl => ?_)
  refine lv_iconst (v := 0) hx hb dX0_mostFrom_2 (by decide) ?_
  refine lv_istore (lv' := [(4, .int 0), (3, .int 0), (0, .ref (b0 + a0)), (1, .int x1), (2, .int x2)]) hx hb dX0_mostFrom_3 hl (by decide) rfl (fun ls hl => ?_)
  refine lv_iconst (v := 1) hx hb dX0_mostFrom_5 (by decide) ?_
  refine lv_istore (lv' := [(5, .int 1), (4, .int 0), (3, .int 0), (0, .ref (b0 + a0)), (1, .int x1), (2, .int x2)]) hx hb dX0_mostFrom_6 hl (by decide) rfl (fun ls hl => ?_)
  exact sX0_mostFrom_b8 (F := F) hC F _ _ _ _ _ _ _ hE _ _ _ hH hS (lv_sub hl [3, 4, 5, 2, 1, 0] rfl)
-- X0_lowestStreetFor
def fX0_lowestStreetFor_b68 (F : Nat) (k3 : Nat → Int32 → Int32 → Int32 → Int32 → HL → Option (Int32 × HL)) (a0 : Nat) (x1 : Int32) (x2 : Int32) (x3 : Int32) (x4 : Int32) (L : HL) : Option (Int32 × HL) := k3 a0 x1 x2 x3 (x4 + 1) L
set_option maxHeartbeats 4000000 in
set_option maxRecDepth 100000 in
theorem sX0_lowestStreetFor_b68 {b0 : Nat} {D : va_G} {cA : Nat → ClassId} {p : Program} {l : Launch} {ev : Env} {s : State} {m : MethodId} {args : Array Value} {below : List Frame} {meth : Method} {c : Code} {F : Nat} {z : (Int32 × HL)} {k3 : Nat → Int32 → Int32 → Int32 → Int32 → HL → Option (Int32 × HL)} {a0 : Nat} {x1 : Int32} {x2 : Int32} {x3 : Int32} {x4 : Int32} {L : HL} (hC : Cx D cA p s m args meth c cX0_lowestStreetFor 5 RX0 wsX0_lowestStreetFor (some .int)) (hk3 : ∀ (a0' : Nat) (x1' : Int32) (x2' : Int32) (x3' : Int32) (x4' : Int32) (L' : HL), k3 a0' x1' x2' x3' x4' L' = some z → WB b0 D cA p l ev (RM 3 0 0) s m args below meth c 5 0 0 (MQ below (Qk b0 D cA (some (.int z.1)) z.2) args s 0 0 (Ab b0)) 3 [(0, .ref (b0 + a0')), (1, .int x1'), (2, .int x2'), (3, .int x3'), (4, .int x4')] [] L') (hE : fX0_lowestStreetFor_b68 F k3 a0 x1 x2 x3 x4 L = some z) : WB b0 D cA p l ev (RM 3 0 0) s m args below meth c 5 0 0 (MQ below (Qk b0 D cA (some (.int z.1)) z.2) args s 0 0 (Ab b0)) 68 [(0, .ref (b0 + a0)), (1, .int x1), (2, .int x2), (3, .int x3), (4, .int x4)] [] L := by
  obtain ⟨hx, hb, hml, hown, hts, hK, hr, hlocks⟩ := id hC
  intro H locs ls hH hS hl
  unfold fX0_lowestStreetFor_b68 at hE
  refine lv_iinc (v := (x4 + 1)) (lv' := [(4, .int (x4 + 1)), (0, .ref (b0 + a0)), (1, .int x1), (2, .int x2), (3, .int x3)]) hx hb dX0_lowestStreetFor_68 hl (k := 4) rfl rfl (by decide) rfl (fun ls hl => ?_)
  refine lv_goto (tgt := 3) hx hb dX0_lowestStreetFor_71 (by decide) ?_
  exact hk3 _ _ _ _ _ _ hE _ _ _ hH hS (lv_sub hl [1, 2, 3, 4, 0] rfl)
def fX0_lowestStreetFor_b3c (F : Nat) (k3 : Nat → Int32 → Int32 → Int32 → Int32 → HL → Option (Int32 × HL)) (a0 : Nat) (x1 : Int32) (x2 : Int32) (x3 : Int32) (x4 : Int32) (L : HL) : Option (Int32 × HL) := (o_gR L a0 0 1).bind fun v1 => (o_gI L v1 4 1).bind fun v2 => if v2 ≤ x4 then (some ((-9), L)) else ((fX5_has F L x2 x4).bind fun z4 => if z4.1 = 0 then (fX0_lowestStreetFor_b68 F k3 a0 x1 x2 x3 x4 z4.2) else ((o_gR z4.2 a0 0 1).bind fun v6 => (o_gR z4.2 v6 4 8).bind fun v7 => (o_aI z4.2 v7 0 x4).bind fun v8 => (o_gR z4.2 a0 0 1).bind fun v9 => (o_gR z4.2 v9 4 7).bind fun v10 => (o_aI z4.2 v10 0 x1).bind fun v11 => if v8 < v11 then (fX0_lowestStreetFor_b68 F k3 a0 x1 x2 x3 x4 z4.2) else ((fX5_without F z4.2 x2 x4).bind fun z13 => (fX0_mostFrom F z13.2 a0 (x1 + 1) z13.1).bind fun z14 => if (1 + z14.1) = x3 then (some (x4, z14.2)) else (fX0_lowestStreetFor_b68 F k3 a0 x1 x2 x3 x4 z14.2))))
def fX0_lowestStreetFor_b3 (F : Nat) : Nat → Nat → Int32 → Int32 → Int32 → Int32 → HL → Option (Int32 × HL)
  | 0 => fun _ _ _ _ _ _ => none
  | n + 1 => fun a0 x1 x2 x3 x4 L => fX0_lowestStreetFor_b3c F (fX0_lowestStreetFor_b3 F n) a0 x1 x2 x3 x4 L
set_option maxHeartbeats 4000000 in
set_option maxRecDepth 100000 in
theorem sX0_lowestStreetFor_b3c {b0 : Nat} {D : va_G} {cA : Nat → ClassId} {p : Program} {l : Launch} {ev : Env} {s : State} {m : MethodId} {args : Array Value} {below : List Frame} {meth : Method} {c : Code} {F : Nat} {z : (Int32 × HL)} {k3 : Nat → Int32 → Int32 → Int32 → Int32 → HL → Option (Int32 × HL)} {a0 : Nat} {x1 : Int32} {x2 : Int32} {x3 : Int32} {x4 : Int32} {L : HL} (hC : Cx D cA p s m args meth c cX0_lowestStreetFor 5 RX0 wsX0_lowestStreetFor (some .int)) (hk3 : ∀ (a0' : Nat) (x1' : Int32) (x2' : Int32) (x3' : Int32) (x4' : Int32) (L' : HL), k3 a0' x1' x2' x3' x4' L' = some z → WB b0 D cA p l ev (RM 3 0 0) s m args below meth c 5 0 0 (MQ below (Qk b0 D cA (some (.int z.1)) z.2) args s 0 0 (Ab b0)) 3 [(0, .ref (b0 + a0')), (1, .int x1'), (2, .int x2'), (3, .int x3'), (4, .int x4')] [] L') (hE : fX0_lowestStreetFor_b3c F k3 a0 x1 x2 x3 x4 L = some z) : WB b0 D cA p l ev (RM 3 0 0) s m args below meth c 5 0 0 (MQ below (Qk b0 D cA (some (.int z.1)) z.2) args s 0 0 (Ab b0)) 3 [(0, .ref (b0 + a0)), (1, .int x1), (2, .int x2), (3, .int x3), (4, .int x4)] [] L := by
  obtain ⟨hx, hb, hml, hown, hts, hK, hr, hlocks⟩ := id hC
  intro H locs ls hH hS hl
  unfold fX0_lowestStreetFor_b3c at hE
  refine lv_iload hx hb dX0_lowestStreetFor_3 (lv_at hl 4 rfl) ?_
  refine lv_aload_n hx hb dX0_lowestStreetFor_5 rfl (lv_at hl 0 rfl) ?_
  obtain ⟨v1, hv1, hE⟩ := Option.bind_eq_some_iff.mp hE
  refine r_gR 1 (C := RX0) (T := TX0) (N := 2) (ci := 0) hx hb hts (by decide +kernel) hown hK hH hv1 rfl (by decide) (hts (.fieldLink RX0 18 "KindStreets$Carriages" "plan" "LKindStreets$Plan;") (by decide +kernel)) (fun _ h9 => h9) dX0_lowestStreetFor_6 ?_
  obtain ⟨v2, hv2, hE⟩ := Option.bind_eq_some_iff.mp hE
  refine r_gI 1 (C := RX4) (T := TX4) (N := 9) (ci := 4) hx hb hts (by decide +kernel) hown hK hH hv2 rfl (by decide) (hts (.fieldLink RX0 22 "KindStreets$Plan" "streets" "I") (by decide +kernel)) (u_same (hts (.sameField "KindStreets$Plan" "KindStreets$Town" "streets" "I") (by decide +kernel))) dX0_lowestStreetFor_9 ?_
  refine lv_icmp_ge (tgt := 74) hx hb dX0_lowestStreetFor_12 (by decide) (fun c3 => ?_) (fun c3 => ?_)
  · rw [if_pos c3] at hE
    refine lv_bipush (v := (-9)) hx hb dX0_lowestStreetFor_74 (by decide) ?_
    have hZ := Option.some.inj hE
    subst hZ
    exact W.iret (v := (-9)) hx hb hr (fun t ht hW => ⟨rfl, by rw [ht]; exact hH, hS.F ht⟩) hS.2.2 dX0_lowestStreetFor_76
  · rw [if_neg c3] at hE
    refine lv_iload_n hx hb dX0_lowestStreetFor_15 rfl (lv_at hl 2 rfl) ?_
    refine lv_iload hx hb dX0_lowestStreetFor_16 (lv_at hl 4 rfl) ?_
    obtain ⟨z4, hz4, hE⟩ := Option.bind_eq_some_iff.mp hE
    refine r_callI (va_runS (As := [.int x2, .int x4]) (rest := []) ⟨hx, hb, hml, hown, hts⟩ (sX5_has l b0 D cA hz4) (va_cwS 2 hts gX0_lowestStreetFor_X5_has rfl rfl rfl (by decide +kernel) (rm_ok (by decide) (by decide))) (pre_S hK hH) rfl rfl hl.1 rfl (lv_room (Nat.le_of_ble_eq_true rfl)) dX0_lowestStreetFor_18 ⟨Nat.zero_le _, Nat.zero_le _⟩) hS (fun H locs hH hS => ?_)
    refine lv_if_eq (tgt := 68) hx hb dX0_lowestStreetFor_21 (by decide) (fun c5 => ?_) (fun c5 => ?_)
    · rw [if_pos c5] at hE
      exact sX0_lowestStreetFor_b68 (F := F) hC hk3 hE _ _ _ hH hS (lv_sub hl [0, 1, 2, 3, 4] rfl)
    · rw [if_neg c5] at hE
      refine lv_aload_n hx hb dX0_lowestStreetFor_24 rfl (lv_at hl 0 rfl) ?_
      obtain ⟨v6, hv6, hE⟩ := Option.bind_eq_some_iff.mp hE
      refine r_gR 1 (C := RX0) (T := TX0) (N := 2) (ci := 0) hx hb hts (by decide +kernel) hown hK hH hv6 rfl (by decide) (hts (.fieldLink RX0 18 "KindStreets$Carriages" "plan" "LKindStreets$Plan;") (by decide +kernel)) (fun _ h9 => h9) dX0_lowestStreetFor_25 ?_
      obtain ⟨v7, hv7, hE⟩ := Option.bind_eq_some_iff.mp hE
      refine r_gR 8 (C := RX4) (T := TX4) (N := 9) (ci := 4) hx hb hts (by decide +kernel) hown hK hH hv7 rfl (by decide) (hts (.fieldLink RX0 50 "KindStreets$Plan" "width" "[I") (by decide +kernel)) (fun _ h9 => h9) dX0_lowestStreetFor_28 ?_
      refine lv_iload hx hb dX0_lowestStreetFor_31 (lv_at hl 4 rfl) ?_
      obtain ⟨v8, hv8, hE⟩ := Option.bind_eq_some_iff.mp hE
      refine r_iald hx hb hK hH hv8 dX0_lowestStreetFor_33 ?_
      refine lv_aload_n hx hb dX0_lowestStreetFor_34 rfl (lv_at hl 0 rfl) ?_
      obtain ⟨v9, hv9, hE⟩ := Option.bind_eq_some_iff.mp hE
      refine r_gR 1 (C := RX0) (T := TX0) (N := 2) (ci := 0) hx hb hts (by decide +kernel) hown hK hH hv9 rfl (by decide) (hts (.fieldLink RX0 18 "KindStreets$Carriages" "plan" "LKindStreets$Plan;") (by decide +kernel)) (fun _ h9 => h9) dX0_lowestStreetFor_35 ?_
      obtain ⟨v10, hv10, hE⟩ := Option.bind_eq_some_iff.mp hE
      refine r_gR 7 (C := RX4) (T := TX4) (N := 9) (ci := 4) hx hb hts (by decide +kernel) hown hK hH hv10 rfl (by decide) (hts (.fieldLink RX0 53 "KindStreets$Plan" "wants" "[I") (by decide +kernel)) (u_same (hts (.sameField "KindStreets$Plan" "KindStreets$Town" "wants" "[I") (by decide +kernel))) dX0_lowestStreetFor_38 ?_
      refine lv_iload_n hx hb dX0_lowestStreetFor_41 rfl (lv_at hl 1 rfl) ?_
      obtain ⟨v11, hv11, hE⟩ := Option.bind_eq_some_iff.mp hE
      refine r_iald hx hb hK hH hv11 dX0_lowestStreetFor_42 ?_
      refine lv_icmp_lt (tgt := 68) hx hb dX0_lowestStreetFor_43 (by decide) (fun c12 => ?_) (fun c12 => ?_)
      · rw [if_pos c12] at hE
        exact sX0_lowestStreetFor_b68 (F := F) hC hk3 hE _ _ _ hH hS (lv_sub hl [0, 1, 2, 3, 4] rfl)
      · rw [if_neg c12] at hE
        refine lv_iconst (v := 1) hx hb dX0_lowestStreetFor_46 (by decide) ?_
        refine lv_aload_n hx hb dX0_lowestStreetFor_47 rfl (lv_at hl 0 rfl) ?_
        refine lv_iload_n hx hb dX0_lowestStreetFor_48 rfl (lv_at hl 1 rfl) ?_
        refine lv_iconst (v := 1) hx hb dX0_lowestStreetFor_49 (by decide) ?_
        refine lv_iadd hx hb dX0_lowestStreetFor_50 ?_
        refine lv_iload_n hx hb dX0_lowestStreetFor_51 rfl (lv_at hl 2 rfl) ?_
        refine lv_iload hx hb dX0_lowestStreetFor_52 (lv_at hl 4 rfl) ?_
        obtain ⟨z13, hz13, hE⟩ := Option.bind_eq_some_iff.mp hE
        refine r_callI (va_runS (As := [.int x2, .int x4]) (rest := [.int (x1 + 1), .ref (b0 + a0), .int 1]) ⟨hx, hb, hml, hown, hts⟩ (sX5_without l b0 D cA hz13) (va_cwS 2 hts gX0_lowestStreetFor_X5_without rfl rfl rfl (by decide +kernel) (rm_ok (by decide) (by decide))) (pre_S hK hH) rfl rfl hl.1 rfl (lv_room (Nat.le_of_ble_eq_true rfl)) dX0_lowestStreetFor_54 ⟨Nat.zero_le _, Nat.zero_le _⟩) hS (fun H locs hH hS => ?_)
        obtain ⟨z14, hz14, hE⟩ := Option.bind_eq_some_iff.mp hE
        refine r_callI (va_runV (As := [.int (x1 + 1), .int z13.1]) (rest := [.int 1]) ⟨hx, hb, hml, hown, hts⟩ (sX0_mostFrom l b0 D cA hz14) (cwV 2 hts gX0_lowestStreetFor_X0_mostFrom rfl rfl rfl (by decide +kernel) (rm_ok (by decide) (by decide))) (pre_V (ci := 0) hK hH (oX0_mostFrom hz14) rfl) rfl rfl hl.1 rfl (lv_room (Nat.le_of_ble_eq_true rfl)) dX0_lowestStreetFor_57 ⟨Nat.zero_le _, Nat.zero_le _⟩) hS (fun H locs hH hS => ?_)
        refine lv_iadd hx hb dX0_lowestStreetFor_60 ?_
        refine lv_iload_n hx hb dX0_lowestStreetFor_61 rfl (lv_at hl 3 rfl) ?_
        refine lv_icmp_ne (tgt := 68) hx hb dX0_lowestStreetFor_62 (by decide) (fun c15 => ?_) (fun c15 => ?_)
        · rw [if_neg c15] at hE
          exact sX0_lowestStreetFor_b68 (F := F) hC hk3 hE _ _ _ hH hS (lv_sub hl [0, 1, 2, 3, 4] rfl)
        · rw [if_pos c15] at hE
          refine lv_iload hx hb dX0_lowestStreetFor_65 (lv_at hl 4 rfl) ?_
          have hZ := Option.some.inj hE
          subst hZ
          exact W.iret (v := x4) hx hb hr (fun t ht hW => ⟨rfl, by rw [ht]; exact hH, hS.F ht⟩) hS.2.2 dX0_lowestStreetFor_67
theorem sX0_lowestStreetFor_b3 {b0 : Nat} {D : va_G} {cA : Nat → ClassId} {p : Program} {l : Launch} {ev : Env} {s : State} {m : MethodId} {args : Array Value} {below : List Frame} {meth : Method} {c : Code} {F : Nat} {z : (Int32 × HL)} (hC : Cx D cA p s m args meth c cX0_lowestStreetFor 5 RX0 wsX0_lowestStreetFor (some .int)) : ∀ (n : Nat) (a0 : Nat) (x1 : Int32) (x2 : Int32) (x3 : Int32) (x4 : Int32) (L : HL), fX0_lowestStreetFor_b3 F n a0 x1 x2 x3 x4 L = some z → WB b0 D cA p l ev (RM 3 0 0) s m args below meth c 5 0 0 (MQ below (Qk b0 D cA (some (.int z.1)) z.2) args s 0 0 (Ab b0)) 3 [(0, .ref (b0 + a0)), (1, .int x1), (2, .int x2), (3, .int x3), (4, .int x4)] [] L := by
  intro n
  induction n with
  | zero => intro a0 x1 x2 x3 x4 L hE; cases hE
  | succ n ih => intro a0 x1 x2 x3 x4 L hE; exact sX0_lowestStreetFor_b3c (F := F) hC ih hE
def fX0_lowestStreetFor (F : Nat) (L : HL) (a0 : Nat) (x1 : Int32) (x2 : Int32) (x3 : Int32) : Option (Int32 × HL) := (o_ob L a0 0).bind fun _ => fX0_lowestStreetFor_b3 F F a0 x1 x2 x3 0 L
theorem oX0_lowestStreetFor {F : Nat} {L : HL} {a0 : Nat} {x1 : Int32} {x2 : Int32} {x3 : Int32} {z : (Int32 × HL)} (hE : fX0_lowestStreetFor F L a0 x1 x2 x3 = some z) : o_ob L a0 0 = some () := by
  obtain ⟨_, h, _⟩ := Option.bind_eq_some_iff.mp hE
  exact h
set_option maxHeartbeats 4000000 in
set_option maxRecDepth 100000 in
theorem sX0_lowestStreetFor (l : Launch) (b0 : Nat) (D : va_G) (cA : Nat → ClassId) {F : Nat} {L : HL} {a0 : Nat} {x1 : Int32} {x2 : Int32} {x3 : Int32} {z : (Int32 × HL)} (hE : fX0_lowestStreetFor F L a0 x1 x2 x3 = some z) : Met l yX0_lowestStreetFor wsX0_lowestStreetFor (RM 3 0 0) (Pk b0 D cA [.ref (b0 + a0), .int x1, .int x2, .int x3] L) (Qk b0 D cA (some (.int z.1)) z.2) 0 0 (Ab b0) := by
  refine Met.ofW (cc := cX0_lowestStreetFor) (maxL := 5) (ret := (some .int)) (by decide) rfl ?_
  intro p ev s m args below meth c s₁ B hml hv
  obtain ⟨rfl, hH, hK⟩ := hv
  have hx := B.exec
  have hb := B.bytes
  have hr := B.returns
  have hts := atoms_spec (ws := wsX0_lowestStreetFor) B.pre
  have hown : s.vm.findClass RX0 = some m.cls := findClass_of_methodNamed B.named
  have hlocks := B.notSynchronized
  have hC : Cx D cA p s m _ meth c cX0_lowestStreetFor 5 RX0 wsX0_lowestStreetFor (some .int) := ⟨hx, hb, hml, hown, hts, hK, hr, hlocks⟩
  have hS : va_S (Ab b0) s.heap s.heap [] := va_S.rf
  have hl := lv_entry ([.ref (b0 + a0), .int x1, .int x2, .int x3]) (n := 5) (Nat.le_of_ble_eq_true rfl)
  rw [lg_entry_eq]
  generalize (lg_sl ([.ref (b0 + a0), .int x1, .int x2, .int x3]) ++ List.replicate (5 - (lg_sl ([.ref (b0 + a0), .int x1, .int x2, .int x3])).length) Slot.unset).toArray = ls at hl ⊢
  have hl : lv_has ls 5 [(0, .ref (b0 + a0)), (1, .int x1), (2, .int x2), (3, .int x3)] := hl
  unfold fX0_lowestStreetFor at hE
  obtain ⟨_, _, hE⟩ := Option.bind_eq_some_iff.mp hE
  refine lv_iconst (v := 0) hx hb dX0_lowestStreetFor_0 (by decide) ?_
  refine lv_istore (lv' := [(4, .int 0), (0, .ref (b0 + a0)), (1, .int x1), (2, .int x2), (3, .int x3)]) hx hb dX0_lowestStreetFor_1 hl (by decide) rfl (fun ls hl => ?_)
  exact sX0_lowestStreetFor_b3 (F := F) hC F _ _ _ _ _ _ hE _ _ _ hH hS (lv_sub hl [1, 2, 3, 4, 0] rfl)
-- X0_give
def fX0_give_b77 (F : Nat) (k23 : Nat → Int32 → Int32 → Int32 → Int32 → HL → Option (Int32 × HL)) (a0 : Nat) (x1 : Int32) (x2 : Int32) (x3 : Int32) (x4 : Int32) (L : HL) : Option (Int32 × HL) := k23 a0 x1 x2 x3 (x4 + 1) L
set_option maxHeartbeats 4000000 in
set_option maxRecDepth 100000 in
theorem sX0_give_b77 {b0 : Nat} {D : va_G} {cA : Nat → ClassId} {p : Program} {l : Launch} {ev : Env} {s : State} {m : MethodId} {args : Array Value} {below : List Frame} {meth : Method} {c : Code} {F : Nat} {z : (Int32 × HL)} {k23 : Nat → Int32 → Int32 → Int32 → Int32 → HL → Option (Int32 × HL)} {a0 : Nat} {x1 : Int32} {x2 : Int32} {x3 : Int32} {x4 : Int32} {L : HL} (hC : Cx D cA p s m args meth c cX0_give 5 RX0 wsX0_give (some .int)) (hk23 : ∀ (a0' : Nat) (x1' : Int32) (x2' : Int32) (x3' : Int32) (x4' : Int32) (L' : HL), k23 a0' x1' x2' x3' x4' L' = some z → WB b0 D cA p l ev (RM 4 0 0) s m args below meth c 5 0 0 (MQ below (Qk b0 D cA (some (.int z.1)) z.2) args s 0 0 (Ab b0)) 23 [(0, .ref (b0 + a0')), (1, .int x1'), (2, .int x2'), (3, .int x3'), (4, .int x4')] [] L') (hE : fX0_give_b77 F k23 a0 x1 x2 x3 x4 L = some z) : WB b0 D cA p l ev (RM 4 0 0) s m args below meth c 5 0 0 (MQ below (Qk b0 D cA (some (.int z.1)) z.2) args s 0 0 (Ab b0)) 77 [(0, .ref (b0 + a0)), (1, .int x1), (2, .int x2), (3, .int x3), (4, .int x4)] [] L := by
  obtain ⟨hx, hb, hml, hown, hts, hK, hr, hlocks⟩ := id hC
  intro H locs ls hH hS hl
  unfold fX0_give_b77 at hE
  refine lv_iinc (v := (x4 + 1)) (lv' := [(4, .int (x4 + 1)), (0, .ref (b0 + a0)), (1, .int x1), (2, .int x2), (3, .int x3)]) hx hb dX0_give_77 hl (k := 4) rfl rfl (by decide) rfl (fun ls hl => ?_)
  refine lv_goto (tgt := 23) hx hb dX0_give_80 (by decide) ?_
  exact hk23 _ _ _ _ _ _ hE _ _ _ hH hS (lv_sub hl [1, 2, 3, 4, 0] rfl)
def fX0_give_b23c (F : Nat) (k23 : Nat → Int32 → Int32 → Int32 → Int32 → HL → Option (Int32 × HL)) (a0 : Nat) (x1 : Int32) (x2 : Int32) (x3 : Int32) (x4 : Int32) (L : HL) : Option (Int32 × HL) := (o_gR L a0 0 1).bind fun v5 => (o_gI L v5 4 2).bind fun v6 => if v6 ≤ x4 then (some (x2, L)) else ((o_gR L a0 0 0).bind fun v8 => (fX0_lowestStreetFor F L a0 x4 x1 x3).bind fun z9 => (o_sI z9.2 v8 0 x4 z9.1).bind fun L10 => (o_gR L10 a0 0 0).bind fun v11 => (o_aI L10 v11 0 x4).bind fun v12 => if v12 = (-9) then (fX0_give_b77 F k23 a0 x1 x2 x3 x4 L10) else ((o_gR L10 a0 0 0).bind fun v14 => (o_aI L10 v14 0 x4).bind fun v15 => (fX5_without F L10 x1 v15).bind fun z16 => fX0_give_b77 F k23 a0 z16.1 x2 (x3 + (-1)) x4 z16.2))
def fX0_give_b23 (F : Nat) : Nat → Nat → Int32 → Int32 → Int32 → Int32 → HL → Option (Int32 × HL)
  | 0 => fun _ _ _ _ _ _ => none
  | n + 1 => fun a0 x1 x2 x3 x4 L => fX0_give_b23c F (fX0_give_b23 F n) a0 x1 x2 x3 x4 L
set_option maxHeartbeats 4000000 in
set_option maxRecDepth 100000 in
theorem sX0_give_b23c {b0 : Nat} {D : va_G} {cA : Nat → ClassId} {p : Program} {l : Launch} {ev : Env} {s : State} {m : MethodId} {args : Array Value} {below : List Frame} {meth : Method} {c : Code} {F : Nat} {z : (Int32 × HL)} {k23 : Nat → Int32 → Int32 → Int32 → Int32 → HL → Option (Int32 × HL)} {a0 : Nat} {x1 : Int32} {x2 : Int32} {x3 : Int32} {x4 : Int32} {L : HL} (hC : Cx D cA p s m args meth c cX0_give 5 RX0 wsX0_give (some .int)) (hk23 : ∀ (a0' : Nat) (x1' : Int32) (x2' : Int32) (x3' : Int32) (x4' : Int32) (L' : HL), k23 a0' x1' x2' x3' x4' L' = some z → WB b0 D cA p l ev (RM 4 0 0) s m args below meth c 5 0 0 (MQ below (Qk b0 D cA (some (.int z.1)) z.2) args s 0 0 (Ab b0)) 23 [(0, .ref (b0 + a0')), (1, .int x1'), (2, .int x2'), (3, .int x3'), (4, .int x4')] [] L') (hE : fX0_give_b23c F k23 a0 x1 x2 x3 x4 L = some z) : WB b0 D cA p l ev (RM 4 0 0) s m args below meth c 5 0 0 (MQ below (Qk b0 D cA (some (.int z.1)) z.2) args s 0 0 (Ab b0)) 23 [(0, .ref (b0 + a0)), (1, .int x1), (2, .int x2), (3, .int x3), (4, .int x4)] [] L := by
  obtain ⟨hx, hb, hml, hown, hts, hK, hr, hlocks⟩ := id hC
  intro H locs ls hH hS hl
  unfold fX0_give_b23c at hE
  refine lv_iload hx hb dX0_give_23 (lv_at hl 4 rfl) ?_
  refine lv_aload_n hx hb dX0_give_25 rfl (lv_at hl 0 rfl) ?_
  obtain ⟨v5, hv5, hE⟩ := Option.bind_eq_some_iff.mp hE
  refine r_gR 1 (C := RX0) (T := TX0) (N := 2) (ci := 0) hx hb hts (by decide +kernel) hown hK hH hv5 rfl (by decide) (hts (.fieldLink RX0 18 "KindStreets$Carriages" "plan" "LKindStreets$Plan;") (by decide +kernel)) (fun _ h9 => h9) dX0_give_26 ?_
  obtain ⟨v6, hv6, hE⟩ := Option.bind_eq_some_iff.mp hE
  refine r_gI 2 (C := RX4) (T := TX4) (N := 9) (ci := 4) hx hb hts (by decide +kernel) hown hK hH hv6 rfl (by decide) (hts (.fieldLink RX0 36 "KindStreets$Plan" "citizens" "I") (by decide +kernel)) (u_same (hts (.sameField "KindStreets$Plan" "KindStreets$Town" "citizens" "I") (by decide +kernel))) dX0_give_29 ?_
  refine lv_icmp_ge (tgt := 83) hx hb dX0_give_32 (by decide) (fun c7 => ?_) (fun c7 => ?_)
  · rw [if_pos c7] at hE
    refine lv_iload_n hx hb dX0_give_83 rfl (lv_at hl 2 rfl) ?_
    have hZ := Option.some.inj hE
    subst hZ
    exact W.iret (v := x2) hx hb hr (fun t ht hW => ⟨rfl, by rw [ht]; exact hH, hS.F ht⟩) hS.2.2 dX0_give_84
  · rw [if_neg c7] at hE
    refine lv_aload_n hx hb dX0_give_35 rfl (lv_at hl 0 rfl) ?_
    obtain ⟨v8, hv8, hE⟩ := Option.bind_eq_some_iff.mp hE
    refine r_gR 0 (C := RX0) (T := TX0) (N := 2) (ci := 0) hx hb hts (by decide +kernel) hown hK hH hv8 rfl (by decide) (hts (.fieldLink RX0 9 "KindStreets$Carriages" "given" "[I") (by decide +kernel)) (fun _ h9 => h9) dX0_give_36 ?_
    refine lv_iload hx hb dX0_give_39 (lv_at hl 4 rfl) ?_
    refine lv_aload_n hx hb dX0_give_41 rfl (lv_at hl 0 rfl) ?_
    refine lv_iload hx hb dX0_give_42 (lv_at hl 4 rfl) ?_
    refine lv_iload_n hx hb dX0_give_44 rfl (lv_at hl 1 rfl) ?_
    refine lv_iload_n hx hb dX0_give_45 rfl (lv_at hl 3 rfl) ?_
    obtain ⟨z9, hz9, hE⟩ := Option.bind_eq_some_iff.mp hE
    refine r_callI (va_runV (As := [.int x4, .int x1, .int x3]) (rest := [.int x4, .ref (b0 + v8)]) ⟨hx, hb, hml, hown, hts⟩ (sX0_lowestStreetFor l b0 D cA hz9) (cwV 3 hts gX0_give_X0_lowestStreetFor rfl rfl rfl (by decide +kernel) (rm_ok (by decide) (by decide))) (pre_V (ci := 0) hK hH (oX0_lowestStreetFor hz9) rfl) rfl rfl hl.1 rfl (lv_room (Nat.le_of_ble_eq_true rfl)) dX0_give_46 ⟨Nat.zero_le _, Nat.zero_le _⟩) hS (fun H locs hH hS => ?_)
    obtain ⟨L10, hL10, hE⟩ := Option.bind_eq_some_iff.mp hE
    refine r_iast hx hb hK hH hS hL10 dX0_give_49 (fun H locs hH hS => ?_)
    refine lv_aload_n hx hb dX0_give_50 rfl (lv_at hl 0 rfl) ?_
    obtain ⟨v11, hv11, hE⟩ := Option.bind_eq_some_iff.mp hE
    refine r_gR 0 (C := RX0) (T := TX0) (N := 2) (ci := 0) hx hb hts (by decide +kernel) hown hK hH hv11 rfl (by decide) (hts (.fieldLink RX0 9 "KindStreets$Carriages" "given" "[I") (by decide +kernel)) (fun _ h9 => h9) dX0_give_51 ?_
    refine lv_iload hx hb dX0_give_54 (lv_at hl 4 rfl) ?_
    obtain ⟨v12, hv12, hE⟩ := Option.bind_eq_some_iff.mp hE
    refine r_iald hx hb hK hH hv12 dX0_give_56 ?_
    refine lv_bipush (v := (-9)) hx hb dX0_give_57 (by decide) ?_
    refine lv_icmp_eq (tgt := 77) hx hb dX0_give_59 (by decide) (fun c13 => ?_) (fun c13 => ?_)
    · rw [if_pos c13] at hE
      exact sX0_give_b77 (F := F) hC hk23 hE _ _ _ hH hS (lv_sub hl [0, 1, 2, 3, 4] rfl)
    · rw [if_neg c13] at hE
      refine lv_iload_n hx hb dX0_give_62 rfl (lv_at hl 1 rfl) ?_
      refine lv_aload_n hx hb dX0_give_63 rfl (lv_at hl 0 rfl) ?_
      obtain ⟨v14, hv14, hE⟩ := Option.bind_eq_some_iff.mp hE
      refine r_gR 0 (C := RX0) (T := TX0) (N := 2) (ci := 0) hx hb hts (by decide +kernel) hown hK hH hv14 rfl (by decide) (hts (.fieldLink RX0 9 "KindStreets$Carriages" "given" "[I") (by decide +kernel)) (fun _ h9 => h9) dX0_give_64 ?_
      refine lv_iload hx hb dX0_give_67 (lv_at hl 4 rfl) ?_
      obtain ⟨v15, hv15, hE⟩ := Option.bind_eq_some_iff.mp hE
      refine r_iald hx hb hK hH hv15 dX0_give_69 ?_
      obtain ⟨z16, hz16, hE⟩ := Option.bind_eq_some_iff.mp hE
      refine r_callI (va_runS (As := [.int x1, .int v15]) (rest := []) ⟨hx, hb, hml, hown, hts⟩ (sX5_without l b0 D cA hz16) (va_cwS 2 hts gX0_give_X5_without rfl rfl rfl (by decide +kernel) (rm_ok (by decide) (by decide))) (pre_S hK hH) rfl rfl hl.1 rfl (lv_room (Nat.le_of_ble_eq_true rfl)) dX0_give_70 ⟨Nat.zero_le _, Nat.zero_le _⟩) hS (fun H locs hH hS => ?_)
      refine lv_istore_n (lv' := [(1, .int z16.1), (0, .ref (b0 + a0)), (2, .int x2), (3, .int x3), (4, .int x4)]) hx hb dX0_give_73 rfl hl (by decide) rfl (fun ls hl => ?_)
      refine lv_iinc (v := (x3 + (-1))) (lv' := [(3, .int (x3 + (-1))), (1, .int z16.1), (0, .ref (b0 + a0)), (2, .int x2), (4, .int x4)]) hx hb dX0_give_74 hl (k := 3) rfl rfl (by decide) rfl (fun ls hl => ?_)
      exact sX0_give_b77 (F := F) hC hk23 hE _ _ _ hH hS (lv_sub hl [2, 1, 3, 0, 4] rfl)
theorem sX0_give_b23 {b0 : Nat} {D : va_G} {cA : Nat → ClassId} {p : Program} {l : Launch} {ev : Env} {s : State} {m : MethodId} {args : Array Value} {below : List Frame} {meth : Method} {c : Code} {F : Nat} {z : (Int32 × HL)} (hC : Cx D cA p s m args meth c cX0_give 5 RX0 wsX0_give (some .int)) : ∀ (n : Nat) (a0 : Nat) (x1 : Int32) (x2 : Int32) (x3 : Int32) (x4 : Int32) (L : HL), fX0_give_b23 F n a0 x1 x2 x3 x4 L = some z → WB b0 D cA p l ev (RM 4 0 0) s m args below meth c 5 0 0 (MQ below (Qk b0 D cA (some (.int z.1)) z.2) args s 0 0 (Ab b0)) 23 [(0, .ref (b0 + a0)), (1, .int x1), (2, .int x2), (3, .int x3), (4, .int x4)] [] L := by
  intro n
  induction n with
  | zero => intro a0 x1 x2 x3 x4 L hE; cases hE
  | succ n ih => intro a0 x1 x2 x3 x4 L hE; exact sX0_give_b23c (F := F) hC ih hE
def fX0_give (F : Nat) (L : HL) (a0 : Nat) : Option (Int32 × HL) := (o_ob L a0 0).bind fun _ => (o_gR L a0 0 1).bind fun v1 => (o_gI L v1 4 1).bind fun v2 => (fX5_allOf F L v2).bind fun z3 => (fX0_mostFrom F z3.2 a0 0 z3.1).bind fun z4 => fX0_give_b23 F F a0 z3.1 z4.1 z4.1 0 z4.2
theorem oX0_give {F : Nat} {L : HL} {a0 : Nat} {z : (Int32 × HL)} (hE : fX0_give F L a0 = some z) : o_ob L a0 0 = some () := by
  obtain ⟨_, h, _⟩ := Option.bind_eq_some_iff.mp hE
  exact h
set_option maxHeartbeats 4000000 in
set_option maxRecDepth 100000 in
theorem sX0_give (l : Launch) (b0 : Nat) (D : va_G) (cA : Nat → ClassId) {F : Nat} {L : HL} {a0 : Nat} {z : (Int32 × HL)} (hE : fX0_give F L a0 = some z) : Met l yX0_give wsX0_give (RM 4 0 0) (Pk b0 D cA [.ref (b0 + a0)] L) (Qk b0 D cA (some (.int z.1)) z.2) 0 0 (Ab b0) := by
  refine Met.ofW (cc := cX0_give) (maxL := 5) (ret := (some .int)) (by decide) rfl ?_
  intro p ev s m args below meth c s₁ B hml hv
  obtain ⟨rfl, hH, hK⟩ := hv
  have hx := B.exec
  have hb := B.bytes
  have hr := B.returns
  have hts := atoms_spec (ws := wsX0_give) B.pre
  have hown : s.vm.findClass RX0 = some m.cls := findClass_of_methodNamed B.named
  have hlocks := B.notSynchronized
  have hC : Cx D cA p s m _ meth c cX0_give 5 RX0 wsX0_give (some .int) := ⟨hx, hb, hml, hown, hts, hK, hr, hlocks⟩
  have hS : va_S (Ab b0) s.heap s.heap [] := va_S.rf
  have hl := lv_entry ([.ref (b0 + a0)]) (n := 5) (Nat.le_of_ble_eq_true rfl)
  rw [lg_entry_eq]
  generalize (lg_sl ([.ref (b0 + a0)]) ++ List.replicate (5 - (lg_sl ([.ref (b0 + a0)])).length) Slot.unset).toArray = ls at hl ⊢
  have hl : lv_has ls 5 [(0, .ref (b0 + a0))] := hl
  unfold fX0_give at hE
  obtain ⟨_, _, hE⟩ := Option.bind_eq_some_iff.mp hE
  refine lv_aload_n hx hb dX0_give_0 rfl (lv_at hl 0 rfl) ?_
  obtain ⟨v1, hv1, hE⟩ := Option.bind_eq_some_iff.mp hE
  refine r_gR 1 (C := RX0) (T := TX0) (N := 2) (ci := 0) hx hb hts (by decide +kernel) hown hK hH hv1 rfl (by decide) (hts (.fieldLink RX0 18 "KindStreets$Carriages" "plan" "LKindStreets$Plan;") (by decide +kernel)) (fun _ h9 => h9) dX0_give_1 ?_
  obtain ⟨v2, hv2, hE⟩ := Option.bind_eq_some_iff.mp hE
  refine r_gI 1 (C := RX4) (T := TX4) (N := 9) (ci := 4) hx hb hts (by decide +kernel) hown hK hH hv2 rfl (by decide) (hts (.fieldLink RX0 22 "KindStreets$Plan" "streets" "I") (by decide +kernel)) (u_same (hts (.sameField "KindStreets$Plan" "KindStreets$Town" "streets" "I") (by decide +kernel))) dX0_give_4 ?_
  obtain ⟨z3, hz3, hE⟩ := Option.bind_eq_some_iff.mp hE
  refine r_callI (va_runS (As := [.int v2]) (rest := []) ⟨hx, hb, hml, hown, hts⟩ (sX5_allOf l b0 D cA hz3) (va_cwS 1 hts gX0_give_X5_allOf rfl rfl rfl (by decide +kernel) (rm_ok (by decide) (by decide))) (pre_S hK hH) rfl rfl hl.1 rfl (lv_room (Nat.le_of_ble_eq_true rfl)) dX0_give_7 ⟨Nat.zero_le _, Nat.zero_le _⟩) hS (fun H locs hH hS => ?_)
  refine lv_istore_n (lv' := [(1, .int z3.1), (0, .ref (b0 + a0))]) hx hb dX0_give_10 rfl hl (by decide) rfl (fun ls hl => ?_)
  refine lv_aload_n hx hb dX0_give_11 rfl (lv_at hl 1 rfl) ?_
  refine lv_iconst (v := 0) hx hb dX0_give_12 (by decide) ?_
  refine lv_iload_n hx hb dX0_give_13 rfl (lv_at hl 0 rfl) ?_
  obtain ⟨z4, hz4, hE⟩ := Option.bind_eq_some_iff.mp hE
  refine r_callI (va_runV (As := [.int 0, .int z3.1]) (rest := []) ⟨hx, hb, hml, hown, hts⟩ (sX0_mostFrom l b0 D cA hz4) (cwV 2 hts gX0_give_X0_mostFrom rfl rfl rfl (by decide +kernel) (rm_ok (by decide) (by decide))) (pre_V (ci := 0) hK hH (oX0_mostFrom hz4) rfl) rfl rfl hl.1 rfl (lv_room (Nat.le_of_ble_eq_true rfl)) dX0_give_14 ⟨Nat.zero_le _, Nat.zero_le _⟩) hS (fun H locs hH hS => ?_)
  refine lv_istore_n (lv' := [(2, .int z4.1), (1, .int z3.1), (0, .ref (b0 + a0))]) hx hb dX0_give_17 rfl hl (by decide) rfl (fun ls hl => ?_)
  refine lv_iload_n hx hb dX0_give_18 rfl (lv_at hl 0 rfl) ?_
  refine lv_istore_n (lv' := [(3, .int z4.1), (2, .int z4.1), (1, .int z3.1), (0, .ref (b0 + a0))]) hx hb dX0_give_19 rfl hl (by decide) rfl (fun ls hl => ?_)
  refine lv_iconst (v := 0) hx hb dX0_give_20 (by decide) ?_
  refine lv_istore (lv' := [(4, .int 0), (3, .int z4.1), (2, .int z4.1), (1, .int z3.1), (0, .ref (b0 + a0))]) hx hb dX0_give_21 hl (by decide) rfl (fun ls hl => ?_)
  exact sX0_give_b23 (F := F) hC F _ _ _ _ _ _ hE _ _ _ hH hS (lv_sub hl [4, 3, 2, 1, 0] rfl)

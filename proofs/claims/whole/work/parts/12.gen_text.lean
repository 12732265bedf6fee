-- X6_isDigit
def fX6_isDigit_b16 (F : Nat)  (L : HL) : Option (Int32 × HL) := some (0, L)
set_option maxHeartbeats 4000000 in
set_option maxRecDepth 100000 in
theorem sX6_isDigit_b16 {b0 : Nat} {D : va_G} {cA : Nat → ClassId} {p : Program} {l : Launch} {ev : Env} {s : State} {m : MethodId} {args : Array Value} {below : List Frame} {meth : Method} {c : Code} {F : Nat} {z : (Int32 × HL)}  {L : HL} (hC : Cx D cA p s m args meth c cX6_isDigit 1 RX6 wsX6_isDigit (some .boolean)) (hE : fX6_isDigit_b16 F  L = some z) : WB b0 D cA p l ev (RM 0 0 0) s m args below meth c 1 0 0 (MQ below (Qk b0 D cA (some (.int z.1)) z.2) args s 0 0 (Ab b0)) 16 [] [] L := by
  obtain ⟨hx, hb, hml, hown, hts, hK, hr, hlocks⟩ := id hC
  intro H locs ls hH hS hl
  unfold fX6_isDigit_b16 at hE
  refine lv_iconst (v := 0) hx hb dX6_isDigit_16 (by decide) ?_
  have hZ := Option.some.inj hE
  subst hZ
  exact W.zret (v := 0) (ty := .boolean) hx hb hr rfl (fun t ht hW => ⟨rfl, by rw [ht]; exact hH, hS.F ht⟩) hS.2.2 dX6_isDigit_17
def fX6_isDigit (F : Nat) (L : HL) (x0 : Int32) : Option (Int32 × HL) := if x0 < 48 then (fX6_isDigit_b16 F L) else (if 57 < x0 then (fX6_isDigit_b16 F L) else (some (1, L)))
set_option maxHeartbeats 4000000 in
set_option maxRecDepth 100000 in
theorem sX6_isDigit (l : Launch) (b0 : Nat) (D : va_G) (cA : Nat → ClassId) {F : Nat} {L : HL} {x0 : Int32} {z : (Int32 × HL)} (hE : fX6_isDigit F L x0 = some z) : Met l yX6_isDigit wsX6_isDigit (RM 0 0 0) (Pk b0 D cA [.int x0] L) (Qk b0 D cA (some (.int z.1)) z.2) 0 0 (Ab b0) := by
  refine Met.ofW (cc := cX6_isDigit) (maxL := 1) (ret := (some .boolean)) (by decide) rfl ?_
  intro p ev s m args below meth c s₁ B hml hv
  obtain ⟨rfl, hH, hK⟩ := hv
  have hx := B.exec
  have hb := B.bytes
  have hr := B.returns
  have hts := atoms_spec (ws := wsX6_isDigit) B.pre
  have hown : s.vm.findClass RX6 = some m.cls := findClass_of_methodNamed B.named
  have hlocks := B.notSynchronized
  have hC : Cx D cA p s m _ meth c cX6_isDigit 1 RX6 wsX6_isDigit (some .boolean) := ⟨hx, hb, hml, hown, hts, hK, hr, hlocks⟩
  have hS : va_S (Ab b0) s.heap s.heap [] := va_S.rf
  have hl := lv_entry ([.int x0]) (n := 1) (Nat.le_of_ble_eq_true rfl)
  rw [lg_entry_eq]
  generalize (lg_sl ([.int x0]) ++ List.replicate (1 - (lg_sl ([.int x0])).length) Slot.unset).toArray = ls at hl ⊢
  have hl : lv_has ls 1 [(0, .int x0)] := hl
  unfold fX6_isDigit at hE
  refine lv_iload_n hx hb dX6_isDigit_0 rfl (lv_at hl 0 rfl) ?_
  refine lv_bipush (v := 48) hx hb dX6_isDigit_1 (by decide) ?_
  refine lv_icmp_lt (tgt := 16) hx hb dX6_isDigit_3 (by decide) (fun c1 => ?_) (fun c1 => ?_)
  · rw [if_pos c1] at hE
    exact sX6_isDigit_b16 (F := F) hC hE _ _ _ hH hS (lv_sub hl [] rfl)
  · rw [if_neg c1] at hE
    refine lv_iload_n hx hb dX6_isDigit_6 rfl (lv_at hl 0 rfl) ?_
    refine lv_bipush (v := 57) hx hb dX6_isDigit_7 (by decide) ?_
    refine lv_icmp_gt (tgt := 16) hx hb dX6_isDigit_9 (by decide) (fun c2 => ?_) (fun c2 => ?_)
    · rw [if_pos c2] at hE
      exact sX6_isDigit_b16 (F := F) hC hE _ _ _ hH hS (lv_sub hl [] rfl)
    · rw [if_neg c2] at hE
      refine lv_iconst (v := 1) hx hb dX6_isDigit_12 (by decide) ?_
      refine lv_goto (tgt := 17) hx hb dX6_isDigit_13 (by decide) ?_
      have hZ := Option.some.inj hE
      subst hZ
      exact W.zret (v := 1) (ty := .boolean) hx hb hr rfl (fun t ht hW => ⟨rfl, by rw [ht]; exact hH, hS.F ht⟩) hS.2.2 dX6_isDigit_17
-- X6_isLetter
def fX6_isLetter_b16 (F : Nat)  (L : HL) : Option (Int32 × HL) := some (0, L)
set_option maxHeartbeats 4000000 in
set_option maxRecDepth 100000 in
theorem sX6_isLetter_b16 {b0 : Nat} {D : va_G} {cA : Nat → ClassId} {p : Program} {l : Launch} {ev : Env} {s : State} {m : MethodId} {args : Array Value} {below : List Frame} {meth : Method} {c : Code} {F : Nat} {z : (Int32 × HL)}  {L : HL} (hC : Cx D cA p s m args meth c cX6_isLetter 1 RX6 wsX6_isLetter (some .boolean)) (hE : fX6_isLetter_b16 F  L = some z) : WB b0 D cA p l ev (RM 0 0 0) s m args below meth c 1 0 0 (MQ below (Qk b0 D cA (some (.int z.1)) z.2) args s 0 0 (Ab b0)) 16 [] [] L := by
  obtain ⟨hx, hb, hml, hown, hts, hK, hr, hlocks⟩ := id hC
  intro H locs ls hH hS hl
  unfold fX6_isLetter_b16 at hE
  refine lv_iconst (v := 0) hx hb dX6_isLetter_16 (by decide) ?_
  have hZ := Option.some.inj hE
  subst hZ
  exact W.zret (v := 0) (ty := .boolean) hx hb hr rfl (fun t ht hW => ⟨rfl, by rw [ht]; exact hH, hS.F ht⟩) hS.2.2 dX6_isLetter_17
def fX6_isLetter (F : Nat) (L : HL) (x0 : Int32) : Option (Int32 × HL) := if x0 < 97 then (fX6_isLetter_b16 F L) else (if 122 < x0 then (fX6_isLetter_b16 F L) else (some (1, L)))
set_option maxHeartbeats 4000000 in
set_option maxRecDepth 100000 in
theorem sX6_isLetter (l : Launch) (b0 : Nat) (D : va_G) (cA : Nat → ClassId) {F : Nat} {L : HL} {x0 : Int32} {z : (Int32 × HL)} (hE : fX6_isLetter F L x0 = some z) : Met l yX6_isLetter wsX6_isLetter (RM 0 0 0) (Pk b0 D cA [.int x0] L) (Qk b0 D cA (some (.int z.1)) z.2) 0 0 (Ab b0) := by
  refine Met.ofW (cc := cX6_isLetter) (maxL := 1) (ret := (some .boolean)) (by decide) rfl ?_
  intro p ev s m args below meth c s₁ B hml hv
  obtain ⟨rfl, hH, hK⟩ := hv
  have hx := B.exec
  have hb := B.bytes
  have hr := B.returns
  have hts := atoms_spec (ws := wsX6_isLetter) B.pre
  have hown : s.vm.findClass RX6 = some m.cls := findClass_of_methodNamed B.named
  have hlocks := B.notSynchronized
  have hC : Cx D cA p s m _ meth c cX6_isLetter 1 RX6 wsX6_isLetter (some .boolean) := ⟨hx, hb, hml, hown, hts, hK, hr, hlocks⟩
  have hS : va_S (Ab b0) s.heap s.heap [] := va_S.rf
  have hl := lv_entry ([.int x0]) (n := 1) (Nat.le_of_ble_eq_true rfl)
  rw [lg_entry_eq]
  generalize (lg_sl ([.int x0]) ++ List.replicate (1 - (lg_sl ([.int x0])).length) Slot.unset).toArray = ls at hl ⊢
  have hl : lv_has ls 1 [(0, .int x0)] := hl
  unfold fX6_isLetter at hE
  refine lv_iload_n hx hb dX6_isLetter_0 rfl (lv_at hl 0 rfl) ?_
  refine lv_bipush (v := 97) hx hb dX6_isLetter_1 (by decide) ?_
  refine lv_icmp_lt (tgt := 16) hx hb dX6_isLetter_3 (by decide) (fun c1 => ?_) (fun c1 => ?_)
  · rw [if_pos c1] at hE
    exact sX6_isLetter_b16 (F := F) hC hE _ _ _ hH hS (lv_sub hl [] rfl)
  · rw [if_neg c1] at hE
    refine lv_iload_n hx hb dX6_isLetter_6 rfl (lv_at hl 0 rfl) ?_
    refine lv_bipush (v := 122) hx hb dX6_isLetter_7 (by decide) ?_
    refine lv_icmp_gt (tgt := 16) hx hb dX6_isLetter_9 (by decide) (fun c2 => ?_) (fun c2 => ?_)
    · rw [if_pos c2] at hE
      exact sX6_isLetter_b16 (F := F) hC hE _ _ _ hH hS (lv_sub hl [] rfl)
    · rw [if_neg c2] at hE
      refine lv_iconst (v := 1) hx hb dX6_isLetter_12 (by decide) ?_
      refine lv_goto (tgt := 17) hx hb dX6_isLetter_13 (by decide) ?_
      have hZ := Option.some.inj hE
      subst hZ
      exact W.zret (v := 1) (ty := .boolean) hx hb hr rfl (fun t ht hW => ⟨rfl, by rw [ht]; exact hH, hS.F ht⟩) hS.2.2 dX6_isLetter_17
-- X6_byteAt
def fX6_byteAt_b27 (F : Nat)  (L : HL) : Option (Int32 × HL) := some ((-1), L)
set_option maxHeartbeats 4000000 in
set_option maxRecDepth 100000 in
theorem sX6_byteAt_b27 {b0 : Nat} {D : va_G} {cA : Nat → ClassId} {p : Program} {l : Launch} {ev : Env} {s : State} {m : MethodId} {args : Array Value} {below : List Frame} {meth : Method} {c : Code} {F : Nat} {z : (Int32 × HL)}  {L : HL} (hC : Cx D cA p s m args meth c cX6_byteAt 2 RX6 wsX6_byteAt (some .int)) (hE : fX6_byteAt_b27 F  L = some z) : WB b0 D cA p l ev (RM 0 0 0) s m args below meth c 2 0 0 (MQ below (Qk b0 D cA (some (.int z.1)) z.2) args s 0 0 (Ab b0)) 27 [] [] L := by
  obtain ⟨hx, hb, hml, hown, hts, hK, hr, hlocks⟩ := id hC
  intro H locs ls hH hS hl
  unfold fX6_byteAt_b27 at hE
  refine lv_iconst (v := (-1)) hx hb dX6_byteAt_27 (by decide) ?_
  have hZ := Option.some.inj hE
  subst hZ
  exact W.iret (v := (-1)) hx hb hr (fun t ht hW => ⟨rfl, by rw [ht]; exact hH, hS.F ht⟩) hS.2.2 dX6_byteAt_28
def fX6_byteAt (F : Nat) (L : HL) (a0 : Nat) (x1 : Int32) : Option (Int32 × HL) := (o_ob L a0 5).bind fun _ => if x1 < 0 then (fX6_byteAt_b27 F L) else ((o_gI L a0 5 2).bind fun v2 => if v2 ≤ x1 then (fX6_byteAt_b27 F L) else (if 120 ≤ x1 then (fX6_byteAt_b27 F L) else ((o_gR L a0 5 0).bind fun v5 => (o_aI L v5 0 x1).bind fun v6 => some (v6, L))))
theorem oX6_byteAt {F : Nat} {L : HL} {a0 : Nat} {x1 : Int32} {z : (Int32 × HL)} (hE : fX6_byteAt F L a0 x1 = some z) : o_ob L a0 5 = some () := by
  obtain ⟨_, h, _⟩ := Option.bind_eq_some_iff.mp hE
  exact h
set_option maxHeartbeats 4000000 in
set_option maxRecDepth 100000 in
theorem sX6_byteAt (l : Launch) (b0 : Nat) (D : va_G) (cA : Nat → ClassId) {F : Nat} {L : HL} {a0 : Nat} {x1 : Int32} {z : (Int32 × HL)} (hE : fX6_byteAt F L a0 x1 = some z) : Met l yX6_byteAt wsX6_byteAt (RM 0 0 0) (Pk b0 D cA [.ref (b0 + a0), .int x1] L) (Qk b0 D cA (some (.int z.1)) z.2) 0 0 (Ab b0) := by
  refine Met.ofW (cc := cX6_byteAt) (maxL := 2) (ret := (some .int)) (by decide) rfl ?_
  intro p ev s m args below meth c s₁ B hml hv
  obtain ⟨rfl, hH, hK⟩ := hv
  have hx := B.exec
  have hb := B.bytes
  have hr := B.returns
  have hts := atoms_spec (ws := wsX6_byteAt) B.pre
  have hown : s.vm.findClass RX6 = some m.cls := findClass_of_methodNamed B.named
  have hlocks := B.notSynchronized
  have hC : Cx D cA p s m _ meth c cX6_byteAt 2 RX6 wsX6_byteAt (some .int) := ⟨hx, hb, hml, hown, hts, hK, hr, hlocks⟩
  have hS : va_S (Ab b0) s.heap s.heap [] := va_S.rf
  have hl := lv_entry ([.ref (b0 + a0), .int x1]) (n := 2) (Nat.le_of_ble_eq_true rfl)
  rw [lg_entry_eq]
  generalize (lg_sl ([.ref (b0 + a0), .int x1]) ++ List.replicate (2 - (lg_sl ([.ref (b0 + a0), .int x1])).length) Slot.unset).toArray = ls at hl ⊢
  have hl : lv_has ls 2 [(0, .ref (b0 + a0)), (1, .int x1)] := hl
  unfold fX6_byteAt at hE
  obtain ⟨_, _, hE⟩ := Option.bind_eq_some_iff.mp hE
  refine lv_iload_n hx hb dX6_byteAt_0 rfl (lv_at hl 1 rfl) ?_
  refine lv_if_lt (tgt := 27) hx hb dX6_byteAt_1 (by decide) (fun c1 => ?_) (fun c1 => ?_)
  · rw [if_pos c1] at hE
    exact sX6_byteAt_b27 (F := F) hC hE _ _ _ hH hS (lv_sub hl [] rfl)
  · rw [if_neg c1] at hE
    refine lv_iload_n hx hb dX6_byteAt_4 rfl (lv_at hl 1 rfl) ?_
    refine lv_aload_n hx hb dX6_byteAt_5 rfl (lv_at hl 0 rfl) ?_
    obtain ⟨v2, hv2, hE⟩ := Option.bind_eq_some_iff.mp hE
    refine r_gI 2 (C := RX6) (T := TX6) (N := 3) (ci := 5) hx hb hts (by decide +kernel) hown hK hH hv2 rfl (by decide) (hts (.fieldLink RX6 15 "KindStreets$Text" "length" "I") (by decide +kernel)) (fun _ h9 => h9) dX6_byteAt_6 ?_
    refine lv_icmp_ge (tgt := 27) hx hb dX6_byteAt_9 (by decide) (fun c3 => ?_) (fun c3 => ?_)
    · rw [if_pos c3] at hE
      exact sX6_byteAt_b27 (F := F) hC hE _ _ _ hH hS (lv_sub hl [] rfl)
    · rw [if_neg c3] at hE
      refine lv_iload_n hx hb dX6_byteAt_12 rfl (lv_at hl 1 rfl) ?_
      refine lv_bipush (v := 120) hx hb dX6_byteAt_13 (by decide) ?_
      refine lv_icmp_ge (tgt := 27) hx hb dX6_byteAt_15 (by decide) (fun c4 => ?_) (fun c4 => ?_)
      · rw [if_pos c4] at hE
        exact sX6_byteAt_b27 (F := F) hC hE _ _ _ hH hS (lv_sub hl [] rfl)
      · rw [if_neg c4] at hE
        refine lv_aload_n hx hb dX6_byteAt_18 rfl (lv_at hl 0 rfl) ?_
        obtain ⟨v5, hv5, hE⟩ := Option.bind_eq_some_iff.mp hE
        refine r_gR 0 (C := RX6) (T := TX6) (N := 3) (ci := 5) hx hb hts (by decide +kernel) hown hK hH hv5 rfl (by decide) (hts (.fieldLink RX6 9 "KindStreets$Text" "bytes" "[I") (by decide +kernel)) (fun _ h9 => h9) dX6_byteAt_19 ?_
        refine lv_iload_n hx hb dX6_byteAt_22 rfl (lv_at hl 1 rfl) ?_
        obtain ⟨v6, hv6, hE⟩ := Option.bind_eq_some_iff.mp hE
        refine r_iald hx hb hK hH hv6 dX6_byteAt_23 ?_
        refine lv_goto (tgt := 28) hx hb dX6_byteAt_24 (by decide) ?_
        have hZ := Option.some.inj hE
        subst hZ
        exact W.iret (v := v6) hx hb hr (fun t ht hW => ⟨rfl, by rw [ht]; exact hH, hS.F ht⟩) hS.2.2 dX6_byteAt_28
-- X6_skipBlanks
def fX6_skipBlanks_b0c (F : Nat) (k0 : Nat → HL → Option HL) (a0 : Nat) (L : HL) : Option HL := (o_gI L a0 5 1).bind fun v1 => (o_gI L a0 5 2).bind fun v2 => if v2 ≤ v1 then (some L) else ((o_gI L a0 5 1).bind fun v4 => (fX6_byteAt F L a0 v4).bind fun z5 => if z5.1 = 32 then ((o_gI z5.2 a0 5 1).bind fun v7 => (o_p z5.2 a0 5 1 (.int (v7 + 1))).bind fun L8 => k0 a0 L8) else (some z5.2))
def fX6_skipBlanks_b0 (F : Nat) : Nat → Nat → HL → Option HL
  | 0 => fun _ _ => none
  | n + 1 => fun a0 L => fX6_skipBlanks_b0c F (fX6_skipBlanks_b0 F n) a0 L
set_option maxHeartbeats 4000000 in
set_option maxRecDepth 100000 in
theorem sX6_skipBlanks_b0c {b0 : Nat} {D : va_G} {cA : Nat → ClassId} {p : Program} {l : Launch} {ev : Env} {s : State} {m : MethodId} {args : Array Value} {below : List Frame} {meth : Method} {c : Code} {F : Nat} {z : HL} {k0 : Nat → HL → Option HL} {a0 : Nat} {L : HL} (hC : Cx D cA p s m args meth c cX6_skipBlanks 1 RX6 wsX6_skipBlanks none) (hk0 : ∀ (a0' : Nat) (L' : HL), k0 a0' L' = some z → WB b0 D cA p l ev (RM 1 0 0) s m args below meth c 1 0 0 (MQ below (Qk b0 D cA none z) args s 0 0 (Ab b0)) 0 [(0, .ref (b0 + a0'))] [] L') (hE : fX6_skipBlanks_b0c F k0 a0 L = some z) : WB b0 D cA p l ev (RM 1 0 0) s m args below meth c 1 0 0 (MQ below (Qk b0 D cA none z) args s 0 0 (Ab b0)) 0 [(0, .ref (b0 + a0))] [] L := by
  obtain ⟨hx, hb, hml, hown, hts, hK, hr, hlocks⟩ := id hC
  intro H locs ls hH hS hl
  unfold fX6_skipBlanks_b0c at hE
  refine lv_aload_n hx hb dX6_skipBlanks_0 rfl (lv_at hl 0 rfl) ?_
  obtain ⟨v1, hv1, hE⟩ := Option.bind_eq_some_iff.mp hE
  refine r_gI 1 (C := RX6) (T := TX6) (N := 3) (ci := 5) hx hb hts (by decide +kernel) hown hK hH hv1 rfl (by decide) (hts (.fieldLink RX6 24 "KindStreets$Text" "place" "I") (by decide +kernel)) (fun _ h9 => h9) dX6_skipBlanks_1 ?_
  refine lv_aload_n hx hb dX6_skipBlanks_4 rfl (lv_at hl 0 rfl) ?_
  obtain ⟨v2, hv2, hE⟩ := Option.bind_eq_some_iff.mp hE
  refine r_gI 2 (C := RX6) (T := TX6) (N := 3) (ci := 5) hx hb hts (by decide +kernel) hown hK hH hv2 rfl (by decide) (hts (.fieldLink RX6 15 "KindStreets$Text" "length" "I") (by decide +kernel)) (fun _ h9 => h9) dX6_skipBlanks_5 ?_
  refine lv_icmp_ge (tgt := 37) hx hb dX6_skipBlanks_8 (by decide) (fun c3 => ?_) (fun c3 => ?_)
  · rw [if_pos c3] at hE
    have hZ := Option.some.inj hE
    subst hZ
    exact W.vret hx hb hr (fun t ht hW => ⟨rfl, by rw [ht]; exact hH, hS.F ht⟩) hS.2.2 dX6_skipBlanks_37
  · rw [if_neg c3] at hE
    refine lv_aload_n hx hb dX6_skipBlanks_11 rfl (lv_at hl 0 rfl) ?_
    refine lv_aload_n hx hb dX6_skipBlanks_12 rfl (lv_at hl 0 rfl) ?_
    obtain ⟨v4, hv4, hE⟩ := Option.bind_eq_some_iff.mp hE
    refine r_gI 1 (C := RX6) (T := TX6) (N := 3) (ci := 5) hx hb hts (by decide +kernel) hown hK hH hv4 rfl (by decide) (hts (.fieldLink RX6 24 "KindStreets$Text" "place" "I") (by decide +kernel)) (fun _ h9 => h9) dX6_skipBlanks_13 ?_
    obtain ⟨z5, hz5, hE⟩ := Option.bind_eq_some_iff.mp hE
    refine r_callI (va_runV (As := [.int v4]) (rest := []) ⟨hx, hb, hml, hown, hts⟩ (sX6_byteAt l b0 D cA hz5) (cwV 1 hts gX6_skipBlanks_X6_byteAt rfl rfl rfl (by decide +kernel) (rm_ok (by decide) (by decide))) (pre_V (ci := 5) hK hH (oX6_byteAt hz5) rfl) rfl rfl hl.1 rfl (lv_room (Nat.le_of_ble_eq_true rfl)) dX6_skipBlanks_16 ⟨Nat.zero_le _, Nat.zero_le _⟩) hS (fun H locs hH hS => ?_)
    refine lv_bipush (v := 32) hx hb dX6_skipBlanks_19 (by decide) ?_
    refine lv_icmp_ne (tgt := 37) hx hb dX6_skipBlanks_21 (by decide) (fun c6 => ?_) (fun c6 => ?_)
    · rw [if_neg c6] at hE
      have hZ := Option.some.inj hE
      subst hZ
      exact W.vret hx hb hr (fun t ht hW => ⟨rfl, by rw [ht]; exact hH, hS.F ht⟩) hS.2.2 dX6_skipBlanks_37
    · rw [if_pos c6] at hE
      refine lv_aload_n hx hb dX6_skipBlanks_24 rfl (lv_at hl 0 rfl) ?_
      refine lv_dup hx hb dX6_skipBlanks_25 rfl ?_
      obtain ⟨v7, hv7, hE⟩ := Option.bind_eq_some_iff.mp hE
      refine r_gI 1 (C := RX6) (T := TX6) (N := 3) (ci := 5) hx hb hts (by decide +kernel) hown hK hH hv7 rfl (by decide) (hts (.fieldLink RX6 24 "KindStreets$Text" "place" "I") (by decide +kernel)) (fun _ h9 => h9) dX6_skipBlanks_26 ?_
      refine lv_iconst (v := 1) hx hb dX6_skipBlanks_29 (by decide) ?_
      refine lv_iadd hx hb dX6_skipBlanks_30 ?_
      obtain ⟨L8, hL8, hE⟩ := Option.bind_eq_some_iff.mp hE
      refine r_p 1 (v := .int (v7 + 1)) (ty := .int) (C := RX6) (T := TX6) (N := 3) (ci := 5) hx hb hts (by decide +kernel) tyX6 tyX6_ok nmX6 hown hK hH hS hL8 rfl (by decide) (hts (.fieldLink RX6 24 "KindStreets$Text" "place" "I") (by decide +kernel)) (fun _ h9 => h9) rfl (by decide +kernel) rfl rfl dX6_skipBlanks_31 (fun H locs hH hS => ?_)
      refine lv_goto (tgt := 0) hx hb dX6_skipBlanks_34 (by decide) ?_
      exact hk0 _ _ hE _ _ _ hH hS (lv_sub hl [0] rfl)
theorem sX6_skipBlanks_b0 {b0 : Nat} {D : va_G} {cA : Nat → ClassId} {p : Program} {l : Launch} {ev : Env} {s : State} {m : MethodId} {args : Array Value} {below : List Frame} {meth : Method} {c : Code} {F : Nat} {z : HL} (hC : Cx D cA p s m args meth c cX6_skipBlanks 1 RX6 wsX6_skipBlanks none) : ∀ (n : Nat) (a0 : Nat) (L : HL), fX6_skipBlanks_b0 F n a0 L = some z → WB b0 D cA p l ev (RM 1 0 0) s m args below meth c 1 0 0 (MQ below (Qk b0 D cA none z) args s 0 0 (Ab b0)) 0 [(0, .ref (b0 + a0))] [] L := by
  intro n
  induction n with
  | zero => intro a0 L hE; cases hE
  | succ n ih => intro a0 L hE; exact sX6_skipBlanks_b0c (F := F) hC ih hE
def fX6_skipBlanks (F : Nat) (L : HL) (a0 : Nat) : Option HL := (o_ob L a0 5).bind fun _ => fX6_skipBlanks_b0 F F a0 L
theorem oX6_skipBlanks {F : Nat} {L : HL} {a0 : Nat} {z : HL} (hE : fX6_skipBlanks F L a0 = some z) : o_ob L a0 5 = some () := by
  obtain ⟨_, h, _⟩ := Option.bind_eq_some_iff.mp hE
  exact h
set_option maxHeartbeats 4000000 in
set_option maxRecDepth 100000 in
theorem sX6_skipBlanks (l : Launch) (b0 : Nat) (D : va_G) (cA : Nat → ClassId) {F : Nat} {L : HL} {a0 : Nat} {z : HL} (hE : fX6_skipBlanks F L a0 = some z) : Met l yX6_skipBlanks wsX6_skipBlanks (RM 1 0 0) (Pk b0 D cA [.ref (b0 + a0)] L) (Qk b0 D cA none z) 0 0 (Ab b0) := by
  refine Met.ofW (cc := cX6_skipBlanks) (maxL := 1) (ret := none) (by decide) rfl ?_
  intro p ev s m args below meth c s₁ B hml hv
  obtain ⟨rfl, hH, hK⟩ := hv
  have hx := B.exec
  have hb := B.bytes
  have hr := B.returns
  have hts := atoms_spec (ws := wsX6_skipBlanks) B.pre
  have hown : s.vm.findClass RX6 = some m.cls := findClass_of_methodNamed B.named
  have hlocks := B.notSynchronized
  have hC : Cx D cA p s m _ meth c cX6_skipBlanks 1 RX6 wsX6_skipBlanks none := ⟨hx, hb, hml, hown, hts, hK, hr, hlocks⟩
  have hS : va_S (Ab b0) s.heap s.heap [] := va_S.rf
  have hl := lv_entry ([.ref (b0 + a0)]) (n := 1) (Nat.le_of_ble_eq_true rfl)
  rw [lg_entry_eq]
  generalize (lg_sl ([.ref (b0 + a0)]) ++ List.replicate (1 - (lg_sl ([.ref (b0 + a0)])).length) Slot.unset).toArray = ls at hl ⊢
  have hl : lv_has ls 1 [(0, .ref (b0 + a0))] := hl
  unfold fX6_skipBlanks at hE
  obtain ⟨_, _, hE⟩ := Option.bind_eq_some_iff.mp hE
  exact sX6_skipBlanks_b0 (F := F) hC F _ _ hE _ _ _ hH hS (lv_sub hl [0] rfl)
-- X6_loneLetter
def fX6_loneLetter (F : Nat) (L : HL) (a0 : Nat) : Option (Int32 × HL) := (o_ob L a0 5).bind fun _ => (o_gI L a0 5 1).bind fun v1 => (fX6_byteAt F L a0 (v1 + 1)).bind fun z2 => (fX6_isLetter F z2.2 z2.1).bind fun z3 => if z3.1 = 0 then ((o_gI z3.2 a0 5 1).bind fun v5 => (fX6_byteAt F z3.2 a0 v5).bind fun z6 => some (z6.1, z6.2)) else (some ((-1), z3.2))
theorem oX6_loneLetter {F : Nat} {L : HL} {a0 : Nat} {z : (Int32 × HL)} (hE : fX6_loneLetter F L a0 = some z) : o_ob L a0 5 = some () := by
  obtain ⟨_, h, _⟩ := Option.bind_eq_some_iff.mp hE
  exact h
set_option maxHeartbeats 4000000 in
set_option maxRecDepth 100000 in
theorem sX6_loneLetter (l : Launch) (b0 : Nat) (D : va_G) (cA : Nat → ClassId) {F : Nat} {L : HL} {a0 : Nat} {z : (Int32 × HL)} (hE : fX6_loneLetter F L a0 = some z) : Met l yX6_loneLetter wsX6_loneLetter (RM 1 0 0) (Pk b0 D cA [.ref (b0 + a0)] L) (Qk b0 D cA (some (.int z.1)) z.2) 0 0 (Ab b0) := by
  refine Met.ofW (cc := cX6_loneLetter) (maxL := 1) (ret := (some .int)) (by decide) rfl ?_
  intro p ev s m args below meth c s₁ B hml hv
  obtain ⟨rfl, hH, hK⟩ := hv
  have hx := B.exec
  have hb := B.bytes
  have hr := B.returns
  have hts := atoms_spec (ws := wsX6_loneLetter) B.pre
  have hown : s.vm.findClass RX6 = some m.cls := findClass_of_methodNamed B.named
  have hlocks := B.notSynchronized
  have hC : Cx D cA p s m _ meth c cX6_loneLetter 1 RX6 wsX6_loneLetter (some .int) := ⟨hx, hb, hml, hown, hts, hK, hr, hlocks⟩
  have hS : va_S (Ab b0) s.heap s.heap [] := va_S.rf
  have hl := lv_entry ([.ref (b0 + a0)]) (n := 1) (Nat.le_of_ble_eq_true rfl)
  rw [lg_entry_eq]
  generalize (lg_sl ([.ref (b0 + a0)]) ++ List.replicate (1 - (lg_sl ([.ref (b0 + a0)])).length) Slot.unset).toArray = ls at hl ⊢
  have hl : lv_has ls 1 [(0, .ref (b0 + a0))] := hl
  unfold fX6_loneLetter at hE
  obtain ⟨_, _, hE⟩ := Option.bind_eq_some_iff.mp hE
  refine lv_aload_n hx hb dX6_loneLetter_0 rfl (lv_at hl 0 rfl) ?_
  refine lv_aload_n hx hb dX6_loneLetter_1 rfl (lv_at hl 0 rfl) ?_
  obtain ⟨v1, hv1, hE⟩ := Option.bind_eq_some_iff.mp hE
  refine r_gI 1 (C := RX6) (T := TX6) (N := 3) (ci := 5) hx hb hts (by decide +kernel) hown hK hH hv1 rfl (by decide) (hts (.fieldLink RX6 24 "KindStreets$Text" "place" "I") (by decide +kernel)) (fun _ h9 => h9) dX6_loneLetter_2 ?_
  refine lv_iconst (v := 1) hx hb dX6_loneLetter_5 (by decide) ?_
  refine lv_iadd hx hb dX6_loneLetter_6 ?_
  obtain ⟨z2, hz2, hE⟩ := Option.bind_eq_some_iff.mp hE
  refine r_callI (va_runV (As := [.int (v1 + 1)]) (rest := []) ⟨hx, hb, hml, hown, hts⟩ (sX6_byteAt l b0 D cA hz2) (cwV 1 hts gX6_loneLetter_X6_byteAt rfl rfl rfl (by decide +kernel) (rm_ok (by decide) (by decide))) (pre_V (ci := 5) hK hH (oX6_byteAt hz2) rfl) rfl rfl hl.1 rfl (lv_room (Nat.le_of_ble_eq_true rfl)) dX6_loneLetter_7 ⟨Nat.zero_le _, Nat.zero_le _⟩) hS (fun H locs hH hS => ?_)
  obtain ⟨z3, hz3, hE⟩ := Option.bind_eq_some_iff.mp hE
  refine r_callI (va_runS (As := [.int z2.1]) (rest := []) ⟨hx, hb, hml, hown, hts⟩ (sX6_isLetter l b0 D cA hz3) (va_cwS 1 hts gX6_loneLetter_X6_isLetter rfl rfl rfl (by decide +kernel) (rm_ok (by decide) (by decide))) (pre_S hK hH) rfl rfl hl.1 rfl (lv_room (Nat.le_of_ble_eq_true rfl)) dX6_loneLetter_10 ⟨Nat.zero_le _, Nat.zero_le _⟩) hS (fun H locs hH hS => ?_)
  refine lv_if_eq (tgt := 20) hx hb dX6_loneLetter_13 (by decide) (fun c4 => ?_) (fun c4 => ?_)
  · rw [if_pos c4] at hE
    refine lv_aload_n hx hb dX6_loneLetter_20 rfl (lv_at hl 0 rfl) ?_
    refine lv_aload_n hx hb dX6_loneLetter_21 rfl (lv_at hl 0 rfl) ?_
    obtain ⟨v5, hv5, hE⟩ := Option.bind_eq_some_iff.mp hE
    refine r_gI 1 (C := RX6) (T := TX6) (N := 3) (ci := 5) hx hb hts (by decide +kernel) hown hK hH hv5 rfl (by decide) (hts (.fieldLink RX6 24 "KindStreets$Text" "place" "I") (by decide +kernel)) (fun _ h9 => h9) dX6_loneLetter_22 ?_
    obtain ⟨z6, hz6, hE⟩ := Option.bind_eq_some_iff.mp hE
    refine r_callI (va_runV (As := [.int v5]) (rest := []) ⟨hx, hb, hml, hown, hts⟩ (sX6_byteAt l b0 D cA hz6) (cwV 1 hts gX6_loneLetter_X6_byteAt rfl rfl rfl (by decide +kernel) (rm_ok (by decide) (by decide))) (pre_V (ci := 5) hK hH (oX6_byteAt hz6) rfl) rfl rfl hl.1 rfl (lv_room (Nat.le_of_ble_eq_true rfl)) dX6_loneLetter_25 ⟨Nat.zero_le _, Nat.zero_le _⟩) hS (fun H locs hH hS => ?_)
    have hZ := Option.some.inj hE
    subst hZ
    exact W.iret (v := z6.1) hx hb hr (fun t ht hW => ⟨rfl, by rw [ht]; exact hH, hS.F ht⟩) hS.2.2 dX6_loneLetter_28
  · rw [if_neg c4] at hE
    refine lv_iconst (v := (-1)) hx hb dX6_loneLetter_16 (by decide) ?_
    refine lv_goto (tgt := 28) hx hb dX6_loneLetter_17 (by decide) ?_
    have hZ := Option.some.inj hE
    subst hZ
    exact W.iret (v := (-1)) hx hb hr (fun t ht hW => ⟨rfl, by rw [ht]; exact hH, hS.F ht⟩) hS.2.2 dX6_loneLetter_28
-- X6_numberOf
def fX6_numberOf_b64 (F : Nat)  (L : HL) : Option (Int32 × HL) := some ((-1), L)
set_option maxHeartbeats 4000000 in
set_option maxRecDepth 100000 in
theorem sX6_numberOf_b64 {b0 : Nat} {D : va_G} {cA : Nat → ClassId} {p : Program} {l : Launch} {ev : Env} {s : State} {m : MethodId} {args : Array Value} {below : List Frame} {meth : Method} {c : Code} {F : Nat} {z : (Int32 × HL)}  {L : HL} (hC : Cx D cA p s m args meth c cX6_numberOf 2 RX6 wsX6_numberOf (some .int)) (hE : fX6_numberOf_b64 F  L = some z) : WB b0 D cA p l ev (RM 1 0 0) s m args below meth c 2 0 0 (MQ below (Qk b0 D cA (some (.int z.1)) z.2) args s 0 0 (Ab b0)) 64 [] [] L := by
  obtain ⟨hx, hb, hml, hown, hts, hK, hr, hlocks⟩ := id hC
  intro H locs ls hH hS hl
  unfold fX6_numberOf_b64 at hE
  refine lv_iconst (v := (-1)) hx hb dX6_numberOf_64 (by decide) ?_
  have hZ := Option.some.inj hE
  subst hZ
  exact W.iret (v := (-1)) hx hb hr (fun t ht hW => ⟨rfl, by rw [ht]; exact hH, hS.F ht⟩) hS.2.2 dX6_numberOf_65
def fX6_numberOf (F : Nat) (L : HL) (a0 : Nat) (x1 : Int32) : Option (Int32 × HL) := (o_ob L a0 5).bind fun _ => if x1 = 1 then ((o_gI L a0 5 1).bind fun v10 => (fX6_byteAt F L a0 v10).bind fun z11 => some (z11.1 - 48, z11.2)) else (if x1 = 2 then ((o_gI L a0 5 1).bind fun v3 => (fX6_byteAt F L a0 v3).bind fun z4 => if z4.1 = 48 then (fX6_numberOf_b64 F z4.2) else ((o_gI z4.2 a0 5 1).bind fun v6 => (fX6_byteAt F z4.2 a0 v6).bind fun z7 => (o_gI z7.2 a0 5 1).bind fun v8 => (fX6_byteAt F z7.2 a0 (v8 + 1)).bind fun z9 => some (((10 * (z7.1 - 48)) + z9.1) - 48, z9.2))) else (fX6_numberOf_b64 F L))
theorem oX6_numberOf {F : Nat} {L : HL} {a0 : Nat} {x1 : Int32} {z : (Int32 × HL)} (hE : fX6_numberOf F L a0 x1 = some z) : o_ob L a0 5 = some () := by
  obtain ⟨_, h, _⟩ := Option.bind_eq_some_iff.mp hE
  exact h
set_option maxHeartbeats 4000000 in
set_option maxRecDepth 100000 in
theorem sX6_numberOf (l : Launch) (b0 : Nat) (D : va_G) (cA : Nat → ClassId) {F : Nat} {L : HL} {a0 : Nat} {x1 : Int32} {z : (Int32 × HL)} (hE : fX6_numberOf F L a0 x1 = some z) : Met l yX6_numberOf wsX6_numberOf (RM 1 0 0) (Pk b0 D cA [.ref (b0 + a0), .int x1] L) (Qk b0 D cA (some (.int z.1)) z.2) 0 0 (Ab b0) := by
  refine Met.ofW (cc := cX6_numberOf) (maxL := 2) (ret := (some .int)) (by decide) rfl ?_
  intro p ev s m args below meth c s₁ B hml hv
  obtain ⟨rfl, hH, hK⟩ := hv
  have hx := B.exec
  have hb := B.bytes
  have hr := B.returns
  have hts := atoms_spec (ws := wsX6_numberOf) B.pre
  have hown : s.vm.findClass RX6 = some m.cls := findClass_of_methodNamed B.named
  have hlocks := B.notSynchronized
  have hC : Cx D cA p s m _ meth c cX6_numberOf 2 RX6 wsX6_numberOf (some .int) := ⟨hx, hb, hml, hown, hts, hK, hr, hlocks⟩
  have hS : va_S (Ab b0) s.heap s.heap [] := va_S.rf
  have hl := lv_entry ([.ref (b0 + a0), .int x1]) (n := 2) (Nat.le_of_ble_eq_true rfl)
  rw [lg_entry_eq]
  generalize (lg_sl ([.ref (b0 + a0), .int x1]) ++ List.replicate (2 - (lg_sl ([.ref (b0 + a0), .int x1])).length) Slot.unset).toArray = ls at hl ⊢
  have hl : lv_has ls 2 [(0, .ref (b0 + a0)), (1, .int x1)] := hl
  unfold fX6_numberOf at hE
  obtain ⟨_, _, hE⟩ := Option.bind_eq_some_iff.mp hE
  refine lv_iload_n hx hb dX6_numberOf_0 rfl (lv_at hl 1 rfl) ?_
  refine lv_iconst (v := 1) hx hb dX6_numberOf_1 (by decide) ?_
  refine lv_icmp_ne (tgt := 17) hx hb dX6_numberOf_2 (by decide) (fun c1 => ?_) (fun c1 => ?_)
  · rw [if_neg c1] at hE
    refine lv_iload_n hx hb dX6_numberOf_17 rfl (lv_at hl 1 rfl) ?_
    refine lv_iconst (v := 2) hx hb dX6_numberOf_18 (by decide) ?_
    refine lv_icmp_ne (tgt := 64) hx hb dX6_numberOf_19 (by decide) (fun c2 => ?_) (fun c2 => ?_)
    · rw [if_neg c2] at hE
      exact sX6_numberOf_b64 (F := F) hC hE _ _ _ hH hS (lv_sub hl [] rfl)
    · rw [if_pos c2] at hE
      refine lv_aload_n hx hb dX6_numberOf_22 rfl (lv_at hl 0 rfl) ?_
      refine lv_aload_n hx hb dX6_numberOf_23 rfl (lv_at hl 0 rfl) ?_
      obtain ⟨v3, hv3, hE⟩ := Option.bind_eq_some_iff.mp hE
      refine r_gI 1 (C := RX6) (T := TX6) (N := 3) (ci := 5) hx hb hts (by decide +kernel) hown hK hH hv3 rfl (by decide) (hts (.fieldLink RX6 24 "KindStreets$Text" "place" "I") (by decide +kernel)) (fun _ h9 => h9) dX6_numberOf_24 ?_
      obtain ⟨z4, hz4, hE⟩ := Option.bind_eq_some_iff.mp hE
      refine r_callI (va_runV (As := [.int v3]) (rest := []) ⟨hx, hb, hml, hown, hts⟩ (sX6_byteAt l b0 D cA hz4) (cwV 1 hts gX6_numberOf_X6_byteAt rfl rfl rfl (by decide +kernel) (rm_ok (by decide) (by decide))) (pre_V (ci := 5) hK hH (oX6_byteAt hz4) rfl) rfl rfl hl.1 rfl (lv_room (Nat.le_of_ble_eq_true rfl)) dX6_numberOf_27 ⟨Nat.zero_le _, Nat.zero_le _⟩) hS (fun H locs hH hS => ?_)
      refine lv_bipush (v := 48) hx hb dX6_numberOf_30 (by decide) ?_
      refine lv_icmp_eq (tgt := 64) hx hb dX6_numberOf_32 (by decide) (fun c5 => ?_) (fun c5 => ?_)
      · rw [if_pos c5] at hE
        exact sX6_numberOf_b64 (F := F) hC hE _ _ _ hH hS (lv_sub hl [] rfl)
      · rw [if_neg c5] at hE
        refine lv_bipush (v := 10) hx hb dX6_numberOf_35 (by decide) ?_
        refine lv_aload_n hx hb dX6_numberOf_37 rfl (lv_at hl 0 rfl) ?_
        refine lv_aload_n hx hb dX6_numberOf_38 rfl (lv_at hl 0 rfl) ?_
        obtain ⟨v6, hv6, hE⟩ := Option.bind_eq_some_iff.mp hE
        refine r_gI 1 (C := RX6) (T := TX6) (N := 3) (ci := 5) hx hb hts (by decide +kernel) hown hK hH hv6 rfl (by decide) (hts (.fieldLink RX6 24 "KindStreets$Text" "place" "I") (by decide +kernel)) (fun _ h9 => h9) dX6_numberOf_39 ?_
        obtain ⟨z7, hz7, hE⟩ := Option.bind_eq_some_iff.mp hE
        refine r_callI (va_runV (As := [.int v6]) (rest := [.int 10]) ⟨hx, hb, hml, hown, hts⟩ (sX6_byteAt l b0 D cA hz7) (cwV 1 hts gX6_numberOf_X6_byteAt rfl rfl rfl (by decide +kernel) (rm_ok (by decide) (by decide))) (pre_V (ci := 5) hK hH (oX6_byteAt hz7) rfl) rfl rfl hl.1 rfl (lv_room (Nat.le_of_ble_eq_true rfl)) dX6_numberOf_42 ⟨Nat.zero_le _, Nat.zero_le _⟩) hS (fun H locs hH hS => ?_)
        refine lv_bipush (v := 48) hx hb dX6_numberOf_45 (by decide) ?_
        refine lv_isub hx hb dX6_numberOf_47 ?_
        refine lv_imul hx hb dX6_numberOf_48 ?_
        refine lv_aload_n hx hb dX6_numberOf_49 rfl (lv_at hl 0 rfl) ?_
        refine lv_aload_n hx hb dX6_numberOf_50 rfl (lv_at hl 0 rfl) ?_
        obtain ⟨v8, hv8, hE⟩ := Option.bind_eq_some_iff.mp hE
        refine r_gI 1 (C := RX6) (T := TX6) (N := 3) (ci := 5) hx hb hts (by decide +kernel) hown hK hH hv8 rfl (by decide) (hts (.fieldLink RX6 24 "KindStreets$Text" "place" "I") (by decide +kernel)) (fun _ h9 => h9) dX6_numberOf_51 ?_
        refine lv_iconst (v := 1) hx hb dX6_numberOf_54 (by decide) ?_
        refine lv_iadd hx hb dX6_numberOf_55 ?_
        obtain ⟨z9, hz9, hE⟩ := Option.bind_eq_some_iff.mp hE
        refine r_callI (va_runV (As := [.int (v8 + 1)]) (rest := [.int (10 * (z7.1 - 48))]) ⟨hx, hb, hml, hown, hts⟩ (sX6_byteAt l b0 D cA hz9) (cwV 1 hts gX6_numberOf_X6_byteAt rfl rfl rfl (by decide +kernel) (rm_ok (by decide) (by decide))) (pre_V (ci := 5) hK hH (oX6_byteAt hz9) rfl) rfl rfl hl.1 rfl (lv_room (Nat.le_of_ble_eq_true rfl)) dX6_numberOf_56 ⟨Nat.zero_le _, Nat.zero_le _⟩) hS (fun H locs hH hS => ?_)
        refine lv_iadd hx hb dX6_numberOf_59 ?_
        refine lv_bipush (v := 48) hx hb dX6_numberOf_60 (by decide) ?_
        refine lv_isub hx hb dX6_numberOf_62 ?_
        have hZ := Option.some.inj hE
        subst hZ
        exact W.iret (v := (((10 * (z7.1 - 48)) + z9.1) - 48)) hx hb hr (fun t ht hW => ⟨rfl, by rw [ht]; exact hH, hS.F ht⟩) hS.2.2 dX6_numberOf_63
  · rw [if_pos c1] at hE
    refine lv_aload_n hx hb dX6_numberOf_5 rfl (lv_at hl 0 rfl) ?_
    refine lv_aload_n hx hb dX6_numberOf_6 rfl (lv_at hl 0 rfl) ?_
    obtain ⟨v10, hv10, hE⟩ := Option.bind_eq_some_iff.mp hE
    refine r_gI 1 (C := RX6) (T := TX6) (N := 3) (ci := 5) hx hb hts (by decide +kernel) hown hK hH hv10 rfl (by decide) (hts (.fieldLink RX6 24 "KindStreets$Text" "place" "I") (by decide +kernel)) (fun _ h9 => h9) dX6_numberOf_7 ?_
    obtain ⟨z11, hz11, hE⟩ := Option.bind_eq_some_iff.mp hE
    refine r_callI (va_runV (As := [.int v10]) (rest := []) ⟨hx, hb, hml, hown, hts⟩ (sX6_byteAt l b0 D cA hz11) (cwV 1 hts gX6_numberOf_X6_byteAt rfl rfl rfl (by decide +kernel) (rm_ok (by decide) (by decide))) (pre_V (ci := 5) hK hH (oX6_byteAt hz11) rfl) rfl rfl hl.1 rfl (lv_room (Nat.le_of_ble_eq_true rfl)) dX6_numberOf_10 ⟨Nat.zero_le _, Nat.zero_le _⟩) hS (fun H locs hH hS => ?_)
    refine lv_bipush (v := 48) hx hb dX6_numberOf_13 (by decide) ?_
    refine lv_isub hx hb dX6_numberOf_15 ?_
    have hZ := Option.some.inj hE
    subst hZ
    exact W.iret (v := (z11.1 - 48)) hx hb hr (fun t ht hW => ⟨rfl, by rw [ht]; exact hH, hS.F ht⟩) hS.2.2 dX6_numberOf_16
-- X6_digitsHere
def fX6_digitsHere_b30 (F : Nat) (x1 : Int32) (L : HL) : Option (Int32 × HL) := some (x1, L)
set_option maxHeartbeats 4000000 in
set_option maxRecDepth 100000 in
theorem sX6_digitsHere_b30 {b0 : Nat} {D : va_G} {cA : Nat → ClassId} {p : Program} {l : Launch} {ev : Env} {s : State} {m : MethodId} {args : Array Value} {below : List Frame} {meth : Method} {c : Code} {F : Nat} {z : (Int32 × HL)} {x1 : Int32} {L : HL} (hC : Cx D cA p s m args meth c cX6_digitsHere 2 RX6 wsX6_digitsHere (some .int)) (hE : fX6_digitsHere_b30 F x1 L = some z) : WB b0 D cA p l ev (RM 1 0 0) s m args below meth c 2 0 0 (MQ below (Qk b0 D cA (some (.int z.1)) z.2) args s 0 0 (Ab b0)) 30 [(1, .int x1)] [] L := by
  obtain ⟨hx, hb, hml, hown, hts, hK, hr, hlocks⟩ := id hC
  intro H locs ls hH hS hl
  unfold fX6_digitsHere_b30 at hE
  refine lv_iload_n hx hb dX6_digitsHere_30 rfl (lv_at hl 0 rfl) ?_
  have hZ := Option.some.inj hE
  subst hZ
  exact W.iret (v := x1) hx hb hr (fun t ht hW => ⟨rfl, by rw [ht]; exact hH, hS.F ht⟩) hS.2.2 dX6_digitsHere_31
def fX6_digitsHere_b2c (F : Nat) (k2 : Nat → Int32 → HL → Option (Int32 × HL)) (a0 : Nat) (x1 : Int32) (L : HL) : Option (Int32 × HL) := if 120 ≤ x1 then (fX6_digitsHere_b30 F x1 L) else ((o_gI L a0 5 1).bind fun v2 => (fX6_byteAt F L a0 (v2 + x1)).bind fun z3 => (fX6_isDigit F z3.2 z3.1).bind fun z4 => if z4.1 = 0 then (fX6_digitsHere_b30 F x1 z4.2) else (k2 a0 (x1 + 1) z4.2))
def fX6_digitsHere_b2 (F : Nat) : Nat → Nat → Int32 → HL → Option (Int32 × HL)
  | 0 => fun _ _ _ => none
  | n + 1 => fun a0 x1 L => fX6_digitsHere_b2c F (fX6_digitsHere_b2 F n) a0 x1 L
set_option maxHeartbeats 4000000 in
set_option maxRecDepth 100000 in
theorem sX6_digitsHere_b2c {b0 : Nat} {D : va_G} {cA : Nat → ClassId} {p : Program} {l : Launch} {ev : Env} {s : State} {m : MethodId} {args : Array Value} {below : List Frame} {meth : Method} {c : Code} {F : Nat} {z : (Int32 × HL)} {k2 : Nat → Int32 → HL → Option (Int32 × HL)} {a0 : Nat} {x1 : Int32} {L : HL} (hC : Cx D cA p s m args meth c cX6_digitsHere 2 RX6 wsX6_digitsHere (some .int)) (hk2 : ∀ (a0' : Nat) (x1' : Int32) (L' : HL), k2 a0' x1' L' = some z → WB b0 D cA p l ev (RM 1 0 0) s m args below meth c 2 0 0 (MQ below (Qk b0 D cA (some (.int z.1)) z.2) args s 0 0 (Ab b0)) 2 [(0, .ref (b0 + a0')), (1, .int x1')] [] L') (hE : fX6_digitsHere_b2c F k2 a0 x1 L = some z) : WB b0 D cA p l ev (RM 1 0 0) s m args below meth c 2 0 0 (MQ below (Qk b0 D cA (some (.int z.1)) z.2) args s 0 0 (Ab b0)) 2 [(0, .ref (b0 + a0)), (1, .int x1)] [] L := by
  obtain ⟨hx, hb, hml, hown, hts, hK, hr, hlocks⟩ := id hC
  intro H locs ls hH hS hl
  unfold fX6_digitsHere_b2c at hE
  refine lv_iload_n hx hb dX6_digitsHere_2 rfl (lv_at hl 1 rfl) ?_
  refine lv_bipush (v := 120) hx hb dX6_digitsHere_3 (by decide) ?_
  refine lv_icmp_ge (tgt := 30) hx hb dX6_digitsHere_5 (by decide) (fun c1 => ?_) (fun c1 => ?_)
  · rw [if_pos c1] at hE
    exact sX6_digitsHere_b30 (F := F) hC hE _ _ _ hH hS (lv_sub hl [1] rfl)
  · rw [if_neg c1] at hE
    refine lv_aload_n hx hb dX6_digitsHere_8 rfl (lv_at hl 0 rfl) ?_
    refine lv_aload_n hx hb dX6_digitsHere_9 rfl (lv_at hl 0 rfl) ?_
    obtain ⟨v2, hv2, hE⟩ := Option.bind_eq_some_iff.mp hE
    refine r_gI 1 (C := RX6) (T := TX6) (N := 3) (ci := 5) hx hb hts (by decide +kernel) hown hK hH hv2 rfl (by decide) (hts (.fieldLink RX6 24 "KindStreets$Text" "place" "I") (by decide +kernel)) (fun _ h9 => h9) dX6_digitsHere_10 ?_
    refine lv_iload_n hx hb dX6_digitsHere_13 rfl (lv_at hl 1 rfl) ?_
    refine lv_iadd hx hb dX6_digitsHere_14 ?_
    obtain ⟨z3, hz3, hE⟩ := Option.bind_eq_some_iff.mp hE
    refine r_callI (va_runV (As := [.int (v2 + x1)]) (rest := []) ⟨hx, hb, hml, hown, hts⟩ (sX6_byteAt l b0 D cA hz3) (cwV 1 hts gX6_digitsHere_X6_byteAt rfl rfl rfl (by decide +kernel) (rm_ok (by decide) (by decide))) (pre_V (ci := 5) hK hH (oX6_byteAt hz3) rfl) rfl rfl hl.1 rfl (lv_room (Nat.le_of_ble_eq_true rfl)) dX6_digitsHere_15 ⟨Nat.zero_le _, Nat.zero_le _⟩) hS (fun H locs hH hS => ?_)
    obtain ⟨z4, hz4, hE⟩ := Option.bind_eq_some_iff.mp hE
    refine r_callI (va_runS (As := [.int z3.1]) (rest := []) ⟨hx, hb, hml, hown, hts⟩ (sX6_isDigit l b0 D cA hz4) (va_cwS 1 hts gX6_digitsHere_X6_isDigit rfl rfl rfl (by decide +kernel) (rm_ok (by decide) (by decide))) (pre_S hK hH) rfl rfl hl.1 rfl (lv_room (Nat.le_of_ble_eq_true rfl)) dX6_digitsHere_18 ⟨Nat.zero_le _, Nat.zero_le _⟩) hS (fun H locs hH hS => ?_)
    refine lv_if_eq (tgt := 30) hx hb dX6_digitsHere_21 (by decide) (fun c5 => ?_) (fun c5 => ?_)
    · rw [if_pos c5] at hE
      exact sX6_digitsHere_b30 (F := F) hC hE _ _ _ hH hS (lv_sub hl [1] rfl)
    · rw [if_neg c5] at hE
      refine lv_iinc (v := (x1 + 1)) (lv' := [(1, .int (x1 + 1)), (0, .ref (b0 + a0))]) hx hb dX6_digitsHere_24 hl (k := 1) rfl rfl (by decide) rfl (fun ls hl => ?_)
      refine lv_goto (tgt := 2) hx hb dX6_digitsHere_27 (by decide) ?_
      exact hk2 _ _ _ hE _ _ _ hH hS (lv_sub hl [1, 0] rfl)
theorem sX6_digitsHere_b2 {b0 : Nat} {D : va_G} {cA : Nat → ClassId} {p : Program} {l : Launch} {ev : Env} {s : State} {m : MethodId} {args : Array Value} {below : List Frame} {meth : Method} {c : Code} {F : Nat} {z : (Int32 × HL)} (hC : Cx D cA p s m args meth c cX6_digitsHere 2 RX6 wsX6_digitsHere (some .int)) : ∀ (n : Nat) (a0 : Nat) (x1 : Int32) (L : HL), fX6_digitsHere_b2 F n a0 x1 L = some z → WB b0 D cA p l ev (RM 1 0 0) s m args below meth c 2 0 0 (MQ below (Qk b0 D cA (some (.int z.1)) z.2) args s 0 0 (Ab b0)) 2 [(0, .ref (b0 + a0)), (1, .int x1)] [] L := by
  intro n
  induction n with
  | zero => intro a0 x1 L hE; cases hE
  | succ n ih => intro a0 x1 L hE; exact sX6_digitsHere_b2c (F := F) hC ih hE
def fX6_digitsHere (F : Nat) (L : HL) (a0 : Nat) : Option (Int32 × HL) := (o_ob L a0 5).bind fun _ => fX6_digitsHere_b2 F F a0 0 L
theorem oX6_digitsHere {F : Nat} {L : HL} {a0 : Nat} {z : (Int32 × HL)} (hE : fX6_digitsHere F L a0 = some z) : o_ob L a0 5 = some () := by
  obtain ⟨_, h, _⟩ := Option.bind_eq_some_iff.mp hE
  exact h
set_option maxHeartbeats 4000000 in
set_option maxRecDepth 100000 in
theorem sX6_digitsHere (l : Launch) (b0 : Nat) (D : va_G) (cA : Nat → ClassId) {F : Nat} {L : HL} {a0 : Nat} {z : (Int32 × HL)} (hE : fX6_digitsHere F L a0 = some z) : Met l yX6_digitsHere wsX6_digitsHere (RM 1 0 0) (Pk b0 D cA [.ref (b0 + a0)] L) (Qk b0 D cA (some (.int z.1)) z.2) 0 0 (Ab b0) := by
  refine Met.ofW (cc := cX6_digitsHere) (maxL := 2) (ret := (some .int)) (by decide) rfl ?_
  intro p ev s m args below meth c s₁ B hml hv
  obtain ⟨rfl, hH, hK⟩ := hv
  have hx := B.exec
  have hb := B.bytes
  have hr := B.returns
  have hts := atoms_spec (ws := wsX6_digitsHere) B.pre
  have hown : s.vm.findClass RX6 = some m.cls := findClass_of_methodNamed B.named
  have hlocks := B.notSynchronized
  have hC : Cx D cA p s m _ meth c cX6_digitsHere 2 RX6 wsX6_digitsHere (some .int) := ⟨hx, hb, hml, hown, hts, hK, hr, hlocks⟩
  have hS : va_S (Ab b0) s.heap s.heap [] := va_S.rf
  have hl := lv_entry ([.ref (b0 + a0)]) (n := 2) (Nat.le_of_ble_eq_true rfl)
  rw [lg_entry_eq]
  generalize (lg_sl ([.ref (b0 + a0)]) ++ List.replicate (2 - (lg_sl ([.ref (b0 + a0)])).length) Slot.unset).toArray = ls at hl ⊢
  have hl : lv_has ls 2 [(0, .ref (b0 + a0))] := hl
  unfold fX6_digitsHere at hE
  obtain ⟨_, _, hE⟩ := Option.bind_eq_some_iff.mp hE
  refine lv_iconst (v := 0) hx hb dX6_digitsHere_0 (by decide) ?_
  refine lv_istore_n (lv' := [(1, .int 0), (0, .ref (b0 + a0))]) hx hb dX6_digitsHere_1 rfl hl (by decide) rfl (fun ls hl => ?_)
  exact sX6_digitsHere_b2 (F := F) hC F _ _ _ hE _ _ _ hH hS (lv_sub hl [1, 0] rfl)
-- X6_readNumber
def fX6_readNumber_b36 (F : Nat)  (L : HL) : Option (Int32 × HL) := some ((-1), L)
set_option maxHeartbeats 4000000 in
set_option maxRecDepth 100000 in
theorem sX6_readNumber_b36 {b0 : Nat} {D : va_G} {cA : Nat → ClassId} {p : Program} {l : Launch} {ev : Env} {s : State} {m : MethodId} {args : Array Value} {below : List Frame} {meth : Method} {c : Code} {F : Nat} {z : (Int32 × HL)}  {L : HL} (hC : Cx D cA p s m args meth c cX6_readNumber 6 RX6 wsX6_readNumber (some .int)) (hE : fX6_readNumber_b36 F  L = some z) : WB b0 D cA p l ev (RM 2 0 0) s m args below meth c 6 0 0 (MQ below (Qk b0 D cA (some (.int z.1)) z.2) args s 0 0 (Ab b0)) 36 [] [] L := by
  obtain ⟨hx, hb, hml, hown, hts, hK, hr, hlocks⟩ := id hC
  intro H locs ls hH hS hl
  unfold fX6_readNumber_b36 at hE
  refine lv_iconst (v := (-1)) hx hb dX6_readNumber_36 (by decide) ?_
  have hZ := Option.some.inj hE
  subst hZ
  exact W.iret (v := (-1)) hx hb hr (fun t ht hW => ⟨rfl, by rw [ht]; exact hH, hS.F ht⟩) hS.2.2 dX6_readNumber_37
def fX6_readNumber (F : Nat) (L : HL) (a0 : Nat) (x1 : Int32) (x2 : Int32) (x3 : Int32) : Option (Int32 × HL) := (o_ob L a0 5).bind fun _ => (fX6_skipBlanks F L a0).bind fun z1 => (fX6_digitsHere F z1 a0).bind fun z2 => (fX6_numberOf F z2.2 a0 z2.1).bind fun z3 => if z3.1 < x1 then (fX6_readNumber_b36 F z3.2) else (if x2 < z3.1 then (fX6_readNumber_b36 F z3.2) else (if z3.1 = x3 then (fX6_readNumber_b36 F z3.2) else ((o_gI z3.2 a0 5 1).bind fun v7 => (o_p z3.2 a0 5 1 (.int (v7 + z2.1))).bind fun L8 => some (z3.1, L8))))
theorem oX6_readNumber {F : Nat} {L : HL} {a0 : Nat} {x1 : Int32} {x2 : Int32} {x3 : Int32} {z : (Int32 × HL)} (hE : fX6_readNumber F L a0 x1 x2 x3 = some z) : o_ob L a0 5 = some () := by
  obtain ⟨_, h, _⟩ := Option.bind_eq_some_iff.mp hE
  exact h
set_option maxHeartbeats 4000000 in
set_option maxRecDepth 100000 in
theorem sX6_readNumber (l : Launch) (b0 : Nat) (D : va_G) (cA : Nat → ClassId) {F : Nat} {L : HL} {a0 : Nat} {x1 : Int32} {x2 : Int32} {x3 : Int32} {z : (Int32 × HL)} (hE : fX6_readNumber F L a0 x1 x2 x3 = some z) : Met l yX6_readNumber wsX6_readNumber (RM 2 0 0) (Pk b0 D cA [.ref (b0 + a0), .int x1, .int x2, .int x3] L) (Qk b0 D cA (some (.int z.1)) z.2) 0 0 (Ab b0) := by
  refine Met.ofW (cc := cX6_readNumber) (maxL := 6) (ret := (some .int)) (by decide) rfl ?_
  intro p ev s m args below meth c s₁ B hml hv
  obtain ⟨rfl, hH, hK⟩ := hv
  have hx := B.exec
  have hb := B.bytes
  have hr := B.returns
  have hts := atoms_spec (ws := wsX6_readNumber) B.pre
  have hown : s.vm.findClass RX6 = some m.cls := findClass_of_methodNamed B.named
  have hlocks := B.notSynchronized
  have hC : Cx D cA p s m _ meth c cX6_readNumber 6 RX6 wsX6_readNumber (some .int) := ⟨hx, hb, hml, hown, hts, hK, hr, hlocks⟩
  have hS : va_S (Ab b0) s.heap s.heap [] := va_S.rf
  have hl := lv_entry ([.ref (b0 + a0), .int x1, .int x2, .int x3]) (n := 6) (Nat.le_of_ble_eq_true rfl)
  rw [lg_entry_eq]
  generalize (lg_sl ([.ref (b0 + a0), .int x1, .int x2, .int x3]) ++ List.replicate (6 - (lg_sl ([.ref (b0 + a0), .int x1, .int x2, .int x3])).length) Slot.unset).toArray = ls at hl ⊢
  have hl : lv_has ls 6 [(0, .ref (b0 + a0)), (1, .int x1), (2, .int x2), (3, .int x3)] := hl
  unfold fX6_readNumber at hE
  obtain ⟨_, _, hE⟩ := Option.bind_eq_some_iff.mp hE
  refine lv_aload_n hx hb dX6_readNumber_0 rfl (lv_at hl 0 rfl) ?_
  obtain ⟨z1, hz1, hE⟩ := Option.bind_eq_some_iff.mp hE
  refine r_callV (va_runV (As := []) (rest := []) ⟨hx, hb, hml, hown, hts⟩ (sX6_skipBlanks l b0 D cA hz1) (cwV 0 hts gX6_readNumber_X6_skipBlanks rfl rfl rfl (by decide +kernel) (rm_ok (by decide) (by decide))) (pre_V (ci := 5) hK hH (oX6_skipBlanks hz1) rfl) rfl rfl hl.1 rfl (lv_room (Nat.le_of_ble_eq_true rfl)) dX6_readNumber_1 ⟨Nat.zero_le _, Nat.zero_le _⟩) hS (fun H locs hH hS => ?_)
  refine lv_aload_n hx hb dX6_readNumber_4 rfl (lv_at hl 0 rfl) ?_
  obtain ⟨z2, hz2, hE⟩ := Option.bind_eq_some_iff.mp hE
  refine r_callI (va_runV (As := []) (rest := []) ⟨hx, hb, hml, hown, hts⟩ (sX6_digitsHere l b0 D cA hz2) (cwV 0 hts gX6_readNumber_X6_digitsHere rfl rfl rfl (by decide +kernel) (rm_ok (by decide) (by decide))) (pre_V (ci := 5) hK hH (oX6_digitsHere hz2) rfl) rfl rfl hl.1 rfl (lv_room (Nat.le_of_ble_eq_true rfl)) dX6_readNumber_5 ⟨Nat.zero_le _, Nat.zero_le _⟩) hS (fun H locs hH hS => ?_)
  refine lv_istore (lv' := [(4, .int z2.1), (0, .ref (b0 + a0)), (1, .int x1), (2, .int x2), (3, .int x3)]) hx hb dX6_readNumber_8 hl (by decide) rfl (fun ls hl => ?_)
  refine lv_aload_n hx hb dX6_readNumber_10 rfl (lv_at hl 1 rfl) ?_
  refine lv_iload hx hb dX6_readNumber_11 (lv_at hl 0 rfl) ?_
  obtain ⟨z3, hz3, hE⟩ := Option.bind_eq_some_iff.mp hE
  refine r_callI (va_runV (As := [.int z2.1]) (rest := []) ⟨hx, hb, hml, hown, hts⟩ (sX6_numberOf l b0 D cA hz3) (cwV 1 hts gX6_readNumber_X6_numberOf rfl rfl rfl (by decide +kernel) (rm_ok (by decide) (by decide))) (pre_V (ci := 5) hK hH (oX6_numberOf hz3) rfl) rfl rfl hl.1 rfl (lv_room (Nat.le_of_ble_eq_true rfl)) dX6_readNumber_13 ⟨Nat.zero_le _, Nat.zero_le _⟩) hS (fun H locs hH hS => ?_)
  refine lv_istore (lv' := [(5, .int z3.1), (4, .int z2.1), (0, .ref (b0 + a0)), (1, .int x1), (2, .int x2), (3, .int x3)]) hx hb dX6_readNumber_16 hl (by decide) rfl (fun ls hl => ?_)
  refine lv_iload hx hb dX6_readNumber_18 (lv_at hl 0 rfl) ?_
  refine lv_iload_n hx hb dX6_readNumber_20 rfl (lv_at hl 3 rfl) ?_
  refine lv_icmp_lt (tgt := 36) hx hb dX6_readNumber_21 (by decide) (fun c4 => ?_) (fun c4 => ?_)
  · rw [if_pos c4] at hE
    exact sX6_readNumber_b36 (F := F) hC hE _ _ _ hH hS (lv_sub hl [] rfl)
  · rw [if_neg c4] at hE
    refine lv_iload hx hb dX6_readNumber_24 (lv_at hl 0 rfl) ?_
    refine lv_iload_n hx hb dX6_readNumber_26 rfl (lv_at hl 4 rfl) ?_
    refine lv_icmp_gt (tgt := 36) hx hb dX6_readNumber_27 (by decide) (fun c5 => ?_) (fun c5 => ?_)
    · rw [if_pos c5] at hE
      exact sX6_readNumber_b36 (F := F) hC hE _ _ _ hH hS (lv_sub hl [] rfl)
    · rw [if_neg c5] at hE
      refine lv_iload hx hb dX6_readNumber_30 (lv_at hl 0 rfl) ?_
      refine lv_iload_n hx hb dX6_readNumber_32 rfl (lv_at hl 5 rfl) ?_
      refine lv_icmp_ne (tgt := 38) hx hb dX6_readNumber_33 (by decide) (fun c6 => ?_) (fun c6 => ?_)
      · rw [if_neg c6] at hE
        refine lv_aload_n hx hb dX6_readNumber_38 rfl (lv_at hl 2 rfl) ?_
        refine lv_dup hx hb dX6_readNumber_39 rfl ?_
        obtain ⟨v7, hv7, hE⟩ := Option.bind_eq_some_iff.mp hE
        refine r_gI 1 (C := RX6) (T := TX6) (N := 3) (ci := 5) hx hb hts (by decide +kernel) hown hK hH hv7 rfl (by decide) (hts (.fieldLink RX6 24 "KindStreets$Text" "place" "I") (by decide +kernel)) (fun _ h9 => h9) dX6_readNumber_40 ?_
        refine lv_iload hx hb dX6_readNumber_43 (lv_at hl 1 rfl) ?_
        refine lv_iadd hx hb dX6_readNumber_45 ?_
        obtain ⟨L8, hL8, hE⟩ := Option.bind_eq_some_iff.mp hE
        refine r_p 1 (v := .int (v7 + z2.1)) (ty := .int) (C := RX6) (T := TX6) (N := 3) (ci := 5) hx hb hts (by decide +kernel) tyX6 tyX6_ok nmX6 hown hK hH hS hL8 rfl (by decide) (hts (.fieldLink RX6 24 "KindStreets$Text" "place" "I") (by decide +kernel)) (fun _ h9 => h9) rfl (by decide +kernel) rfl rfl dX6_readNumber_46 (fun H locs hH hS => ?_)
        refine lv_iload hx hb dX6_readNumber_49 (lv_at hl 0 rfl) ?_
        have hZ := Option.some.inj hE
        subst hZ
        exact W.iret (v := z3.1) hx hb hr (fun t ht hW => ⟨rfl, by rw [ht]; exact hH, hS.F ht⟩) hS.2.2 dX6_readNumber_51
      · rw [if_pos c6] at hE
        exact sX6_readNumber_b36 (F := F) hC hE _ _ _ hH hS (lv_sub hl [] rfl)
-- X6_readEnd
def fX6_readEnd (F : Nat) (L : HL) (a0 : Nat) : Option (Int32 × HL) := (o_ob L a0 5).bind fun _ => (fX6_skipBlanks F L a0).bind fun z1 => (o_gI z1 a0 5 1).bind fun v2 => (fX6_byteAt F z1 a0 v2).bind fun z3 => if z3.1 = 59 then ((o_gI z3.2 a0 5 1).bind fun v5 => (o_p z3.2 a0 5 1 (.int (v5 + 1))).bind fun L6 => some (1, L6)) else (some (0, z3.2))
theorem oX6_readEnd {F : Nat} {L : HL} {a0 : Nat} {z : (Int32 × HL)} (hE : fX6_readEnd F L a0 = some z) : o_ob L a0 5 = some () := by
  obtain ⟨_, h, _⟩ := Option.bind_eq_some_iff.mp hE
  exact h
set_option maxHeartbeats 4000000 in
set_option maxRecDepth 100000 in
theorem sX6_readEnd (l : Launch) (b0 : Nat) (D : va_G) (cA : Nat → ClassId) {F : Nat} {L : HL} {a0 : Nat} {z : (Int32 × HL)} (hE : fX6_readEnd F L a0 = some z) : Met l yX6_readEnd wsX6_readEnd (RM 2 0 0) (Pk b0 D cA [.ref (b0 + a0)] L) (Qk b0 D cA (some (.int z.1)) z.2) 0 0 (Ab b0) := by
  refine Met.ofW (cc := cX6_readEnd) (maxL := 1) (ret := (some .boolean)) (by decide) rfl ?_
  intro p ev s m args below meth c s₁ B hml hv
  obtain ⟨rfl, hH, hK⟩ := hv
  have hx := B.exec
  have hb := B.bytes
  have hr := B.returns
  have hts := atoms_spec (ws := wsX6_readEnd) B.pre
  have hown : s.vm.findClass RX6 = some m.cls := findClass_of_methodNamed B.named
  have hlocks := B.notSynchronized
  have hC : Cx D cA p s m _ meth c cX6_readEnd 1 RX6 wsX6_readEnd (some .boolean) := ⟨hx, hb, hml, hown, hts, hK, hr, hlocks⟩
  have hS : va_S (Ab b0) s.heap s.heap [] := va_S.rf
  have hl := lv_entry ([.ref (b0 + a0)]) (n := 1) (Nat.le_of_ble_eq_true rfl)
  rw [lg_entry_eq]
  generalize (lg_sl ([.ref (b0 + a0)]) ++ List.replicate (1 - (lg_sl ([.ref (b0 + a0)])).length) Slot.unset).toArray = ls at hl ⊢
  have hl : lv_has ls 1 [(0, .ref (b0 + a0))] := hl
  unfold fX6_readEnd at hE
  obtain ⟨_, _, hE⟩ := Option.bind_eq_some_iff.mp hE
  refine lv_aload_n hx hb dX6_readEnd_0 rfl (lv_at hl 0 rfl) ?_
  obtain ⟨z1, hz1, hE⟩ := Option.bind_eq_some_iff.mp hE
  refine r_callV (va_runV (As := []) (rest := []) ⟨hx, hb, hml, hown, hts⟩ (sX6_skipBlanks l b0 D cA hz1) (cwV 0 hts gX6_readEnd_X6_skipBlanks rfl rfl rfl (by decide +kernel) (rm_ok (by decide) (by decide))) (pre_V (ci := 5) hK hH (oX6_skipBlanks hz1) rfl) rfl rfl hl.1 rfl (lv_room (Nat.le_of_ble_eq_true rfl)) dX6_readEnd_1 ⟨Nat.zero_le _, Nat.zero_le _⟩) hS (fun H locs hH hS => ?_)
  refine lv_aload_n hx hb dX6_readEnd_4 rfl (lv_at hl 0 rfl) ?_
  refine lv_aload_n hx hb dX6_readEnd_5 rfl (lv_at hl 0 rfl) ?_
  obtain ⟨v2, hv2, hE⟩ := Option.bind_eq_some_iff.mp hE
  refine r_gI 1 (C := RX6) (T := TX6) (N := 3) (ci := 5) hx hb hts (by decide +kernel) hown hK hH hv2 rfl (by decide) (hts (.fieldLink RX6 24 "KindStreets$Text" "place" "I") (by decide +kernel)) (fun _ h9 => h9) dX6_readEnd_6 ?_
  obtain ⟨z3, hz3, hE⟩ := Option.bind_eq_some_iff.mp hE
  refine r_callI (va_runV (As := [.int v2]) (rest := []) ⟨hx, hb, hml, hown, hts⟩ (sX6_byteAt l b0 D cA hz3) (cwV 1 hts gX6_readEnd_X6_byteAt rfl rfl rfl (by decide +kernel) (rm_ok (by decide) (by decide))) (pre_V (ci := 5) hK hH (oX6_byteAt hz3) rfl) rfl rfl hl.1 rfl (lv_room (Nat.le_of_ble_eq_true rfl)) dX6_readEnd_9 ⟨Nat.zero_le _, Nat.zero_le _⟩) hS (fun H locs hH hS => ?_)
  refine lv_bipush (v := 59) hx hb dX6_readEnd_12 (by decide) ?_
  refine lv_icmp_eq (tgt := 19) hx hb dX6_readEnd_14 (by decide) (fun c4 => ?_) (fun c4 => ?_)
  · rw [if_pos c4] at hE
    refine lv_aload_n hx hb dX6_readEnd_19 rfl (lv_at hl 0 rfl) ?_
    refine lv_dup hx hb dX6_readEnd_20 rfl ?_
    obtain ⟨v5, hv5, hE⟩ := Option.bind_eq_some_iff.mp hE
    refine r_gI 1 (C := RX6) (T := TX6) (N := 3) (ci := 5) hx hb hts (by decide +kernel) hown hK hH hv5 rfl (by decide) (hts (.fieldLink RX6 24 "KindStreets$Text" "place" "I") (by decide +kernel)) (fun _ h9 => h9) dX6_readEnd_21 ?_
    refine lv_iconst (v := 1) hx hb dX6_readEnd_24 (by decide) ?_
    refine lv_iadd hx hb dX6_readEnd_25 ?_
    obtain ⟨L6, hL6, hE⟩ := Option.bind_eq_some_iff.mp hE
    refine r_p 1 (v := .int (v5 + 1)) (ty := .int) (C := RX6) (T := TX6) (N := 3) (ci := 5) hx hb hts (by decide +kernel) tyX6 tyX6_ok nmX6 hown hK hH hS hL6 rfl (by decide) (hts (.fieldLink RX6 24 "KindStreets$Text" "place" "I") (by decide +kernel)) (fun _ h9 => h9) rfl (by decide +kernel) rfl rfl dX6_readEnd_26 (fun H locs hH hS => ?_)
    refine lv_iconst (v := 1) hx hb dX6_readEnd_29 (by decide) ?_
    have hZ := Option.some.inj hE
    subst hZ
    exact W.zret (v := 1) (ty := .boolean) hx hb hr rfl (fun t ht hW => ⟨rfl, by rw [ht]; exact hH, hS.F ht⟩) hS.2.2 dX6_readEnd_30
  · rw [if_neg c4] at hE
    refine lv_iconst (v := 0) hx hb dX6_readEnd_17 (by decide) ?_
    have hZ := Option.some.inj hE
    subst hZ
    exact W.zret (v := 0) (ty := .boolean) hx hb hr rfl (fun t ht hW => ⟨rfl, by rw [ht]; exact hH, hS.F ht⟩) hS.2.2 dX6_readEnd_18
-- X6_readCitizen
def fX6_readCitizen (F : Nat) (L : HL) (a0 : Nat) (x1 : Nat) : Option (Int32 × HL) := (o_ob L a0 5).bind fun _ => (o_gI L x1 6 1).bind fun v1 => (fX6_readNumber F L a0 0 (v1 - 1) (-1)).bind fun z2 => if z2.1 = (-1) then (some (0, z2.2)) else ((fX6_readNumber F z2.2 a0 1 10 (-1)).bind fun z4 => if z4.1 = (-1) then (some (0, z4.2)) else ((o_gR z4.2 x1 6 6).bind fun v6 => (o_gI z4.2 x1 6 2).bind fun v7 => (o_sI z4.2 v6 0 v7 z2.1).bind fun L8 => (o_gR L8 x1 6 7).bind fun v9 => (o_gI L8 x1 6 2).bind fun v10 => (o_sI L8 v9 0 v10 z4.1).bind fun L11 => (o_gI L11 x1 6 2).bind fun v12 => (o_p L11 x1 6 2 (.int (v12 + 1))).bind fun L13 => some (1, L13)))
theorem oX6_readCitizen {F : Nat} {L : HL} {a0 : Nat} {x1 : Nat} {z : (Int32 × HL)} (hE : fX6_readCitizen F L a0 x1 = some z) : o_ob L a0 5 = some () := by
  obtain ⟨_, h, _⟩ := Option.bind_eq_some_iff.mp hE
  exact h
set_option maxHeartbeats 4000000 in
set_option maxRecDepth 100000 in
theorem sX6_readCitizen (l : Launch) (b0 : Nat) (D : va_G) (cA : Nat → ClassId) {F : Nat} {L : HL} {a0 : Nat} {x1 : Nat} {z : (Int32 × HL)} (hE : fX6_readCitizen F L a0 x1 = some z) : Met l yX6_readCitizen wsX6_readCitizen (RM 3 0 0) (Pk b0 D cA [.ref (b0 + a0), .ref (b0 + x1)] L) (Qk b0 D cA (some (.int z.1)) z.2) 0 0 (Ab b0) := by
  refine Met.ofW (cc := cX6_readCitizen) (maxL := 4) (ret := (some .boolean)) (by decide) rfl ?_
  intro p ev s m args below meth c s₁ B hml hv
  obtain ⟨rfl, hH, hK⟩ := hv
  have hx := B.exec
  have hb := B.bytes
  have hr := B.returns
  have hts := atoms_spec (ws := wsX6_readCitizen) B.pre
  have hown : s.vm.findClass RX6 = some m.cls := findClass_of_methodNamed B.named
  have hlocks := B.notSynchronized
  have hC : Cx D cA p s m _ meth c cX6_readCitizen 4 RX6 wsX6_readCitizen (some .boolean) := ⟨hx, hb, hml, hown, hts, hK, hr, hlocks⟩
  have hS : va_S (Ab b0) s.heap s.heap [] := va_S.rf
  have hl := lv_entry ([.ref (b0 + a0), .ref (b0 + x1)]) (n := 4) (Nat.le_of_ble_eq_true rfl)
  rw [lg_entry_eq]
  generalize (lg_sl ([.ref (b0 + a0), .ref (b0 + x1)]) ++ List.replicate (4 - (lg_sl ([.ref (b0 + a0), .ref (b0 + x1)])).length) Slot.unset).toArray = ls at hl ⊢
  have hl : lv_has ls 4 [(0, .ref (b0 + a0)), (1, .ref (b0 + x1))] := hl
  unfold fX6_readCitizen at hE
  obtain ⟨_, _, hE⟩ := Option.bind_eq_some_iff.mp hE
  refine lv_aload_n hx hb dX6_readCitizen_0 rfl (lv_at hl 0 rfl) ?_
  refine lv_iconst (v := 0) hx hb dX6_readCitizen_1 (by decide) ?_
  refine lv_aload_n hx hb dX6_readCitizen_2 rfl (lv_at hl 1 rfl) ?_
  obtain ⟨v1, hv1, hE⟩ := Option.bind_eq_some_iff.mp hE
  refine r_gI 1 (C := RX7) (T := TX7) (N := 8) (ci := 6) hx hb hts (by decide +kernel) hown hK hH hv1 rfl (by decide) (hts (.fieldLink RX6 46 "KindStreets$Town" "streets" "I") (by decide +kernel)) (fun _ h9 => h9) dX6_readCitizen_3 ?_
  refine lv_iconst (v := 1) hx hb dX6_readCitizen_6 (by decide) ?_
  refine lv_isub hx hb dX6_readCitizen_7 ?_
  refine lv_iconst (v := (-1)) hx hb dX6_readCitizen_8 (by decide) ?_
  obtain ⟨z2, hz2, hE⟩ := Option.bind_eq_some_iff.mp hE
  refine r_callI (va_runV (As := [.int 0, .int (v1 - 1), .int (-1)]) (rest := []) ⟨hx, hb, hml, hown, hts⟩ (sX6_readNumber l b0 D cA hz2) (cwV 3 hts gX6_readCitizen_X6_readNumber rfl rfl rfl (by decide +kernel) (rm_ok (by decide) (by decide))) (pre_V (ci := 5) hK hH (oX6_readNumber hz2) rfl) rfl rfl hl.1 rfl (lv_room (Nat.le_of_ble_eq_true rfl)) dX6_readCitizen_9 ⟨Nat.zero_le _, Nat.zero_le _⟩) hS (fun H locs hH hS => ?_)
  refine lv_istore_n (lv' := [(2, .int z2.1), (0, .ref (b0 + a0)), (1, .ref (b0 + x1))]) hx hb dX6_readCitizen_12 rfl hl (by decide) rfl (fun ls hl => ?_)
  refine lv_iload_n hx hb dX6_readCitizen_13 rfl (lv_at hl 0 rfl) ?_
  refine lv_iconst (v := (-1)) hx hb dX6_readCitizen_14 (by decide) ?_
  refine lv_icmp_ne (tgt := 20) hx hb dX6_readCitizen_15 (by decide) (fun c3 => ?_) (fun c3 => ?_)
  · rw [if_neg c3] at hE
    refine lv_aload_n hx hb dX6_readCitizen_20 rfl (lv_at hl 1 rfl) ?_
    refine lv_iconst (v := 1) hx hb dX6_readCitizen_21 (by decide) ?_
    refine lv_bipush (v := 10) hx hb dX6_readCitizen_22 (by decide) ?_
    refine lv_iconst (v := (-1)) hx hb dX6_readCitizen_24 (by decide) ?_
    obtain ⟨z4, hz4, hE⟩ := Option.bind_eq_some_iff.mp hE
    refine r_callI (va_runV (As := [.int 1, .int 10, .int (-1)]) (rest := []) ⟨hx, hb, hml, hown, hts⟩ (sX6_readNumber l b0 D cA hz4) (cwV 3 hts gX6_readCitizen_X6_readNumber rfl rfl rfl (by decide +kernel) (rm_ok (by decide) (by decide))) (pre_V (ci := 5) hK hH (oX6_readNumber hz4) rfl) rfl rfl hl.1 rfl (lv_room (Nat.le_of_ble_eq_true rfl)) dX6_readCitizen_25 ⟨Nat.zero_le _, Nat.zero_le _⟩) hS (fun H locs hH hS => ?_)
    refine lv_istore_n (lv' := [(3, .int z4.1), (2, .int z2.1), (0, .ref (b0 + a0)), (1, .ref (b0 + x1))]) hx hb dX6_readCitizen_28 rfl hl (by decide) rfl (fun ls hl => ?_)
    refine lv_iload_n hx hb dX6_readCitizen_29 rfl (lv_at hl 0 rfl) ?_
    refine lv_iconst (v := (-1)) hx hb dX6_readCitizen_30 (by decide) ?_
    refine lv_icmp_ne (tgt := 36) hx hb dX6_readCitizen_31 (by decide) (fun c5 => ?_) (fun c5 => ?_)
    · rw [if_neg c5] at hE
      refine lv_aload_n hx hb dX6_readCitizen_36 rfl (lv_at hl 3 rfl) ?_
      obtain ⟨v6, hv6, hE⟩ := Option.bind_eq_some_iff.mp hE
      refine r_gR 6 (C := RX7) (T := TX7) (N := 8) (ci := 6) hx hb hts (by decide +kernel) hown hK hH hv6 rfl (by decide) (hts (.fieldLink RX6 74 "KindStreets$Town" "home" "[I") (by decide +kernel)) (fun _ h9 => h9) dX6_readCitizen_37 ?_
      refine lv_aload_n hx hb dX6_readCitizen_40 rfl (lv_at hl 3 rfl) ?_
      obtain ⟨v7, hv7, hE⟩ := Option.bind_eq_some_iff.mp hE
      refine r_gI 2 (C := RX7) (T := TX7) (N := 8) (ci := 6) hx hb hts (by decide +kernel) hown hK hH hv7 rfl (by decide) (hts (.fieldLink RX6 52 "KindStreets$Town" "citizens" "I") (by decide +kernel)) (fun _ h9 => h9) dX6_readCitizen_41 ?_
      refine lv_iload_n hx hb dX6_readCitizen_44 rfl (lv_at hl 1 rfl) ?_
      obtain ⟨L8, hL8, hE⟩ := Option.bind_eq_some_iff.mp hE
      refine r_iast hx hb hK hH hS hL8 dX6_readCitizen_45 (fun H locs hH hS => ?_)
      refine lv_aload_n hx hb dX6_readCitizen_46 rfl (lv_at hl 3 rfl) ?_
      obtain ⟨v9, hv9, hE⟩ := Option.bind_eq_some_iff.mp hE
      refine r_gR 7 (C := RX7) (T := TX7) (N := 8) (ci := 6) hx hb hts (by decide +kernel) hown hK hH hv9 rfl (by decide) (hts (.fieldLink RX6 77 "KindStreets$Town" "wants" "[I") (by decide +kernel)) (fun _ h9 => h9) dX6_readCitizen_47 ?_
      refine lv_aload_n hx hb dX6_readCitizen_50 rfl (lv_at hl 3 rfl) ?_
      obtain ⟨v10, hv10, hE⟩ := Option.bind_eq_some_iff.mp hE
      refine r_gI 2 (C := RX7) (T := TX7) (N := 8) (ci := 6) hx hb hts (by decide +kernel) hown hK hH hv10 rfl (by decide) (hts (.fieldLink RX6 52 "KindStreets$Town" "citizens" "I") (by decide +kernel)) (fun _ h9 => h9) dX6_readCitizen_51 ?_
      refine lv_iload_n hx hb dX6_readCitizen_54 rfl (lv_at hl 0 rfl) ?_
      obtain ⟨L11, hL11, hE⟩ := Option.bind_eq_some_iff.mp hE
      refine r_iast hx hb hK hH hS hL11 dX6_readCitizen_55 (fun H locs hH hS => ?_)
      refine lv_aload_n hx hb dX6_readCitizen_56 rfl (lv_at hl 3 rfl) ?_
      refine lv_dup hx hb dX6_readCitizen_57 rfl ?_
      obtain ⟨v12, hv12, hE⟩ := Option.bind_eq_some_iff.mp hE
      refine r_gI 2 (C := RX7) (T := TX7) (N := 8) (ci := 6) hx hb hts (by decide +kernel) hown hK hH hv12 rfl (by decide) (hts (.fieldLink RX6 52 "KindStreets$Town" "citizens" "I") (by decide +kernel)) (fun _ h9 => h9) dX6_readCitizen_58 ?_
      refine lv_iconst (v := 1) hx hb dX6_readCitizen_61 (by decide) ?_
      refine lv_iadd hx hb dX6_readCitizen_62 ?_
      obtain ⟨L13, hL13, hE⟩ := Option.bind_eq_some_iff.mp hE
      refine r_p 2 (v := .int (v12 + 1)) (ty := .int) (C := RX7) (T := TX7) (N := 8) (ci := 6) hx hb hts (by decide +kernel) tyX7 tyX7_ok nmX7 hown hK hH hS hL13 rfl (by decide) (hts (.fieldLink RX6 52 "KindStreets$Town" "citizens" "I") (by decide +kernel)) (fun _ h9 => h9) rfl (by decide +kernel) rfl rfl dX6_readCitizen_63 (fun H locs hH hS => ?_)
      refine lv_iconst (v := 1) hx hb dX6_readCitizen_66 (by decide) ?_
      have hZ := Option.some.inj hE
      subst hZ
      exact W.zret (v := 1) (ty := .boolean) hx hb hr rfl (fun t ht hW => ⟨rfl, by rw [ht]; exact hH, hS.F ht⟩) hS.2.2 dX6_readCitizen_67
    · rw [if_pos c5] at hE
      refine lv_iconst (v := 0) hx hb dX6_readCitizen_34 (by decide) ?_
      have hZ := Option.some.inj hE
      subst hZ
      exact W.zret (v := 0) (ty := .boolean) hx hb hr rfl (fun t ht hW => ⟨rfl, by rw [ht]; exact hH, hS.F ht⟩) hS.2.2 dX6_readCitizen_35
  · rw [if_pos c3] at hE
    refine lv_iconst (v := 0) hx hb dX6_readCitizen_18 (by decide) ?_
    have hZ := Option.some.inj hE
    subst hZ
    exact W.zret (v := 0) (ty := .boolean) hx hb hr rfl (fun t ht hW => ⟨rfl, by rw [ht]; exact hH, hS.F ht⟩) hS.2.2 dX6_readCitizen_19
-- X6_readStreet
def fX6_readStreet (F : Nat) (L : HL) (a0 : Nat) (x1 : Nat) : Option (Int32 × HL) := (o_ob L a0 5).bind fun _ => (o_gI L x1 6 0).bind fun v1 => (fX6_readNumber F L a0 0 (v1 - 1) (-1)).bind fun z2 => if z2.1 = (-1) then (some (0, z2.2)) else ((o_gI z2.2 x1 6 0).bind fun v4 => (fX6_readNumber F z2.2 a0 0 (v4 - 1) z2.1).bind fun z5 => if z5.1 = (-1) then (some (0, z5.2)) else ((fX6_readNumber F z5.2 a0 0 9 (-1)).bind fun z7 => if z7.1 = (-1) then (some (0, z7.2)) else ((o_gR z7.2 x1 6 3).bind fun v9 => (o_gI z7.2 x1 6 1).bind fun v10 => (o_sI z7.2 v9 0 v10 z2.1).bind fun L11 => (o_gR L11 x1 6 4).bind fun v12 => (o_gI L11 x1 6 1).bind fun v13 => (o_sI L11 v12 0 v13 z5.1).bind fun L14 => (o_gR L14 x1 6 5).bind fun v15 => (o_gI L14 x1 6 1).bind fun v16 => (o_sI L14 v15 0 v16 z7.1).bind fun L17 => (o_gI L17 x1 6 1).bind fun v18 => (o_p L17 x1 6 1 (.int (v18 + 1))).bind fun L19 => some (1, L19))))
theorem oX6_readStreet {F : Nat} {L : HL} {a0 : Nat} {x1 : Nat} {z : (Int32 × HL)} (hE : fX6_readStreet F L a0 x1 = some z) : o_ob L a0 5 = some () := by
  obtain ⟨_, h, _⟩ := Option.bind_eq_some_iff.mp hE
  exact h
set_option maxHeartbeats 4000000 in
set_option maxRecDepth 100000 in
theorem sX6_readStreet (l : Launch) (b0 : Nat) (D : va_G) (cA : Nat → ClassId) {F : Nat} {L : HL} {a0 : Nat} {x1 : Nat} {z : (Int32 × HL)} (hE : fX6_readStreet F L a0 x1 = some z) : Met l yX6_readStreet wsX6_readStreet (RM 3 0 0) (Pk b0 D cA [.ref (b0 + a0), .ref (b0 + x1)] L) (Qk b0 D cA (some (.int z.1)) z.2) 0 0 (Ab b0) := by
  refine Met.ofW (cc := cX6_readStreet) (maxL := 5) (ret := (some .boolean)) (by decide) rfl ?_
  intro p ev s m args below meth c s₁ B hml hv
  obtain ⟨rfl, hH, hK⟩ := hv
  have hx := B.exec
  have hb := B.bytes
  have hr := B.returns
  have hts := atoms_spec (ws := wsX6_readStreet) B.pre
  have hown : s.vm.findClass RX6 = some m.cls := findClass_of_methodNamed B.named
  have hlocks := B.notSynchronized
  have hC : Cx D cA p s m _ meth c cX6_readStreet 5 RX6 wsX6_readStreet (some .boolean) := ⟨hx, hb, hml, hown, hts, hK, hr, hlocks⟩
  have hS : va_S (Ab b0) s.heap s.heap [] := va_S.rf
  have hl := lv_entry ([.ref (b0 + a0), .ref (b0 + x1)]) (n := 5) (Nat.le_of_ble_eq_true rfl)
  rw [lg_entry_eq]
  generalize (lg_sl ([.ref (b0 + a0), .ref (b0 + x1)]) ++ List.replicate (5 - (lg_sl ([.ref (b0 + a0), .ref (b0 + x1)])).length) Slot.unset).toArray = ls at hl ⊢
  have hl : lv_has ls 5 [(0, .ref (b0 + a0)), (1, .ref (b0 + x1))] := hl
  unfold fX6_readStreet at hE
  obtain ⟨_, _, hE⟩ := Option.bind_eq_some_iff.mp hE
  refine lv_aload_n hx hb dX6_readStreet_0 rfl (lv_at hl 0 rfl) ?_
  refine lv_iconst (v := 0) hx hb dX6_readStreet_1 (by decide) ?_
  refine lv_aload_n hx hb dX6_readStreet_2 rfl (lv_at hl 1 rfl) ?_
  obtain ⟨v1, hv1, hE⟩ := Option.bind_eq_some_iff.mp hE
  refine r_gI 0 (C := RX7) (T := TX7) (N := 8) (ci := 6) hx hb hts (by decide +kernel) hown hK hH hv1 rfl (by decide) (hts (.fieldLink RX6 62 "KindStreets$Town" "yards" "I") (by decide +kernel)) (fun _ h9 => h9) dX6_readStreet_3 ?_
  refine lv_iconst (v := 1) hx hb dX6_readStreet_6 (by decide) ?_
  refine lv_isub hx hb dX6_readStreet_7 ?_
  refine lv_iconst (v := (-1)) hx hb dX6_readStreet_8 (by decide) ?_
  obtain ⟨z2, hz2, hE⟩ := Option.bind_eq_some_iff.mp hE
  refine r_callI (va_runV (As := [.int 0, .int (v1 - 1), .int (-1)]) (rest := []) ⟨hx, hb, hml, hown, hts⟩ (sX6_readNumber l b0 D cA hz2) (cwV 3 hts gX6_readStreet_X6_readNumber rfl rfl rfl (by decide +kernel) (rm_ok (by decide) (by decide))) (pre_V (ci := 5) hK hH (oX6_readNumber hz2) rfl) rfl rfl hl.1 rfl (lv_room (Nat.le_of_ble_eq_true rfl)) dX6_readStreet_9 ⟨Nat.zero_le _, Nat.zero_le _⟩) hS (fun H locs hH hS => ?_)
  refine lv_istore_n (lv' := [(2, .int z2.1), (0, .ref (b0 + a0)), (1, .ref (b0 + x1))]) hx hb dX6_readStreet_12 rfl hl (by decide) rfl (fun ls hl => ?_)
  refine lv_iload_n hx hb dX6_readStreet_13 rfl (lv_at hl 0 rfl) ?_
  refine lv_iconst (v := (-1)) hx hb dX6_readStreet_14 (by decide) ?_
  refine lv_icmp_ne (tgt := 20) hx hb dX6_readStreet_15 (by decide) (fun c3 => ?_) (fun c3 => ?_)
  · rw [if_neg c3] at hE
    refine lv_aload_n hx hb dX6_readStreet_20 rfl (lv_at hl 1 rfl) ?_
    refine lv_iconst (v := 0) hx hb dX6_readStreet_21 (by decide) ?_
    refine lv_aload_n hx hb dX6_readStreet_22 rfl (lv_at hl 2 rfl) ?_
    obtain ⟨v4, hv4, hE⟩ := Option.bind_eq_some_iff.mp hE
    refine r_gI 0 (C := RX7) (T := TX7) (N := 8) (ci := 6) hx hb hts (by decide +kernel) hown hK hH hv4 rfl (by decide) (hts (.fieldLink RX6 62 "KindStreets$Town" "yards" "I") (by decide +kernel)) (fun _ h9 => h9) dX6_readStreet_23 ?_
    refine lv_iconst (v := 1) hx hb dX6_readStreet_26 (by decide) ?_
    refine lv_isub hx hb dX6_readStreet_27 ?_
    refine lv_iload_n hx hb dX6_readStreet_28 rfl (lv_at hl 0 rfl) ?_
    obtain ⟨z5, hz5, hE⟩ := Option.bind_eq_some_iff.mp hE
    refine r_callI (va_runV (As := [.int 0, .int (v4 - 1), .int z2.1]) (rest := []) ⟨hx, hb, hml, hown, hts⟩ (sX6_readNumber l b0 D cA hz5) (cwV 3 hts gX6_readStreet_X6_readNumber rfl rfl rfl (by decide +kernel) (rm_ok (by decide) (by decide))) (pre_V (ci := 5) hK hH (oX6_readNumber hz5) rfl) rfl rfl hl.1 rfl (lv_room (Nat.le_of_ble_eq_true rfl)) dX6_readStreet_29 ⟨Nat.zero_le _, Nat.zero_le _⟩) hS (fun H locs hH hS => ?_)
    refine lv_istore_n (lv' := [(3, .int z5.1), (2, .int z2.1), (0, .ref (b0 + a0)), (1, .ref (b0 + x1))]) hx hb dX6_readStreet_32 rfl hl (by decide) rfl (fun ls hl => ?_)
    refine lv_iload_n hx hb dX6_readStreet_33 rfl (lv_at hl 0 rfl) ?_
    refine lv_iconst (v := (-1)) hx hb dX6_readStreet_34 (by decide) ?_
    refine lv_icmp_ne (tgt := 40) hx hb dX6_readStreet_35 (by decide) (fun c6 => ?_) (fun c6 => ?_)
    · rw [if_neg c6] at hE
      refine lv_aload_n hx hb dX6_readStreet_40 rfl (lv_at hl 2 rfl) ?_
      refine lv_iconst (v := 0) hx hb dX6_readStreet_41 (by decide) ?_
      refine lv_bipush (v := 9) hx hb dX6_readStreet_42 (by decide) ?_
      refine lv_iconst (v := (-1)) hx hb dX6_readStreet_44 (by decide) ?_
      obtain ⟨z7, hz7, hE⟩ := Option.bind_eq_some_iff.mp hE
      refine r_callI (va_runV (As := [.int 0, .int 9, .int (-1)]) (rest := []) ⟨hx, hb, hml, hown, hts⟩ (sX6_readNumber l b0 D cA hz7) (cwV 3 hts gX6_readStreet_X6_readNumber rfl rfl rfl (by decide +kernel) (rm_ok (by decide) (by decide))) (pre_V (ci := 5) hK hH (oX6_readNumber hz7) rfl) rfl rfl hl.1 rfl (lv_room (Nat.le_of_ble_eq_true rfl)) dX6_readStreet_45 ⟨Nat.zero_le _, Nat.zero_le _⟩) hS (fun H locs hH hS => ?_)
      refine lv_istore (lv' := [(4, .int z7.1), (3, .int z5.1), (2, .int z2.1), (0, .ref (b0 + a0)), (1, .ref (b0 + x1))]) hx hb dX6_readStreet_48 hl (by decide) rfl (fun ls hl => ?_)
      refine lv_iload hx hb dX6_readStreet_50 (lv_at hl 0 rfl) ?_
      refine lv_iconst (v := (-1)) hx hb dX6_readStreet_52 (by decide) ?_
      refine lv_icmp_ne (tgt := 58) hx hb dX6_readStreet_53 (by decide) (fun c8 => ?_) (fun c8 => ?_)
      · rw [if_neg c8] at hE
        refine lv_aload_n hx hb dX6_readStreet_58 rfl (lv_at hl 4 rfl) ?_
        obtain ⟨v9, hv9, hE⟩ := Option.bind_eq_some_iff.mp hE
        refine r_gR 3 (C := RX7) (T := TX7) (N := 8) (ci := 6) hx hb hts (by decide +kernel) hown hK hH hv9 rfl (by decide) (hts (.fieldLink RX6 65 "KindStreets$Town" "one" "[I") (by decide +kernel)) (fun _ h9 => h9) dX6_readStreet_59 ?_
        refine lv_aload_n hx hb dX6_readStreet_62 rfl (lv_at hl 4 rfl) ?_
        obtain ⟨v10, hv10, hE⟩ := Option.bind_eq_some_iff.mp hE
        refine r_gI 1 (C := RX7) (T := TX7) (N := 8) (ci := 6) hx hb hts (by decide +kernel) hown hK hH hv10 rfl (by decide) (hts (.fieldLink RX6 46 "KindStreets$Town" "streets" "I") (by decide +kernel)) (fun _ h9 => h9) dX6_readStreet_63 ?_
        refine lv_iload_n hx hb dX6_readStreet_66 rfl (lv_at hl 2 rfl) ?_
        obtain ⟨L11, hL11, hE⟩ := Option.bind_eq_some_iff.mp hE
        refine r_iast hx hb hK hH hS hL11 dX6_readStreet_67 (fun H locs hH hS => ?_)
        refine lv_aload_n hx hb dX6_readStreet_68 rfl (lv_at hl 4 rfl) ?_
        obtain ⟨v12, hv12, hE⟩ := Option.bind_eq_some_iff.mp hE
        refine r_gR 4 (C := RX7) (T := TX7) (N := 8) (ci := 6) hx hb hts (by decide +kernel) hown hK hH hv12 rfl (by decide) (hts (.fieldLink RX6 68 "KindStreets$Town" "other" "[I") (by decide +kernel)) (fun _ h9 => h9) dX6_readStreet_69 ?_
        refine lv_aload_n hx hb dX6_readStreet_72 rfl (lv_at hl 4 rfl) ?_
        obtain ⟨v13, hv13, hE⟩ := Option.bind_eq_some_iff.mp hE
        refine r_gI 1 (C := RX7) (T := TX7) (N := 8) (ci := 6) hx hb hts (by decide +kernel) hown hK hH hv13 rfl (by decide) (hts (.fieldLink RX6 46 "KindStreets$Town" "streets" "I") (by decide +kernel)) (fun _ h9 => h9) dX6_readStreet_73 ?_
        refine lv_iload_n hx hb dX6_readStreet_76 rfl (lv_at hl 1 rfl) ?_
        obtain ⟨L14, hL14, hE⟩ := Option.bind_eq_some_iff.mp hE
        refine r_iast hx hb hK hH hS hL14 dX6_readStreet_77 (fun H locs hH hS => ?_)
        refine lv_aload_n hx hb dX6_readStreet_78 rfl (lv_at hl 4 rfl) ?_
        obtain ⟨v15, hv15, hE⟩ := Option.bind_eq_some_iff.mp hE
        refine r_gR 5 (C := RX7) (T := TX7) (N := 8) (ci := 6) hx hb hts (by decide +kernel) hown hK hH hv15 rfl (by decide) (hts (.fieldLink RX6 71 "KindStreets$Town" "old" "[I") (by decide +kernel)) (fun _ h9 => h9) dX6_readStreet_79 ?_
        refine lv_aload_n hx hb dX6_readStreet_82 rfl (lv_at hl 4 rfl) ?_
        obtain ⟨v16, hv16, hE⟩ := Option.bind_eq_some_iff.mp hE
        refine r_gI 1 (C := RX7) (T := TX7) (N := 8) (ci := 6) hx hb hts (by decide +kernel) hown hK hH hv16 rfl (by decide) (hts (.fieldLink RX6 46 "KindStreets$Town" "streets" "I") (by decide +kernel)) (fun _ h9 => h9) dX6_readStreet_83 ?_
        refine lv_iload hx hb dX6_readStreet_86 (lv_at hl 0 rfl) ?_
        obtain ⟨L17, hL17, hE⟩ := Option.bind_eq_some_iff.mp hE
        refine r_iast hx hb hK hH hS hL17 dX6_readStreet_88 (fun H locs hH hS => ?_)
        refine lv_aload_n hx hb dX6_readStreet_89 rfl (lv_at hl 4 rfl) ?_
        refine lv_dup hx hb dX6_readStreet_90 rfl ?_
        obtain ⟨v18, hv18, hE⟩ := Option.bind_eq_some_iff.mp hE
        refine r_gI 1 (C := RX7) (T := TX7) (N := 8) (ci := 6) hx hb hts (by decide +kernel) hown hK hH hv18 rfl (by decide) (hts (.fieldLink RX6 46 "KindStreets$Town" "streets" "I") (by decide +kernel)) (fun _ h9 => h9) dX6_readStreet_91 ?_
        refine lv_iconst (v := 1) hx hb dX6_readStreet_94 (by decide) ?_
        refine lv_iadd hx hb dX6_readStreet_95 ?_
        obtain ⟨L19, hL19, hE⟩ := Option.bind_eq_some_iff.mp hE
        refine r_p 1 (v := .int (v18 + 1)) (ty := .int) (C := RX7) (T := TX7) (N := 8) (ci := 6) hx hb hts (by decide +kernel) tyX7 tyX7_ok nmX7 hown hK hH hS hL19 rfl (by decide) (hts (.fieldLink RX6 46 "KindStreets$Town" "streets" "I") (by decide +kernel)) (fun _ h9 => h9) rfl (by decide +kernel) rfl rfl dX6_readStreet_96 (fun H locs hH hS => ?_)
        refine lv_iconst (v := 1) hx hb dX6_readStreet_99 (by decide) ?_
        have hZ := Option.some.inj hE
        subst hZ
        exact W.zret (v := 1) (ty := .boolean) hx hb hr rfl (fun t ht hW => ⟨rfl, by rw [ht]; exact hH, hS.F ht⟩) hS.2.2 dX6_readStreet_100
      · rw [if_pos c8] at hE
        refine lv_iconst (v := 0) hx hb dX6_readStreet_56 (by decide) ?_
        have hZ := Option.some.inj hE
        subst hZ
        exact W.zret (v := 0) (ty := .boolean) hx hb hr rfl (fun t ht hW => ⟨rfl, by rw [ht]; exact hH, hS.F ht⟩) hS.2.2 dX6_readStreet_57
    · rw [if_pos c6] at hE
      refine lv_iconst (v := 0) hx hb dX6_readStreet_38 (by decide) ?_
      have hZ := Option.some.inj hE
      subst hZ
      exact W.zret (v := 0) (ty := .boolean) hx hb hr rfl (fun t ht hW => ⟨rfl, by rw [ht]; exact hH, hS.F ht⟩) hS.2.2 dX6_readStreet_39
  · rw [if_pos c3] at hE
    refine lv_iconst (v := 0) hx hb dX6_readStreet_18 (by decide) ?_
    have hZ := Option.some.inj hE
    subst hZ
    exact W.zret (v := 0) (ty := .boolean) hx hb hr rfl (fun t ht hW => ⟨rfl, by rw [ht]; exact hH, hS.F ht⟩) hS.2.2 dX6_readStreet_19
-- X6_readYards
def fX6_readYards (F : Nat) (L : HL) (a0 : Nat) (x1 : Nat) : Option (Int32 × HL) := (o_ob L a0 5).bind fun _ => (fX6_readNumber F L a0 2 8 (-1)).bind fun z1 => if z1.1 = (-1) then (some (0, z1.2)) else ((o_p z1.2 x1 6 0 (.int z1.1)).bind fun L3 => some (1, L3))
theorem oX6_readYards {F : Nat} {L : HL} {a0 : Nat} {x1 : Nat} {z : (Int32 × HL)} (hE : fX6_readYards F L a0 x1 = some z) : o_ob L a0 5 = some () := by
  obtain ⟨_, h, _⟩ := Option.bind_eq_some_iff.mp hE
  exact h
set_option maxHeartbeats 4000000 in
set_option maxRecDepth 100000 in
theorem sX6_readYards (l : Launch) (b0 : Nat) (D : va_G) (cA : Nat → ClassId) {F : Nat} {L : HL} {a0 : Nat} {x1 : Nat} {z : (Int32 × HL)} (hE : fX6_readYards F L a0 x1 = some z) : Met l yX6_readYards wsX6_readYards (RM 3 0 0) (Pk b0 D cA [.ref (b0 + a0), .ref (b0 + x1)] L) (Qk b0 D cA (some (.int z.1)) z.2) 0 0 (Ab b0) := by
  refine Met.ofW (cc := cX6_readYards) (maxL := 3) (ret := (some .boolean)) (by decide) rfl ?_
  intro p ev s m args below meth c s₁ B hml hv
  obtain ⟨rfl, hH, hK⟩ := hv
  have hx := B.exec
  have hb := B.bytes
  have hr := B.returns
  have hts := atoms_spec (ws := wsX6_readYards) B.pre
  have hown : s.vm.findClass RX6 = some m.cls := findClass_of_methodNamed B.named
  have hlocks := B.notSynchronized
  have hC : Cx D cA p s m _ meth c cX6_readYards 3 RX6 wsX6_readYards (some .boolean) := ⟨hx, hb, hml, hown, hts, hK, hr, hlocks⟩
  have hS : va_S (Ab b0) s.heap s.heap [] := va_S.rf
  have hl := lv_entry ([.ref (b0 + a0), .ref (b0 + x1)]) (n := 3) (Nat.le_of_ble_eq_true rfl)
  rw [lg_entry_eq]
  generalize (lg_sl ([.ref (b0 + a0), .ref (b0 + x1)]) ++ List.replicate (3 - (lg_sl ([.ref (b0 + a0), .ref (b0 + x1)])).length) Slot.unset).toArray = ls at hl ⊢
  have hl : lv_has ls 3 [(0, .ref (b0 + a0)), (1, .ref (b0 + x1))] := hl
  unfold fX6_readYards at hE
  obtain ⟨_, _, hE⟩ := Option.bind_eq_some_iff.mp hE
  refine lv_aload_n hx hb dX6_readYards_0 rfl (lv_at hl 0 rfl) ?_
  refine lv_iconst (v := 2) hx hb dX6_readYards_1 (by decide) ?_
  refine lv_bipush (v := 8) hx hb dX6_readYards_2 (by decide) ?_
  refine lv_iconst (v := (-1)) hx hb dX6_readYards_4 (by decide) ?_
  obtain ⟨z1, hz1, hE⟩ := Option.bind_eq_some_iff.mp hE
  refine r_callI (va_runV (As := [.int 2, .int 8, .int (-1)]) (rest := []) ⟨hx, hb, hml, hown, hts⟩ (sX6_readNumber l b0 D cA hz1) (cwV 3 hts gX6_readYards_X6_readNumber rfl rfl rfl (by decide +kernel) (rm_ok (by decide) (by decide))) (pre_V (ci := 5) hK hH (oX6_readNumber hz1) rfl) rfl rfl hl.1 rfl (lv_room (Nat.le_of_ble_eq_true rfl)) dX6_readYards_5 ⟨Nat.zero_le _, Nat.zero_le _⟩) hS (fun H locs hH hS => ?_)
  refine lv_istore_n (lv' := [(2, .int z1.1), (0, .ref (b0 + a0)), (1, .ref (b0 + x1))]) hx hb dX6_readYards_8 rfl hl (by decide) rfl (fun ls hl => ?_)
  refine lv_iload_n hx hb dX6_readYards_9 rfl (lv_at hl 0 rfl) ?_
  refine lv_iconst (v := (-1)) hx hb dX6_readYards_10 (by decide) ?_
  refine lv_icmp_ne (tgt := 16) hx hb dX6_readYards_11 (by decide) (fun c2 => ?_) (fun c2 => ?_)
  · rw [if_neg c2] at hE
    refine lv_aload_n hx hb dX6_readYards_16 rfl (lv_at hl 2 rfl) ?_
    refine lv_iload_n hx hb dX6_readYards_17 rfl (lv_at hl 0 rfl) ?_
    obtain ⟨L3, hL3, hE⟩ := Option.bind_eq_some_iff.mp hE
    refine r_p 0 (v := .int z1.1) (ty := .int) (C := RX7) (T := TX7) (N := 8) (ci := 6) hx hb hts (by decide +kernel) tyX7 tyX7_ok nmX7 hown hK hH hS hL3 rfl (by decide) (hts (.fieldLink RX6 62 "KindStreets$Town" "yards" "I") (by decide +kernel)) (fun _ h9 => h9) rfl (by decide +kernel) rfl rfl dX6_readYards_18 (fun H locs hH hS => ?_)
    refine lv_iconst (v := 1) hx hb dX6_readYards_21 (by decide) ?_
    have hZ := Option.some.inj hE
    subst hZ
    exact W.zret (v := 1) (ty := .boolean) hx hb hr rfl (fun t ht hW => ⟨rfl, by rw [ht]; exact hH, hS.F ht⟩) hS.2.2 dX6_readYards_22
  · rw [if_pos c2] at hE
    refine lv_iconst (v := 0) hx hb dX6_readYards_14 (by decide) ?_
    have hZ := Option.some.inj hE
    subst hZ
    exact W.zret (v := 0) (ty := .boolean) hx hb hr rfl (fun t ht hW => ⟨rfl, by rw [ht]; exact hH, hS.F ht⟩) hS.2.2 dX6_readYards_15
-- X6_readItem
def fX6_readItem_b93 (F : Nat)  (L : HL) : Option (Int32 × HL) := some (0, L)
set_option maxHeartbeats 4000000 in
set_option maxRecDepth 100000 in
theorem sX6_readItem_b93 {b0 : Nat} {D : va_G} {cA : Nat → ClassId} {p : Program} {l : Launch} {ev : Env} {s : State} {m : MethodId} {args : Array Value} {below : List Frame} {meth : Method} {c : Code} {F : Nat} {z : (Int32 × HL)}  {L : HL} (hC : Cx D cA p s m args meth c cX6_readItem 4 RX6 wsX6_readItem (some .boolean)) (hE : fX6_readItem_b93 F  L = some z) : WB b0 D cA p l ev (RM 4 0 0) s m args below meth c 4 0 0 (MQ below (Qk b0 D cA (some (.int z.1)) z.2) args s 0 0 (Ab b0)) 93 [] [] L := by
  obtain ⟨hx, hb, hml, hown, hts, hK, hr, hlocks⟩ := id hC
  intro H locs ls hH hS hl
  unfold fX6_readItem_b93 at hE
  refine lv_iconst (v := 0) hx hb dX6_readItem_93 (by decide) ?_
  have hZ := Option.some.inj hE
  subst hZ
  exact W.zret (v := 0) (ty := .boolean) hx hb hr rfl (fun t ht hW => ⟨rfl, by rw [ht]; exact hH, hS.F ht⟩) hS.2.2 dX6_readItem_94
def fX6_readItem_b62 (F : Nat) (a0 : Nat) (x1 : Nat) (x3 : Int32) (L : HL) : Option (Int32 × HL) := if x3 = 99 then ((o_gI L x1 6 2).bind fun v5 => if 6 ≤ v5 then (fX6_readItem_b93 F L) else ((o_gI L a0 5 1).bind fun v7 => (o_p L a0 5 1 (.int (v7 + 1))).bind fun L8 => (fX6_readCitizen F L8 a0 x1).bind fun z9 => (o_b z9.1).bind fun u10 => some (z9.1, z9.2))) else (fX6_readItem_b93 F L)
set_option maxHeartbeats 4000000 in
set_option maxRecDepth 100000 in
theorem sX6_readItem_b62 {b0 : Nat} {D : va_G} {cA : Nat → ClassId} {p : Program} {l : Launch} {ev : Env} {s : State} {m : MethodId} {args : Array Value} {below : List Frame} {meth : Method} {c : Code} {F : Nat} {z : (Int32 × HL)} {a0 : Nat} {x1 : Nat} {x3 : Int32} {L : HL} (hC : Cx D cA p s m args meth c cX6_readItem 4 RX6 wsX6_readItem (some .boolean)) (hE : fX6_readItem_b62 F a0 x1 x3 L = some z) : WB b0 D cA p l ev (RM 4 0 0) s m args below meth c 4 0 0 (MQ below (Qk b0 D cA (some (.int z.1)) z.2) args s 0 0 (Ab b0)) 62 [(0, .ref (b0 + a0)), (1, .ref (b0 + x1)), (3, .int x3)] [] L := by
  obtain ⟨hx, hb, hml, hown, hts, hK, hr, hlocks⟩ := id hC
  intro H locs ls hH hS hl
  unfold fX6_readItem_b62 at hE
  refine lv_iload_n hx hb dX6_readItem_62 rfl (lv_at hl 2 rfl) ?_
  refine lv_bipush (v := 99) hx hb dX6_readItem_63 (by decide) ?_
  refine lv_icmp_ne (tgt := 93) hx hb dX6_readItem_65 (by decide) (fun c4 => ?_) (fun c4 => ?_)
  · rw [if_neg c4] at hE
    exact sX6_readItem_b93 (F := F) hC hE _ _ _ hH hS (lv_sub hl [] rfl)
  · rw [if_pos c4] at hE
    refine lv_aload_n hx hb dX6_readItem_68 rfl (lv_at hl 1 rfl) ?_
    obtain ⟨v5, hv5, hE⟩ := Option.bind_eq_some_iff.mp hE
    refine r_gI 2 (C := RX7) (T := TX7) (N := 8) (ci := 6) hx hb hts (by decide +kernel) hown hK hH hv5 rfl (by decide) (hts (.fieldLink RX6 52 "KindStreets$Town" "citizens" "I") (by decide +kernel)) (fun _ h9 => h9) dX6_readItem_69 ?_
    refine lv_bipush (v := 6) hx hb dX6_readItem_72 (by decide) ?_
    refine lv_icmp_ge (tgt := 93) hx hb dX6_readItem_74 (by decide) (fun c6 => ?_) (fun c6 => ?_)
    · rw [if_pos c6] at hE
      exact sX6_readItem_b93 (F := F) hC hE _ _ _ hH hS (lv_sub hl [] rfl)
    · rw [if_neg c6] at hE
      refine lv_aload_n hx hb dX6_readItem_77 rfl (lv_at hl 0 rfl) ?_
      refine lv_dup hx hb dX6_readItem_78 rfl ?_
      obtain ⟨v7, hv7, hE⟩ := Option.bind_eq_some_iff.mp hE
      refine r_gI 1 (C := RX6) (T := TX6) (N := 3) (ci := 5) hx hb hts (by decide +kernel) hown hK hH hv7 rfl (by decide) (hts (.fieldLink RX6 24 "KindStreets$Text" "place" "I") (by decide +kernel)) (fun _ h9 => h9) dX6_readItem_79 ?_
      refine lv_iconst (v := 1) hx hb dX6_readItem_82 (by decide) ?_
      refine lv_iadd hx hb dX6_readItem_83 ?_
      obtain ⟨L8, hL8, hE⟩ := Option.bind_eq_some_iff.mp hE
      refine r_p 1 (v := .int (v7 + 1)) (ty := .int) (C := RX6) (T := TX6) (N := 3) (ci := 5) hx hb hts (by decide +kernel) tyX6 tyX6_ok nmX6 hown hK hH hS hL8 rfl (by decide) (hts (.fieldLink RX6 24 "KindStreets$Text" "place" "I") (by decide +kernel)) (fun _ h9 => h9) rfl (by decide +kernel) rfl rfl dX6_readItem_84 (fun H locs hH hS => ?_)
      refine lv_aload_n hx hb dX6_readItem_87 rfl (lv_at hl 0 rfl) ?_
      refine lv_aload_n hx hb dX6_readItem_88 rfl (lv_at hl 1 rfl) ?_
      obtain ⟨z9, hz9, hE⟩ := Option.bind_eq_some_iff.mp hE
      refine r_callI (va_runV (As := [.ref (b0 + x1)]) (rest := []) ⟨hx, hb, hml, hown, hts⟩ (sX6_readCitizen l b0 D cA hz9) (cwV 1 hts gX6_readItem_X6_readCitizen rfl rfl rfl (by decide +kernel) (rm_ok (by decide) (by decide))) (pre_V (ci := 5) hK hH (oX6_readCitizen hz9) rfl) rfl rfl hl.1 rfl (lv_room (Nat.le_of_ble_eq_true rfl)) dX6_readItem_89 ⟨Nat.zero_le _, Nat.zero_le _⟩) hS (fun H locs hH hS => ?_)
      obtain ⟨u10, hu10, hE⟩ := Option.bind_eq_some_iff.mp hE
      have hZ := Option.some.inj hE
      subst hZ
      exact W.zret (v := z9.1) (ty := .boolean) hx hb hr (o_b_nar hu10) (fun t ht hW => ⟨rfl, by rw [ht]; exact hH, hS.F ht⟩) hS.2.2 dX6_readItem_92
def fX6_readItem_b31 (F : Nat) (a0 : Nat) (x1 : Nat) (x3 : Int32) (L : HL) : Option (Int32 × HL) := if x3 = 115 then ((o_gI L x1 6 1).bind fun v11 => if 9 ≤ v11 then (fX6_readItem_b62 F a0 x1 x3 L) else ((o_gI L a0 5 1).bind fun v13 => (o_p L a0 5 1 (.int (v13 + 1))).bind fun L14 => (fX6_readStreet F L14 a0 x1).bind fun z15 => (o_b z15.1).bind fun u16 => some (z15.1, z15.2))) else (fX6_readItem_b62 F a0 x1 x3 L)
set_option maxHeartbeats 4000000 in
set_option maxRecDepth 100000 in
theorem sX6_readItem_b31 {b0 : Nat} {D : va_G} {cA : Nat → ClassId} {p : Program} {l : Launch} {ev : Env} {s : State} {m : MethodId} {args : Array Value} {below : List Frame} {meth : Method} {c : Code} {F : Nat} {z : (Int32 × HL)} {a0 : Nat} {x1 : Nat} {x3 : Int32} {L : HL} (hC : Cx D cA p s m args meth c cX6_readItem 4 RX6 wsX6_readItem (some .boolean)) (hE : fX6_readItem_b31 F a0 x1 x3 L = some z) : WB b0 D cA p l ev (RM 4 0 0) s m args below meth c 4 0 0 (MQ below (Qk b0 D cA (some (.int z.1)) z.2) args s 0 0 (Ab b0)) 31 [(0, .ref (b0 + a0)), (1, .ref (b0 + x1)), (3, .int x3)] [] L := by
  obtain ⟨hx, hb, hml, hown, hts, hK, hr, hlocks⟩ := id hC
  intro H locs ls hH hS hl
  unfold fX6_readItem_b31 at hE
  refine lv_iload_n hx hb dX6_readItem_31 rfl (lv_at hl 2 rfl) ?_
  refine lv_bipush (v := 115) hx hb dX6_readItem_32 (by decide) ?_
  refine lv_icmp_ne (tgt := 62) hx hb dX6_readItem_34 (by decide) (fun c3 => ?_) (fun c3 => ?_)
  · rw [if_neg c3] at hE
    exact sX6_readItem_b62 (F := F) hC hE _ _ _ hH hS (lv_sub hl [0, 1, 2] rfl)
  · rw [if_pos c3] at hE
    refine lv_aload_n hx hb dX6_readItem_37 rfl (lv_at hl 1 rfl) ?_
    obtain ⟨v11, hv11, hE⟩ := Option.bind_eq_some_iff.mp hE
    refine r_gI 1 (C := RX7) (T := TX7) (N := 8) (ci := 6) hx hb hts (by decide +kernel) hown hK hH hv11 rfl (by decide) (hts (.fieldLink RX6 46 "KindStreets$Town" "streets" "I") (by decide +kernel)) (fun _ h9 => h9) dX6_readItem_38 ?_
    refine lv_bipush (v := 9) hx hb dX6_readItem_41 (by decide) ?_
    refine lv_icmp_ge (tgt := 62) hx hb dX6_readItem_43 (by decide) (fun c12 => ?_) (fun c12 => ?_)
    · rw [if_pos c12] at hE
      exact sX6_readItem_b62 (F := F) hC hE _ _ _ hH hS (lv_sub hl [0, 1, 2] rfl)
    · rw [if_neg c12] at hE
      refine lv_aload_n hx hb dX6_readItem_46 rfl (lv_at hl 0 rfl) ?_
      refine lv_dup hx hb dX6_readItem_47 rfl ?_
      obtain ⟨v13, hv13, hE⟩ := Option.bind_eq_some_iff.mp hE
      refine r_gI 1 (C := RX6) (T := TX6) (N := 3) (ci := 5) hx hb hts (by decide +kernel) hown hK hH hv13 rfl (by decide) (hts (.fieldLink RX6 24 "KindStreets$Text" "place" "I") (by decide +kernel)) (fun _ h9 => h9) dX6_readItem_48 ?_
      refine lv_iconst (v := 1) hx hb dX6_readItem_51 (by decide) ?_
      refine lv_iadd hx hb dX6_readItem_52 ?_
      obtain ⟨L14, hL14, hE⟩ := Option.bind_eq_some_iff.mp hE
      refine r_p 1 (v := .int (v13 + 1)) (ty := .int) (C := RX6) (T := TX6) (N := 3) (ci := 5) hx hb hts (by decide +kernel) tyX6 tyX6_ok nmX6 hown hK hH hS hL14 rfl (by decide) (hts (.fieldLink RX6 24 "KindStreets$Text" "place" "I") (by decide +kernel)) (fun _ h9 => h9) rfl (by decide +kernel) rfl rfl dX6_readItem_53 (fun H locs hH hS => ?_)
      refine lv_aload_n hx hb dX6_readItem_56 rfl (lv_at hl 0 rfl) ?_
      refine lv_aload_n hx hb dX6_readItem_57 rfl (lv_at hl 1 rfl) ?_
      obtain ⟨z15, hz15, hE⟩ := Option.bind_eq_some_iff.mp hE
      refine r_callI (va_runV (As := [.ref (b0 + x1)]) (rest := []) ⟨hx, hb, hml, hown, hts⟩ (sX6_readStreet l b0 D cA hz15) (cwV 1 hts gX6_readItem_X6_readStreet rfl rfl rfl (by decide +kernel) (rm_ok (by decide) (by decide))) (pre_V (ci := 5) hK hH (oX6_readStreet hz15) rfl) rfl rfl hl.1 rfl (lv_room (Nat.le_of_ble_eq_true rfl)) dX6_readItem_58 ⟨Nat.zero_le _, Nat.zero_le _⟩) hS (fun H locs hH hS => ?_)
      obtain ⟨u16, hu16, hE⟩ := Option.bind_eq_some_iff.mp hE
      have hZ := Option.some.inj hE
      subst hZ
      exact W.zret (v := z15.1) (ty := .boolean) hx hb hr (o_b_nar hu16) (fun t ht hW => ⟨rfl, by rw [ht]; exact hH, hS.F ht⟩) hS.2.2 dX6_readItem_61
def fX6_readItem (F : Nat) (L : HL) (a0 : Nat) (x1 : Nat) (x2 : Int32) : Option (Int32 × HL) := (o_ob L a0 5).bind fun _ => (fX6_loneLetter F L a0).bind fun z1 => if z1.1 = 121 then (if x2 = 0 then (fX6_readItem_b31 F a0 x1 z1.1 z1.2) else ((o_gI z1.2 a0 5 1).bind fun v18 => (o_p z1.2 a0 5 1 (.int (v18 + 1))).bind fun L19 => (fX6_readYards F L19 a0 x1).bind fun z20 => (o_b z20.1).bind fun u21 => some (z20.1, z20.2))) else (fX6_readItem_b31 F a0 x1 z1.1 z1.2)
theorem oX6_readItem {F : Nat} {L : HL} {a0 : Nat} {x1 : Nat} {x2 : Int32} {z : (Int32 × HL)} (hE : fX6_readItem F L a0 x1 x2 = some z) : o_ob L a0 5 = some () := by
  obtain ⟨_, h, _⟩ := Option.bind_eq_some_iff.mp hE
  exact h
set_option maxHeartbeats 4000000 in
set_option maxRecDepth 100000 in
theorem sX6_readItem (l : Launch) (b0 : Nat) (D : va_G) (cA : Nat → ClassId) {F : Nat} {L : HL} {a0 : Nat} {x1 : Nat} {x2 : Int32} {z : (Int32 × HL)} (hE : fX6_readItem F L a0 x1 x2 = some z) : Met l yX6_readItem wsX6_readItem (RM 4 0 0) (Pk b0 D cA [.ref (b0 + a0), .ref (b0 + x1), .int x2] L) (Qk b0 D cA (some (.int z.1)) z.2) 0 0 (Ab b0) := by
  refine Met.ofW (cc := cX6_readItem) (maxL := 4) (ret := (some .boolean)) (by decide) rfl ?_
  intro p ev s m args below meth c s₁ B hml hv
  obtain ⟨rfl, hH, hK⟩ := hv
  have hx := B.exec
  have hb := B.bytes
  have hr := B.returns
  have hts := atoms_spec (ws := wsX6_readItem) B.pre
  have hown : s.vm.findClass RX6 = some m.cls := findClass_of_methodNamed B.named
  have hlocks := B.notSynchronized
  have hC : Cx D cA p s m _ meth c cX6_readItem 4 RX6 wsX6_readItem (some .boolean) := ⟨hx, hb, hml, hown, hts, hK, hr, hlocks⟩
  have hS : va_S (Ab b0) s.heap s.heap [] := va_S.rf
  have hl := lv_entry ([.ref (b0 + a0), .ref (b0 + x1), .int x2]) (n := 4) (Nat.le_of_ble_eq_true rfl)
  rw [lg_entry_eq]
  generalize (lg_sl ([.ref (b0 + a0), .ref (b0 + x1), .int x2]) ++ List.replicate (4 - (lg_sl ([.ref (b0 + a0), .ref (b0 + x1), .int x2])).length) Slot.unset).toArray = ls at hl ⊢
  have hl : lv_has ls 4 [(0, .ref (b0 + a0)), (1, .ref (b0 + x1)), (2, .int x2)] := hl
  unfold fX6_readItem at hE
  obtain ⟨_, _, hE⟩ := Option.bind_eq_some_iff.mp hE
  refine lv_aload_n hx hb dX6_readItem_0 rfl (lv_at hl 0 rfl) ?_
  obtain ⟨z1, hz1, hE⟩ := Option.bind_eq_some_iff.mp hE
  refine r_callI (va_runV (As := []) (rest := []) ⟨hx, hb, hml, hown, hts⟩ (sX6_loneLetter l b0 D cA hz1) (cwV 0 hts gX6_readItem_X6_loneLetter rfl rfl rfl (by decide +kernel) (rm_ok (by decide) (by decide))) (pre_V (ci := 5) hK hH (oX6_loneLetter hz1) rfl) rfl rfl hl.1 rfl (lv_room (Nat.le_of_ble_eq_true rfl)) dX6_readItem_1 ⟨Nat.zero_le _, Nat.zero_le _⟩) hS (fun H locs hH hS => ?_)
  refine lv_istore_n (lv' := [(3, .int z1.1), (0, .ref (b0 + a0)), (1, .ref (b0 + x1)), (2, .int x2)]) hx hb dX6_readItem_4 rfl hl (by decide) rfl (fun ls hl => ?_)
  refine lv_iload_n hx hb dX6_readItem_5 rfl (lv_at hl 0 rfl) ?_
  refine lv_bipush (v := 121) hx hb dX6_readItem_6 (by decide) ?_
  refine lv_icmp_ne (tgt := 31) hx hb dX6_readItem_8 (by decide) (fun c2 => ?_) (fun c2 => ?_)
  · rw [if_neg c2] at hE
    exact sX6_readItem_b31 (F := F) hC hE _ _ _ hH hS (lv_sub hl [1, 2, 0] rfl)
  · rw [if_pos c2] at hE
    refine lv_iload_n hx hb dX6_readItem_11 rfl (lv_at hl 3 rfl) ?_
    refine lv_if_eq (tgt := 31) hx hb dX6_readItem_12 (by decide) (fun c17 => ?_) (fun c17 => ?_)
    · rw [if_pos c17] at hE
      exact sX6_readItem_b31 (F := F) hC hE _ _ _ hH hS (lv_sub hl [1, 2, 0] rfl)
    · rw [if_neg c17] at hE
      refine lv_aload_n hx hb dX6_readItem_15 rfl (lv_at hl 1 rfl) ?_
      refine lv_dup hx hb dX6_readItem_16 rfl ?_
      obtain ⟨v18, hv18, hE⟩ := Option.bind_eq_some_iff.mp hE
      refine r_gI 1 (C := RX6) (T := TX6) (N := 3) (ci := 5) hx hb hts (by decide +kernel) hown hK hH hv18 rfl (by decide) (hts (.fieldLink RX6 24 "KindStreets$Text" "place" "I") (by decide +kernel)) (fun _ h9 => h9) dX6_readItem_17 ?_
      refine lv_iconst (v := 1) hx hb dX6_readItem_20 (by decide) ?_
      refine lv_iadd hx hb dX6_readItem_21 ?_
      obtain ⟨L19, hL19, hE⟩ := Option.bind_eq_some_iff.mp hE
      refine r_p 1 (v := .int (v18 + 1)) (ty := .int) (C := RX6) (T := TX6) (N := 3) (ci := 5) hx hb hts (by decide +kernel) tyX6 tyX6_ok nmX6 hown hK hH hS hL19 rfl (by decide) (hts (.fieldLink RX6 24 "KindStreets$Text" "place" "I") (by decide +kernel)) (fun _ h9 => h9) rfl (by decide +kernel) rfl rfl dX6_readItem_22 (fun H locs hH hS => ?_)
      refine lv_aload_n hx hb dX6_readItem_25 rfl (lv_at hl 1 rfl) ?_
      refine lv_aload_n hx hb dX6_readItem_26 rfl (lv_at hl 2 rfl) ?_
      obtain ⟨z20, hz20, hE⟩ := Option.bind_eq_some_iff.mp hE
      refine r_callI (va_runV (As := [.ref (b0 + x1)]) (rest := []) ⟨hx, hb, hml, hown, hts⟩ (sX6_readYards l b0 D cA hz20) (cwV 1 hts gX6_readItem_X6_readYards rfl rfl rfl (by decide +kernel) (rm_ok (by decide) (by decide))) (pre_V (ci := 5) hK hH (oX6_readYards hz20) rfl) rfl rfl hl.1 rfl (lv_room (Nat.le_of_ble_eq_true rfl)) dX6_readItem_27 ⟨Nat.zero_le _, Nat.zero_le _⟩) hS (fun H locs hH hS => ?_)
      obtain ⟨u21, hu21, hE⟩ := Option.bind_eq_some_iff.mp hE
      have hZ := Option.some.inj hE
      subst hZ
      exact W.zret (v := z20.1) (ty := .boolean) hx hb hr (o_b_nar hu21) (fun t ht hW => ⟨rfl, by rw [ht]; exact hH, hS.F ht⟩) hS.2.2 dX6_readItem_30
-- X6_readInto
def fX6_readInto_b58 (F : Nat) (a0 : Nat) (L : HL) : Option (Int32 × HL) := (o_gI L a0 5 1).bind fun v12 => some ((-10) - v12, L)
set_option maxHeartbeats 4000000 in
set_option maxRecDepth 100000 in
theorem sX6_readInto_b58 {b0 : Nat} {D : va_G} {cA : Nat → ClassId} {p : Program} {l : Launch} {ev : Env} {s : State} {m : MethodId} {args : Array Value} {below : List Frame} {meth : Method} {c : Code} {F : Nat} {z : (Int32 × HL)} {a0 : Nat} {L : HL} (hC : Cx D cA p s m args meth c cX6_readInto 3 RX6 wsX6_readInto (some .int)) (hE : fX6_readInto_b58 F a0 L = some z) : WB b0 D cA p l ev (RM 5 0 0) s m args below meth c 3 0 0 (MQ below (Qk b0 D cA (some (.int z.1)) z.2) args s 0 0 (Ab b0)) 58 [(0, .ref (b0 + a0))] [] L := by
  obtain ⟨hx, hb, hml, hown, hts, hK, hr, hlocks⟩ := id hC
  intro H locs ls hH hS hl
  unfold fX6_readInto_b58 at hE
  refine lv_bipush (v := (-10)) hx hb dX6_readInto_58 (by decide) ?_
  refine lv_aload_n hx hb dX6_readInto_60 rfl (lv_at hl 0 rfl) ?_
  obtain ⟨v12, hv12, hE⟩ := Option.bind_eq_some_iff.mp hE
  refine r_gI 1 (C := RX6) (T := TX6) (N := 3) (ci := 5) hx hb hts (by decide +kernel) hown hK hH hv12 rfl (by decide) (hts (.fieldLink RX6 24 "KindStreets$Text" "place" "I") (by decide +kernel)) (fun _ h9 => h9) dX6_readInto_61 ?_
  refine lv_isub hx hb dX6_readInto_64 ?_
  have hZ := Option.some.inj hE
  subst hZ
  exact W.iret (v := ((-10) - v12)) hx hb hr (fun t ht hW => ⟨rfl, by rw [ht]; exact hH, hS.F ht⟩) hS.2.2 dX6_readInto_65
def fX6_readInto_b45 (F : Nat) (k11 : Nat → Nat → Int32 → HL → Option (Int32 × HL)) (a0 : Nat) (x1 : Nat) (x2 : Int32) (y0 : Int32) (y1 : Nat) (y2 : Nat) (L : HL) : Option (Int32 × HL) := (fX6_readItem F L y2 y1 y0).bind fun z10 => if z10.1 = 0 then (fX6_readInto_b58 F a0 z10.2) else ((fX6_readEnd F z10.2 a0).bind fun z13 => if z13.1 = 0 then (fX6_readInto_b58 F a0 z13.2) else (k11 a0 x1 (x2 + 1) z13.2))
set_option maxHeartbeats 4000000 in
set_option maxRecDepth 100000 in
theorem sX6_readInto_b45 {b0 : Nat} {D : va_G} {cA : Nat → ClassId} {p : Program} {l : Launch} {ev : Env} {s : State} {m : MethodId} {args : Array Value} {below : List Frame} {meth : Method} {c : Code} {F : Nat} {z : (Int32 × HL)} {k11 : Nat → Nat → Int32 → HL → Option (Int32 × HL)} {a0 : Nat} {x1 : Nat} {x2 : Int32} {y0 : Int32} {y1 : Nat} {y2 : Nat} {L : HL} (hC : Cx D cA p s m args meth c cX6_readInto 3 RX6 wsX6_readInto (some .int)) (hk11 : ∀ (a0' : Nat) (x1' : Nat) (x2' : Int32) (L' : HL), k11 a0' x1' x2' L' = some z → WB b0 D cA p l ev (RM 5 0 0) s m args below meth c 3 0 0 (MQ below (Qk b0 D cA (some (.int z.1)) z.2) args s 0 0 (Ab b0)) 11 [(0, .ref (b0 + a0')), (1, .ref (b0 + x1')), (2, .int x2')] [] L') (hE : fX6_readInto_b45 F k11 a0 x1 x2 y0 y1 y2 L = some z) : WB b0 D cA p l ev (RM 5 0 0) s m args below meth c 3 0 0 (MQ below (Qk b0 D cA (some (.int z.1)) z.2) args s 0 0 (Ab b0)) 45 [(0, .ref (b0 + a0)), (1, .ref (b0 + x1)), (2, .int x2)] [.int y0, .ref (b0 + y1), .ref (b0 + y2)] L := by
  obtain ⟨hx, hb, hml, hown, hts, hK, hr, hlocks⟩ := id hC
  intro H locs ls hH hS hl
  unfold fX6_readInto_b45 at hE
  obtain ⟨z10, hz10, hE⟩ := Option.bind_eq_some_iff.mp hE
  refine r_callI (va_runV (As := [.ref (b0 + y1), .int y0]) (rest := []) ⟨hx, hb, hml, hown, hts⟩ (sX6_readItem l b0 D cA hz10) (cwV 2 hts gX6_readInto_X6_readItem rfl rfl rfl (by decide +kernel) (rm_ok (by decide) (by decide))) (pre_V (ci := 5) hK hH (oX6_readItem hz10) rfl) rfl rfl hl.1 rfl (lv_room (Nat.le_of_ble_eq_true rfl)) dX6_readInto_45 ⟨Nat.zero_le _, Nat.zero_le _⟩) hS (fun H locs hH hS => ?_)
  refine lv_if_eq (tgt := 58) hx hb dX6_readInto_48 (by decide) (fun c11 => ?_) (fun c11 => ?_)
  · rw [if_pos c11] at hE
    exact sX6_readInto_b58 (F := F) hC hE _ _ _ hH hS (lv_sub hl [0] rfl)
  · rw [if_neg c11] at hE
    refine lv_aload_n hx hb dX6_readInto_51 rfl (lv_at hl 0 rfl) ?_
    obtain ⟨z13, hz13, hE⟩ := Option.bind_eq_some_iff.mp hE
    refine r_callI (va_runV (As := []) (rest := []) ⟨hx, hb, hml, hown, hts⟩ (sX6_readEnd l b0 D cA hz13) (cwV 0 hts gX6_readInto_X6_readEnd rfl rfl rfl (by decide +kernel) (rm_ok (by decide) (by decide))) (pre_V (ci := 5) hK hH (oX6_readEnd hz13) rfl) rfl rfl hl.1 rfl (lv_room (Nat.le_of_ble_eq_true rfl)) dX6_readInto_52 ⟨Nat.zero_le _, Nat.zero_le _⟩) hS (fun H locs hH hS => ?_)
    refine lv_if_ne (tgt := 66) hx hb dX6_readInto_55 (by decide) (fun c14 => ?_) (fun c14 => ?_)
    · rw [if_neg c14] at hE
      refine lv_iinc (v := (x2 + 1)) (lv' := [(2, .int (x2 + 1)), (0, .ref (b0 + a0)), (1, .ref (b0 + x1))]) hx hb dX6_readInto_66 hl (k := 2) rfl rfl (by decide) rfl (fun ls hl => ?_)
      refine lv_goto (tgt := 11) hx hb dX6_readInto_69 (by decide) ?_
      exact hk11 _ _ _ _ hE _ _ _ hH hS (lv_sub hl [1, 2, 0] rfl)
    · rw [if_pos c14] at hE
      exact sX6_readInto_b58 (F := F) hC hE _ _ _ hH hS (lv_sub hl [0] rfl)
def fX6_readInto_b11c (F : Nat) (k11 : Nat → Nat → Int32 → HL → Option (Int32 × HL)) (a0 : Nat) (x1 : Nat) (x2 : Int32) (L : HL) : Option (Int32 × HL) := if 120 ≤ x2 then ((o_gI L a0 5 1).bind fun v4 => some ((-10) - v4, L)) else ((fX6_skipBlanks F L a0).bind fun z5 => (o_gI z5 a0 5 1).bind fun v6 => (o_gI z5 a0 5 2).bind fun v7 => if v6 < v7 then (if x2 = 0 then (fX6_readInto_b45 F k11 a0 x1 x2 1 x1 a0 z5) else (fX6_readInto_b45 F k11 a0 x1 x2 0 x1 a0 z5)) else (some (x2, z5)))
def fX6_readInto_b11 (F : Nat) : Nat → Nat → Nat → Int32 → HL → Option (Int32 × HL)
  | 0 => fun _ _ _ _ => none
  | n + 1 => fun a0 x1 x2 L => fX6_readInto_b11c F (fX6_readInto_b11 F n) a0 x1 x2 L
set_option maxHeartbeats 4000000 in
set_option maxRecDepth 100000 in
theorem sX6_readInto_b11c {b0 : Nat} {D : va_G} {cA : Nat → ClassId} {p : Program} {l : Launch} {ev : Env} {s : State} {m : MethodId} {args : Array Value} {below : List Frame} {meth : Method} {c : Code} {F : Nat} {z : (Int32 × HL)} {k11 : Nat → Nat → Int32 → HL → Option (Int32 × HL)} {a0 : Nat} {x1 : Nat} {x2 : Int32} {L : HL} (hC : Cx D cA p s m args meth c cX6_readInto 3 RX6 wsX6_readInto (some .int)) (hk11 : ∀ (a0' : Nat) (x1' : Nat) (x2' : Int32) (L' : HL), k11 a0' x1' x2' L' = some z → WB b0 D cA p l ev (RM 5 0 0) s m args below meth c 3 0 0 (MQ below (Qk b0 D cA (some (.int z.1)) z.2) args s 0 0 (Ab b0)) 11 [(0, .ref (b0 + a0')), (1, .ref (b0 + x1')), (2, .int x2')] [] L') (hE : fX6_readInto_b11c F k11 a0 x1 x2 L = some z) : WB b0 D cA p l ev (RM 5 0 0) s m args below meth c 3 0 0 (MQ below (Qk b0 D cA (some (.int z.1)) z.2) args s 0 0 (Ab b0)) 11 [(0, .ref (b0 + a0)), (1, .ref (b0 + x1)), (2, .int x2)] [] L := by
  obtain ⟨hx, hb, hml, hown, hts, hK, hr, hlocks⟩ := id hC
  intro H locs ls hH hS hl
  unfold fX6_readInto_b11c at hE
  refine lv_iload_n hx hb dX6_readInto_11 rfl (lv_at hl 2 rfl) ?_
  refine lv_bipush (v := 120) hx hb dX6_readInto_12 (by decide) ?_
  refine lv_icmp_ge (tgt := 72) hx hb dX6_readInto_14 (by decide) (fun c3 => ?_) (fun c3 => ?_)
  · rw [if_pos c3] at hE
    refine lv_bipush (v := (-10)) hx hb dX6_readInto_72 (by decide) ?_
    refine lv_aload_n hx hb dX6_readInto_74 rfl (lv_at hl 0 rfl) ?_
    obtain ⟨v4, hv4, hE⟩ := Option.bind_eq_some_iff.mp hE
    refine r_gI 1 (C := RX6) (T := TX6) (N := 3) (ci := 5) hx hb hts (by decide +kernel) hown hK hH hv4 rfl (by decide) (hts (.fieldLink RX6 24 "KindStreets$Text" "place" "I") (by decide +kernel)) (fun _ h9 => h9) dX6_readInto_75 ?_
    refine lv_isub hx hb dX6_readInto_78 ?_
    have hZ := Option.some.inj hE
    subst hZ
    exact W.iret (v := ((-10) - v4)) hx hb hr (fun t ht hW => ⟨rfl, by rw [ht]; exact hH, hS.F ht⟩) hS.2.2 dX6_readInto_79
  · rw [if_neg c3] at hE
    refine lv_aload_n hx hb dX6_readInto_17 rfl (lv_at hl 0 rfl) ?_
    obtain ⟨z5, hz5, hE⟩ := Option.bind_eq_some_iff.mp hE
    refine r_callV (va_runV (As := []) (rest := []) ⟨hx, hb, hml, hown, hts⟩ (sX6_skipBlanks l b0 D cA hz5) (cwV 0 hts gX6_readInto_X6_skipBlanks rfl rfl rfl (by decide +kernel) (rm_ok (by decide) (by decide))) (pre_V (ci := 5) hK hH (oX6_skipBlanks hz5) rfl) rfl rfl hl.1 rfl (lv_room (Nat.le_of_ble_eq_true rfl)) dX6_readInto_18 ⟨Nat.zero_le _, Nat.zero_le _⟩) hS (fun H locs hH hS => ?_)
    refine lv_aload_n hx hb dX6_readInto_21 rfl (lv_at hl 0 rfl) ?_
    obtain ⟨v6, hv6, hE⟩ := Option.bind_eq_some_iff.mp hE
    refine r_gI 1 (C := RX6) (T := TX6) (N := 3) (ci := 5) hx hb hts (by decide +kernel) hown hK hH hv6 rfl (by decide) (hts (.fieldLink RX6 24 "KindStreets$Text" "place" "I") (by decide +kernel)) (fun _ h9 => h9) dX6_readInto_22 ?_
    refine lv_aload_n hx hb dX6_readInto_25 rfl (lv_at hl 0 rfl) ?_
    obtain ⟨v7, hv7, hE⟩ := Option.bind_eq_some_iff.mp hE
    refine r_gI 2 (C := RX6) (T := TX6) (N := 3) (ci := 5) hx hb hts (by decide +kernel) hown hK hH hv7 rfl (by decide) (hts (.fieldLink RX6 15 "KindStreets$Text" "length" "I") (by decide +kernel)) (fun _ h9 => h9) dX6_readInto_26 ?_
    refine lv_icmp_lt (tgt := 34) hx hb dX6_readInto_29 (by decide) (fun c8 => ?_) (fun c8 => ?_)
    · rw [if_pos c8] at hE
      refine lv_aload_n hx hb dX6_readInto_34 rfl (lv_at hl 0 rfl) ?_
      refine lv_aload_n hx hb dX6_readInto_35 rfl (lv_at hl 1 rfl) ?_
      refine lv_iload_n hx hb dX6_readInto_36 rfl (lv_at hl 2 rfl) ?_
      refine lv_if_ne (tgt := 44) hx hb dX6_readInto_37 (by decide) (fun c9 => ?_) (fun c9 => ?_)
      · rw [if_neg c9] at hE
        refine lv_iconst (v := 0) hx hb dX6_readInto_44 (by decide) ?_
        exact sX6_readInto_b45 (F := F) hC hk11 hE _ _ _ hH hS (lv_sub hl [0, 1, 2] rfl)
      · rw [if_pos c9] at hE
        refine lv_iconst (v := 1) hx hb dX6_readInto_40 (by decide) ?_
        refine lv_goto (tgt := 45) hx hb dX6_readInto_41 (by decide) ?_
        exact sX6_readInto_b45 (F := F) hC hk11 hE _ _ _ hH hS (lv_sub hl [0, 1, 2] rfl)
    · rw [if_neg c8] at hE
      refine lv_iload_n hx hb dX6_readInto_32 rfl (lv_at hl 2 rfl) ?_
      have hZ := Option.some.inj hE
      subst hZ
      exact W.iret (v := x2) hx hb hr (fun t ht hW => ⟨rfl, by rw [ht]; exact hH, hS.F ht⟩) hS.2.2 dX6_readInto_33
theorem sX6_readInto_b11 {b0 : Nat} {D : va_G} {cA : Nat → ClassId} {p : Program} {l : Launch} {ev : Env} {s : State} {m : MethodId} {args : Array Value} {below : List Frame} {meth : Method} {c : Code} {F : Nat} {z : (Int32 × HL)} (hC : Cx D cA p s m args meth c cX6_readInto 3 RX6 wsX6_readInto (some .int)) : ∀ (n : Nat) (a0 : Nat) (x1 : Nat) (x2 : Int32) (L : HL), fX6_readInto_b11 F n a0 x1 x2 L = some z → WB b0 D cA p l ev (RM 5 0 0) s m args below meth c 3 0 0 (MQ below (Qk b0 D cA (some (.int z.1)) z.2) args s 0 0 (Ab b0)) 11 [(0, .ref (b0 + a0)), (1, .ref (b0 + x1)), (2, .int x2)] [] L := by
  intro n
  induction n with
  | zero => intro a0 x1 x2 L hE; cases hE
  | succ n ih => intro a0 x1 x2 L hE; exact sX6_readInto_b11c (F := F) hC ih hE
def fX6_readInto (F : Nat) (L : HL) (a0 : Nat) (x1 : Nat) : Option (Int32 × HL) := (o_ob L a0 5).bind fun _ => (fX7_begin_T F L x1).bind fun z1 => (o_p z1 a0 5 1 (.int 0)).bind fun L2 => fX6_readInto_b11 F F a0 x1 0 L2
theorem oX6_readInto {F : Nat} {L : HL} {a0 : Nat} {x1 : Nat} {z : (Int32 × HL)} (hE : fX6_readInto F L a0 x1 = some z) : o_ob L a0 5 = some () := by
  obtain ⟨_, h, _⟩ := Option.bind_eq_some_iff.mp hE
  exact h
set_option maxHeartbeats 4000000 in
set_option maxRecDepth 100000 in
theorem sX6_readInto (l : Launch) (b0 : Nat) (D : va_G) (cA : Nat → ClassId) {F : Nat} {L : HL} {a0 : Nat} {x1 : Nat} {z : (Int32 × HL)} (hE : fX6_readInto F L a0 x1 = some z) : Met l yX6_readInto wsX6_readInto (RM 5 0 0) (Pk b0 D cA [.ref (b0 + a0), .ref (b0 + x1)] L) (Qk b0 D cA (some (.int z.1)) z.2) 0 0 (Ab b0) := by
  refine Met.ofW (cc := cX6_readInto) (maxL := 3) (ret := (some .int)) (by decide) rfl ?_
  intro p ev s m args below meth c s₁ B hml hv
  obtain ⟨rfl, hH, hK⟩ := hv
  have hx := B.exec
  have hb := B.bytes
  have hr := B.returns
  have hts := atoms_spec (ws := wsX6_readInto) B.pre
  have hown : s.vm.findClass RX6 = some m.cls := findClass_of_methodNamed B.named
  have hlocks := B.notSynchronized
  have hC : Cx D cA p s m _ meth c cX6_readInto 3 RX6 wsX6_readInto (some .int) := ⟨hx, hb, hml, hown, hts, hK, hr, hlocks⟩
  have hS : va_S (Ab b0) s.heap s.heap [] := va_S.rf
  have hl := lv_entry ([.ref (b0 + a0), .ref (b0 + x1)]) (n := 3) (Nat.le_of_ble_eq_true rfl)
  rw [lg_entry_eq]
  generalize (lg_sl ([.ref (b0 + a0), .ref (b0 + x1)]) ++ List.replicate (3 - (lg_sl ([.ref (b0 + a0), .ref (b0 + x1)])).length) Slot.unset).toArray = ls at hl ⊢
  have hl : lv_has ls 3 [(0, .ref (b0 + a0)), (1, .ref (b0 + x1))] := hl
  unfold fX6_readInto at hE
  obtain ⟨_, _, hE⟩ := Option.bind_eq_some_iff.mp hE
  refine lv_aload_n hx hb dX6_readInto_0 rfl (lv_at hl 1 rfl) ?_
  obtain ⟨z1, hz1, hE⟩ := Option.bind_eq_some_iff.mp hE
  refine r_callV (va_runV (As := []) (rest := []) ⟨hx, hb, hml, hown, hts⟩ (sX7_begin_T l b0 D cA hz1) (cwV 0 hts gX6_readInto_X7_begin rfl rfl rfl (by decide +kernel) (rm_ok (by decide) (by decide))) (pre_V (ci := 6) hK hH (oX7_begin_T hz1) rfl) rfl rfl hl.1 rfl (lv_room (Nat.le_of_ble_eq_true rfl)) dX6_readInto_1 ⟨Nat.zero_le _, Nat.zero_le _⟩) hS (fun H locs hH hS => ?_)
  refine lv_aload_n hx hb dX6_readInto_4 rfl (lv_at hl 0 rfl) ?_
  refine lv_iconst (v := 0) hx hb dX6_readInto_5 (by decide) ?_
  obtain ⟨L2, hL2, hE⟩ := Option.bind_eq_some_iff.mp hE
  refine r_p 1 (v := .int 0) (ty := .int) (C := RX6) (T := TX6) (N := 3) (ci := 5) hx hb hts (by decide +kernel) tyX6 tyX6_ok nmX6 hown hK hH hS hL2 rfl (by decide) (hts (.fieldLink RX6 24 "KindStreets$Text" "place" "I") (by decide +kernel)) (fun _ h9 => h9) rfl (by decide +kernel) rfl rfl dX6_readInto_6 (fun H locs hH hS => ?_)
  refine lv_iconst (v := 0) hx hb dX6_readInto_9 (by decide) ?_
  refine lv_istore_n (lv' := [(2, .int 0), (0, .ref (b0 + a0)), (1, .ref (b0 + x1))]) hx hb dX6_readInto_10 rfl hl (by decide) rfl (fun ls hl => ?_)
  exact sX6_readInto_b11 (F := F) hC F _ _ _ _ hE _ _ _ hH hS (lv_sub hl [1, 2, 0] rfl)
-- X6_add
def fX6_add (F : Nat) (L : HL) (a0 : Nat) (x1 : Int32) : Option HL := (o_ob L a0 5).bind fun _ => (o_gI L a0 5 2).bind fun v1 => if 120 ≤ v1 then (some L) else ((o_gR L a0 5 0).bind fun v3 => (o_gI L a0 5 2).bind fun v4 => (o_sI L v3 0 v4 x1).bind fun L5 => (o_gI L5 a0 5 2).bind fun v6 => (o_p L5 a0 5 2 (.int (v6 + 1))).bind fun L7 => some L7)
theorem oX6_add {F : Nat} {L : HL} {a0 : Nat} {x1 : Int32} {z : HL} (hE : fX6_add F L a0 x1 = some z) : o_ob L a0 5 = some () := by
  obtain ⟨_, h, _⟩ := Option.bind_eq_some_iff.mp hE
  exact h
set_option maxHeartbeats 4000000 in
set_option maxRecDepth 100000 in
theorem sX6_add (l : Launch) (b0 : Nat) (D : va_G) (cA : Nat → ClassId) {F : Nat} {L : HL} {a0 : Nat} {x1 : Int32} {z : HL} (hE : fX6_add F L a0 x1 = some z) : Met l yX6_add wsX6_add (RM 0 0 0) (Pk b0 D cA [.ref (b0 + a0), .int x1] L) (Qk b0 D cA none z) 0 0 (Ab b0) := by
  refine Met.ofW (cc := cX6_add) (maxL := 2) (ret := none) (by decide) rfl ?_
  intro p ev s m args below meth c s₁ B hml hv
  obtain ⟨rfl, hH, hK⟩ := hv
  have hx := B.exec
  have hb := B.bytes
  have hr := B.returns
  have hts := atoms_spec (ws := wsX6_add) B.pre
  have hown : s.vm.findClass RX6 = some m.cls := findClass_of_methodNamed B.named
  have hlocks := B.notSynchronized
  have hC : Cx D cA p s m _ meth c cX6_add 2 RX6 wsX6_add none := ⟨hx, hb, hml, hown, hts, hK, hr, hlocks⟩
  have hS : va_S (Ab b0) s.heap s.heap [] := va_S.rf
  have hl := lv_entry ([.ref (b0 + a0), .int x1]) (n := 2) (Nat.le_of_ble_eq_true rfl)
  rw [lg_entry_eq]
  generalize (lg_sl ([.ref (b0 + a0), .int x1]) ++ List.replicate (2 - (lg_sl ([.ref (b0 + a0), .int x1])).length) Slot.unset).toArray = ls at hl ⊢
  have hl : lv_has ls 2 [(0, .ref (b0 + a0)), (1, .int x1)] := hl
  unfold fX6_add at hE
  obtain ⟨_, _, hE⟩ := Option.bind_eq_some_iff.mp hE
  refine lv_aload_n hx hb dX6_add_0 rfl (lv_at hl 0 rfl) ?_
  obtain ⟨v1, hv1, hE⟩ := Option.bind_eq_some_iff.mp hE
  refine r_gI 2 (C := RX6) (T := TX6) (N := 3) (ci := 5) hx hb hts (by decide +kernel) hown hK hH hv1 rfl (by decide) (hts (.fieldLink RX6 15 "KindStreets$Text" "length" "I") (by decide +kernel)) (fun _ h9 => h9) dX6_add_1 ?_
  refine lv_bipush (v := 120) hx hb dX6_add_4 (by decide) ?_
  refine lv_icmp_ge (tgt := 29) hx hb dX6_add_6 (by decide) (fun c2 => ?_) (fun c2 => ?_)
  · rw [if_pos c2] at hE
    have hZ := Option.some.inj hE
    subst hZ
    exact W.vret hx hb hr (fun t ht hW => ⟨rfl, by rw [ht]; exact hH, hS.F ht⟩) hS.2.2 dX6_add_29
  · rw [if_neg c2] at hE
    refine lv_aload_n hx hb dX6_add_9 rfl (lv_at hl 0 rfl) ?_
    obtain ⟨v3, hv3, hE⟩ := Option.bind_eq_some_iff.mp hE
    refine r_gR 0 (C := RX6) (T := TX6) (N := 3) (ci := 5) hx hb hts (by decide +kernel) hown hK hH hv3 rfl (by decide) (hts (.fieldLink RX6 9 "KindStreets$Text" "bytes" "[I") (by decide +kernel)) (fun _ h9 => h9) dX6_add_10 ?_
    refine lv_aload_n hx hb dX6_add_13 rfl (lv_at hl 0 rfl) ?_
    obtain ⟨v4, hv4, hE⟩ := Option.bind_eq_some_iff.mp hE
    refine r_gI 2 (C := RX6) (T := TX6) (N := 3) (ci := 5) hx hb hts (by decide +kernel) hown hK hH hv4 rfl (by decide) (hts (.fieldLink RX6 15 "KindStreets$Text" "length" "I") (by decide +kernel)) (fun _ h9 => h9) dX6_add_14 ?_
    refine lv_iload_n hx hb dX6_add_17 rfl (lv_at hl 1 rfl) ?_
    obtain ⟨L5, hL5, hE⟩ := Option.bind_eq_some_iff.mp hE
    refine r_iast hx hb hK hH hS hL5 dX6_add_18 (fun H locs hH hS => ?_)
    refine lv_aload_n hx hb dX6_add_19 rfl (lv_at hl 0 rfl) ?_
    refine lv_dup hx hb dX6_add_20 rfl ?_
    obtain ⟨v6, hv6, hE⟩ := Option.bind_eq_some_iff.mp hE
    refine r_gI 2 (C := RX6) (T := TX6) (N := 3) (ci := 5) hx hb hts (by decide +kernel) hown hK hH hv6 rfl (by decide) (hts (.fieldLink RX6 15 "KindStreets$Text" "length" "I") (by decide +kernel)) (fun _ h9 => h9) dX6_add_21 ?_
    refine lv_iconst (v := 1) hx hb dX6_add_24 (by decide) ?_
    refine lv_iadd hx hb dX6_add_25 ?_
    obtain ⟨L7, hL7, hE⟩ := Option.bind_eq_some_iff.mp hE
    refine r_p 2 (v := .int (v6 + 1)) (ty := .int) (C := RX6) (T := TX6) (N := 3) (ci := 5) hx hb hts (by decide +kernel) tyX6 tyX6_ok nmX6 hown hK hH hS hL7 rfl (by decide) (hts (.fieldLink RX6 15 "KindStreets$Text" "length" "I") (by decide +kernel)) (fun _ h9 => h9) rfl (by decide +kernel) rfl rfl dX6_add_26 (fun H locs hH hS => ?_)
    have hZ := Option.some.inj hE
    subst hZ
    exact W.vret hx hb hr (fun t ht hW => ⟨rfl, by rw [ht]; exact hH, hS.F ht⟩) hS.2.2 dX6_add_29

-- L_law
def fL_law_b861 (F : Nat) (xn : Nat) (xs : Nat → Int32) (k18 : Nat → Nat → Int32 → HL → Option HL) (x1 : Nat) (x2 : Nat) (x3 : Int32) (L : HL) : Option HL := k18 x1 x2 (x3 + 5) L
set_option maxHeartbeats 4000000 in
set_option maxRecDepth 100000 in
theorem sL_law_b861 {b0 : Nat} {D : va_G} {cA : Nat → ClassId} {p : Program} {l : Launch} {ev : Env} {s : State} {m : MethodId} {below : List Frame} {meth : Method} {c : Code} {F : Nat} {b xn : Nat} {xs : Nat → Int32} {z : HL} {k18 : Nat → Nat → Int32 → HL → Option HL} {x1 : Nat} {x2 : Nat} {x3 : Int32} {L : HL} (hC : Cx D cA p s m #[Value.ref b] meth c cL_law 4 RL wsL_law (some .boolean)) (hX : va_X b xn xs s s.heap) (hbl : b < s.heap.size) (hbA : ¬ (Ab b0) b) (hb0 : s.heap.size ≤ b0) (hk18 : ∀ (x1' : Nat) (x2' : Nat) (x3' : Int32) (L' : HL), k18 x1' x2' x3' L' = some z → WB b0 D cA p l ev room_1 s m #[Value.ref b] below meth c 4 227 6626 (lw_Z below #[Value.ref b] s) 18 [(0, .ref b), (1, .ref (b0 + x1')), (2, .ref (b0 + x2')), (3, .int x3')] [] L') (hE : fL_law_b861 F xn xs k18 x1 x2 x3 L = some z) : WB b0 D cA p l ev room_1 s m #[Value.ref b] below meth c 4 227 6626 (lw_Z below #[Value.ref b] s) 861 [(0, .ref b), (1, .ref (b0 + x1)), (2, .ref (b0 + x2)), (3, .int x3)] [] L := by
  obtain ⟨hx, hb, hml, hown, hts, hK, hr, hlocks⟩ := id hC
  intro H locs ls hH hS hl
  unfold fL_law_b861 at hE
  refine lv_iinc (v := (x3 + 5)) (lv' := [(3, .int (x3 + 5)), (0, .ref b), (1, .ref (b0 + x1)), (2, .ref (b0 + x2))]) hx hb dL_law_861 hl (k := 3) rfl rfl (by decide) rfl (fun ls hl => ?_)
  refine lv_goto (tgt := 18) hx hb dL_law_864 (by decide) ?_
  exact hk18 _ _ _ _ hE _ _ _ hH hS (lv_sub hl [1, 2, 3, 0] rfl)
def fL_law_b18c (F : Nat) (xn : Nat) (xs : Nat → Int32) (k18 : Nat → Nat → Int32 → HL → Option HL) (x1 : Nat) (x2 : Nat) (x3 : Int32) (L : HL) : Option HL := if ((Int32.ofNat xn) - 5) < x3 then (some L) else ((o_x xn xs x3).bind fun v4 => if (v4 &&& 31) = 0 then ((o_x xn xs (x3 + 1)).bind fun v7 => (fX9_type F L x1 v7).bind fun z8 => (o_x xn xs (x3 + 1)).bind fun v9 => (fX10_type F z8.2 x2 v9).bind fun z10 => if z8.1 = z10.1 then (fL_law_b861 F xn xs k18 x1 x2 x3 z10.2) else (none)) else if (v4 &&& 31) = 1 then ((fX9_clear F L x1).bind fun z13 => (fX10_clear F z13.2 x2).bind fun z14 => if z13.1 = z14.1 then (fL_law_b861 F xn xs k18 x1 x2 x3 z14.2) else (none)) else if (v4 &&& 31) = 2 then ((fX9_town F L x1).bind fun z17 => (fX10_town F z17.2 x2).bind fun z18 => if z17.1 = z18.1 then (fL_law_b861 F xn xs k18 x1 x2 x3 z18.2) else (none)) else if (v4 &&& 31) = 3 then ((o_x xn xs (x3 + 1)).bind fun v21 => (o_x xn xs (x3 + 2)).bind fun v22 => (fX9_street F L x1 v21 v22).bind fun z23 => (o_x xn xs (x3 + 1)).bind fun v24 => (o_x xn xs (x3 + 2)).bind fun v25 => (fX10_street F z23.2 x2 v24 v25).bind fun z26 => if z23.1 = z26.1 then (fL_law_b861 F xn xs k18 x1 x2 x3 z26.2) else (none)) else if (v4 &&& 31) = 4 then ((o_x xn xs (x3 + 1)).bind fun v29 => (o_x xn xs (x3 + 2)).bind fun v30 => (fX9_citizen F L x1 v29 v30).bind fun z31 => (o_x xn xs (x3 + 1)).bind fun v32 => (o_x xn xs (x3 + 2)).bind fun v33 => (fX10_citizen F z31.2 x2 v32 v33).bind fun z34 => if z31.1 = z34.1 then (fL_law_b861 F xn xs k18 x1 x2 x3 z34.2) else (none)) else if (v4 &&& 31) = 5 then ((o_x xn xs (x3 + 1)).bind fun v37 => (o_x xn xs (x3 + 2)).bind fun v38 => (o_x xn xs (x3 + 3)).bind fun v39 => (fX9_does F L x1 v37 v38 v39).bind fun z40 => (o_x xn xs (x3 + 1)).bind fun v41 => (o_x xn xs (x3 + 2)).bind fun v42 => (o_x xn xs (x3 + 3)).bind fun v43 => (fX10_does F z40.2 x2 v41 v42 v43).bind fun z44 => if z40.1 = z44.1 then (fL_law_b861 F xn xs k18 x1 x2 x3 z44.2) else (none)) else if (v4 &&& 31) = 6 then ((o_x xn xs (x3 + 1)).bind fun v47 => (fX9_wills F L x1 v47).bind fun z48 => (o_x xn xs (x3 + 1)).bind fun v49 => (fX10_wills F z48.2 x2 v49).bind fun z50 => if z48.1 = z50.1 then (fL_law_b861 F xn xs k18 x1 x2 x3 z50.2) else (none)) else if (v4 &&& 31) = 7 then ((o_x xn xs (x3 + 1)).bind fun v53 => (o_x xn xs (x3 + 2)).bind fun v54 => (fX9_moves F L x1 v53 v54).bind fun z55 => (o_x xn xs (x3 + 1)).bind fun v56 => (o_x xn xs (x3 + 2)).bind fun v57 => (fX10_moves F z55.2 x2 v56 v57).bind fun z58 => if z55.1 = z58.1 then (fL_law_b861 F xn xs k18 x1 x2 x3 z58.2) else (none)) else if (v4 &&& 31) = 8 then ((o_x xn xs (x3 + 1)).bind fun v61 => (fX9_night F L x1 v61).bind fun z62 => (o_x xn xs (x3 + 1)).bind fun v63 => (fX10_night F z62.2 x2 v63).bind fun z64 => if z62.1 = z64.1 then (fL_law_b861 F xn xs k18 x1 x2 x3 z64.2) else (none)) else if (v4 &&& 31) = 9 then ((fX9_undo F L x1).bind fun z67 => (fX10_undo F z67.2 x2).bind fun z68 => if z67.1 = z68.1 then (fL_law_b861 F xn xs k18 x1 x2 x3 z68.2) else (none)) else if (v4 &&& 31) = 10 then ((o_x xn xs (x3 + 1)).bind fun v71 => (fX9_now F L x1 v71).bind fun z72 => (o_x xn xs (x3 + 1)).bind fun v73 => (fX10_now F z72.2 x2 v73).bind fun z74 => if z72.1 = z74.1 then (fL_law_b861 F xn xs k18 x1 x2 x3 z74.2) else (none)) else if (v4 &&& 31) = 11 then ((o_x xn xs (x3 + 1)).bind fun v77 => (o_x xn xs (x3 + 2)).bind fun v78 => (fX9_widest F L x1 v77 v78).bind fun z79 => (o_x xn xs (x3 + 1)).bind fun v80 => (o_x xn xs (x3 + 2)).bind fun v81 => (fX10_widest F z79.2 x2 v80 v81).bind fun z82 => if z79.1 = z82.1 then (fL_law_b861 F xn xs k18 x1 x2 x3 z82.2) else (none)) else if (v4 &&& 31) = 12 then ((o_x xn xs (x3 + 1)).bind fun v85 => (o_x xn xs (x3 + 2)).bind fun v86 => (o_x xn xs (x3 + 3)).bind fun v87 => (fX9_way F L x1 v85 v86 v87).bind fun z88 => (o_x xn xs (x3 + 1)).bind fun v89 => (o_x xn xs (x3 + 2)).bind fun v90 => (o_x xn xs (x3 + 3)).bind fun v91 => (fX10_way F z88.2 x2 v89 v90 v91).bind fun z92 => if z88.1 = z92.1 then (fL_law_b861 F xn xs k18 x1 x2 x3 z92.2) else (none)) else if (v4 &&& 31) = 13 then ((o_x xn xs (x3 + 1)).bind fun v95 => (o_x xn xs (x3 + 2)).bind fun v96 => (o_x xn xs (x3 + 3)).bind fun v97 => (fX9_flow F L x1 v95 v96 v97).bind fun z98 => (o_x xn xs (x3 + 1)).bind fun v99 => (o_x xn xs (x3 + 2)).bind fun v100 => (o_x xn xs (x3 + 3)).bind fun v101 => (fX10_flow F z98.2 x2 v99 v100 v101).bind fun z102 => if z98.1 = z102.1 then (fL_law_b861 F xn xs k18 x1 x2 x3 z102.2) else (none)) else if (v4 &&& 31) = 14 then ((o_x xn xs (x3 + 1)).bind fun v105 => (o_x xn xs (x3 + 2)).bind fun v106 => (o_x xn xs (x3 + 3)).bind fun v107 => (fX9_need F L x1 v105 v106 v107).bind fun z108 => (o_x xn xs (x3 + 1)).bind fun v109 => (o_x xn xs (x3 + 2)).bind fun v110 => (o_x xn xs (x3 + 3)).bind fun v111 => (fX10_need F z108.2 x2 v109 v110 v111).bind fun z112 => if z108.1 = z112.1 then (fL_law_b861 F xn xs k18 x1 x2 x3 z112.2) else (none)) else if (v4 &&& 31) = 15 then ((o_x xn xs (x3 + 1)).bind fun v115 => (o_x xn xs (x3 + 2)).bind fun v116 => (o_x xn xs (x3 + 3)).bind fun v117 => (o_x xn xs (x3 + 4)).bind fun v118 => (fX9_odds F L x1 v115 v116 v117 v118).bind fun z119 => (o_x xn xs (x3 + 1)).bind fun v120 => (o_x xn xs (x3 + 2)).bind fun v121 => (o_x xn xs (x3 + 3)).bind fun v122 => (o_x xn xs (x3 + 4)).bind fun v123 => (fX10_odds F z119.2 x2 v120 v121 v122 v123).bind fun z124 => if z119.1 = z124.1 then (fL_law_b861 F xn xs k18 x1 x2 x3 z124.2) else (none)) else if (v4 &&& 31) = 16 then ((o_x xn xs (x3 + 1)).bind fun v127 => (fX9_carriage F L x1 v127).bind fun z128 => (o_x xn xs (x3 + 1)).bind fun v129 => (fX10_carriage F z128.2 x2 v129).bind fun z130 => if z128.1 = z130.1 then (fL_law_b861 F xn xs k18 x1 x2 x3 z130.2) else (none)) else if (v4 &&& 31) = 17 then ((o_x xn xs (x3 + 1)).bind fun v133 => (o_x xn xs (x3 + 2)).bind fun v134 => (fX9_measures F L x1 v133 v134).bind fun z135 => (o_x xn xs (x3 + 1)).bind fun v136 => (o_x xn xs (x3 + 2)).bind fun v137 => (fX10_measures F z135.2 x2 v136 v137).bind fun z138 => if z135.1 = z138.1 then (fL_law_b861 F xn xs k18 x1 x2 x3 z138.2) else (none)) else if (v4 &&& 31) = 18 then ((fX9_forget F L x1).bind fun z141 => (fX10_forget F z141.2 x2).bind fun z142 => if z141.1 = z142.1 then (fL_law_b861 F xn xs k18 x1 x2 x3 z142.2) else (none)) else if (v4 &&& 31) = 19 then ((o_x xn xs (x3 + 1)).bind fun v145 => (fX9_deeds F L x1 v145).bind fun z146 => (o_x xn xs (x3 + 1)).bind fun v147 => (fX10_deeds F z146.2 x2 v147).bind fun z148 => if z146.1 = z148.1 then (fL_law_b861 F xn xs k18 x1 x2 x3 z148.2) else (none)) else if (v4 &&& 31) = 20 then ((fX9_when F L x1).bind fun z151 => (fX10_when F z151.2 x2).bind fun z152 => if z151.1 = z152.1 then (fL_law_b861 F xn xs k18 x1 x2 x3 z152.2) else (none)) else if (v4 &&& 31) = 21 then ((o_x xn xs (x3 + 1)).bind fun v155 => (o_x xn xs (x3 + 2)).bind fun v156 => (fX9_mark F L x1 v155 v156).bind fun z157 => (o_x xn xs (x3 + 1)).bind fun v158 => (o_x xn xs (x3 + 2)).bind fun v159 => (fX10_mark F z157.2 x2 v158 v159).bind fun z160 => if z157.1 = z160.1 then (fL_law_b861 F xn xs k18 x1 x2 x3 z160.2) else (none)) else if (v4 &&& 31) = 22 then ((o_x xn xs (x3 + 1)).bind fun v163 => (fX9_keep F L x1 v163).bind fun z164 => (o_x xn xs (x3 + 1)).bind fun v165 => (fX10_keep F z164.2 x2 v165).bind fun z166 => if z164.1 = z166.1 then (fL_law_b861 F xn xs k18 x1 x2 x3 z166.2) else (none)) else if (v4 &&& 31) = 23 then ((o_x xn xs (x3 + 1)).bind fun v169 => (fX9_back F L x1 v169).bind fun z170 => (o_x xn xs (x3 + 1)).bind fun v171 => (fX10_back F z170.2 x2 v171).bind fun z172 => if z170.1 = z172.1 then (fL_law_b861 F xn xs k18 x1 x2 x3 z172.2) else (none)) else if (v4 &&& 31) = 24 then ((o_x xn xs (x3 + 1)).bind fun v175 => (fX9_count F L x1 v175).bind fun z176 => (o_x xn xs (x3 + 1)).bind fun v177 => (fX10_count F z176.2 x2 v177).bind fun z178 => if z176.1 = z178.1 then (fL_law_b861 F xn xs k18 x1 x2 x3 z178.2) else (none)) else if (v4 &&& 31) = 25 then ((fX9_trace F L x1).bind fun z181 => (fX10_trace F z181.2 x2).bind fun z182 => if (lg_cmp z181.1 z182.1) = 0 then (fL_law_b861 F xn xs k18 x1 x2 x3 z182.2) else (none)) else fL_law_b861 F xn xs k18 x1 x2 x3 L)
def fL_law_b18 (F : Nat) (xn : Nat) (xs : Nat → Int32) : Nat → Nat → Nat → Int32 → HL → Option HL
  | 0 => fun _ _ _ _ => none
  | n + 1 => fun x1 x2 x3 L => fL_law_b18c F xn xs (fL_law_b18 F xn xs n) x1 x2 x3 L
set_option maxHeartbeats 4000000 in
set_option maxRecDepth 100000 in
theorem sL_law_b18c {b0 : Nat} {D : va_G} {cA : Nat → ClassId} {p : Program} {l : Launch} {ev : Env} {s : State} {m : MethodId} {below : List Frame} {meth : Method} {c : Code} {F : Nat} {b xn : Nat} {xs : Nat → Int32} {z : HL} {k18 : Nat → Nat → Int32 → HL → Option HL} {x1 : Nat} {x2 : Nat} {x3 : Int32} {L : HL} (hC : Cx D cA p s m #[Value.ref b] meth c cL_law 4 RL wsL_law (some .boolean)) (hX : va_X b xn xs s s.heap) (hbl : b < s.heap.size) (hbA : ¬ (Ab b0) b) (hb0 : s.heap.size ≤ b0) (hk18 : ∀ (x1' : Nat) (x2' : Nat) (x3' : Int32) (L' : HL), k18 x1' x2' x3' L' = some z → WB b0 D cA p l ev room_1 s m #[Value.ref b] below meth c 4 227 6626 (lw_Z below #[Value.ref b] s) 18 [(0, .ref b), (1, .ref (b0 + x1')), (2, .ref (b0 + x2')), (3, .int x3')] [] L') (hE : fL_law_b18c F xn xs k18 x1 x2 x3 L = some z) : WB b0 D cA p l ev room_1 s m #[Value.ref b] below meth c 4 227 6626 (lw_Z below #[Value.ref b] s) 18 [(0, .ref b), (1, .ref (b0 + x1)), (2, .ref (b0 + x2)), (3, .int x3)] [] L := by
  obtain ⟨hx, hb, hml, hown, hts, hK, hr, hlocks⟩ := id hC
  intro H locs ls hH hS hl
  unfold fL_law_b18c at hE
  refine lv_iload_n hx hb dL_law_18 rfl (lv_at hl 3 rfl) ?_
  refine lv_aload_n hx hb dL_law_19 rfl (lv_at hl 0 rfl) ?_
  refine va_slen hx hb hX hbl hbA hS dL_law_20 ?_
  refine lv_iconst (v := 5) hx hb dL_law_21 (by decide) ?_
  refine lv_isub hx hb dL_law_22 ?_
  refine lv_icmp_gt (tgt := 867) hx hb dL_law_23 (by decide) (fun c3 => ?_) (fun c3 => ?_)
  · rw [if_pos c3] at hE
    refine lv_iconst (v := 1) hx hb dL_law_867 (by decide) ?_
    have hZ := Option.some.inj hE
    subst hZ
    refine va_forget (fun q hq => Nat.le_trans hb0 (hS.2.2 q hq)) ?_
    refine W.widen (k := 600000) (n := 7302250) (by decide) (by decide) ?_
    exact lw_ret hx hb hr hlocks dL_law_868
  · rw [if_neg c3] at hE
    refine lv_aload_n hx hb dL_law_26 rfl (lv_at hl 0 rfl) ?_
    refine lv_iload_n hx hb dL_law_27 rfl (lv_at hl 3 rfl) ?_
    obtain ⟨v4, hv4, hE⟩ := Option.bind_eq_some_iff.mp hE
    refine va_sld hx hb hX hbl hbA hS (o_x_spec hv4).1 dL_law_28 ?_
    rw [← (o_x_spec hv4).2]
    refine lv_bipush (v := 31) hx hb dL_law_29 (by decide) ?_
    refine lv_iand hx hb dL_law_31 ?_
    by_cases c6 : (v4 &&& 31) = 0
    · rw [if_pos c6] at hE
      refine lv_tableIn (tgt := 152) (off := 120) hx hb dL_law_32 (by rw [c6]; decide) (by rw [c6]; decide) (by rw [c6]; rfl) (by decide) ?_
      refine lv_aload_n hx hb dL_law_152 rfl (lv_at hl 1 rfl) ?_
      refine lv_aload_n hx hb dL_law_153 rfl (lv_at hl 0 rfl) ?_
      refine lv_iload_n hx hb dL_law_154 rfl (lv_at hl 3 rfl) ?_
      refine lv_iconst (v := 1) hx hb dL_law_155 (by decide) ?_
      refine lv_iadd hx hb dL_law_156 ?_
      obtain ⟨v7, hv7, hE⟩ := Option.bind_eq_some_iff.mp hE
      refine va_sld hx hb hX hbl hbA hS (o_x_spec hv7).1 dL_law_157 ?_
      rw [← (o_x_spec hv7).2]
      obtain ⟨z8, hz8, hE⟩ := Option.bind_eq_some_iff.mp hE
      refine r_callI (va_runV (As := [.int v7]) (rest := []) ⟨hx, hb, hml, hown, hts⟩ (sX9_type l b0 D cA hz8) (cwV 1 hts gL_law_X9_type rfl rfl rfl (by decide +kernel) (by decide)) (pre_V (ci := 8) hK hH (oX9_type hz8) rfl) rfl rfl hl.1 rfl (lv_room (Nat.le_of_ble_eq_true rfl)) dL_law_158 ⟨by decide, by decide⟩) hS (fun H locs hH hS => ?_)
      refine lv_aload_n hx hb dL_law_161 rfl (lv_at hl 2 rfl) ?_
      refine lv_aload_n hx hb dL_law_162 rfl (lv_at hl 0 rfl) ?_
      refine lv_iload_n hx hb dL_law_163 rfl (lv_at hl 3 rfl) ?_
      refine lv_iconst (v := 1) hx hb dL_law_164 (by decide) ?_
      refine lv_iadd hx hb dL_law_165 ?_
      obtain ⟨v9, hv9, hE⟩ := Option.bind_eq_some_iff.mp hE
      refine va_sld hx hb hX hbl hbA hS (o_x_spec hv9).1 dL_law_166 ?_
      rw [← (o_x_spec hv9).2]
      obtain ⟨z10, hz10, hE⟩ := Option.bind_eq_some_iff.mp hE
      refine r_callI (va_runV (As := [.int v9]) (rest := [.int z8.1]) ⟨hx, hb, hml, hown, hts⟩ (sX10_type l b0 D cA hz10) (cwV 1 hts gL_law_X10_type rfl rfl rfl (by decide +kernel) (by decide)) (pre_V (ci := 9) hK hH (oX10_type hz10) rfl) rfl rfl hl.1 rfl (lv_room (Nat.le_of_ble_eq_true rfl)) dL_law_167 ⟨by decide, by decide⟩) hS (fun H locs hH hS => ?_)
      refine lv_icmp_eq (tgt := 861) hx hb dL_law_170 (by decide) (fun c11 => ?_) (fun c11 => ?_)
      · rw [if_pos c11] at hE
        exact sL_law_b861 (F := F) hC hX hbl hbA hb0 hk18 hE _ _ _ hH hS (lv_sub hl [0, 1, 2, 3] rfl)
      · rw [if_neg c11] at hE
        refine lv_iconst (v := 0) hx hb dL_law_173 (by decide) ?_
        cases hE
    rw [if_neg c6] at hE
    by_cases c12 : (v4 &&& 31) = 1
    · rw [if_pos c12] at hE
      refine lv_tableIn (tgt := 175) (off := 143) hx hb dL_law_32 (by rw [c12]; decide) (by rw [c12]; decide) (by rw [c12]; rfl) (by decide) ?_
      refine lv_aload_n hx hb dL_law_175 rfl (lv_at hl 1 rfl) ?_
      obtain ⟨z13, hz13, hE⟩ := Option.bind_eq_some_iff.mp hE
      refine r_callI (va_runV (As := []) (rest := []) ⟨hx, hb, hml, hown, hts⟩ (sX9_clear l b0 D cA hz13) (cwV 0 hts gL_law_X9_clear rfl rfl rfl (by decide +kernel) (by decide)) (pre_V (ci := 8) hK hH (oX9_clear hz13) rfl) rfl rfl hl.1 rfl (lv_room (Nat.le_of_ble_eq_true rfl)) dL_law_176 ⟨by decide, by decide⟩) hS (fun H locs hH hS => ?_)
      refine lv_aload_n hx hb dL_law_179 rfl (lv_at hl 2 rfl) ?_
      obtain ⟨z14, hz14, hE⟩ := Option.bind_eq_some_iff.mp hE
      refine r_callI (va_runV (As := []) (rest := [.int z13.1]) ⟨hx, hb, hml, hown, hts⟩ (sX10_clear l b0 D cA hz14) (cwV 0 hts gL_law_X10_clear rfl rfl rfl (by decide +kernel) (by decide)) (pre_V (ci := 9) hK hH (oX10_clear hz14) rfl) rfl rfl hl.1 rfl (lv_room (Nat.le_of_ble_eq_true rfl)) dL_law_180 ⟨by decide, by decide⟩) hS (fun H locs hH hS => ?_)
      refine lv_icmp_eq (tgt := 861) hx hb dL_law_183 (by decide) (fun c15 => ?_) (fun c15 => ?_)
      · rw [if_pos c15] at hE
        exact sL_law_b861 (F := F) hC hX hbl hbA hb0 hk18 hE _ _ _ hH hS (lv_sub hl [0, 1, 2, 3] rfl)
      · rw [if_neg c15] at hE
        refine lv_iconst (v := 0) hx hb dL_law_186 (by decide) ?_
        cases hE
    rw [if_neg c12] at hE
    by_cases c16 : (v4 &&& 31) = 2
    · rw [if_pos c16] at hE
      refine lv_tableIn (tgt := 188) (off := 156) hx hb dL_law_32 (by rw [c16]; decide) (by rw [c16]; decide) (by rw [c16]; rfl) (by decide) ?_
      refine lv_aload_n hx hb dL_law_188 rfl (lv_at hl 1 rfl) ?_
      obtain ⟨z17, hz17, hE⟩ := Option.bind_eq_some_iff.mp hE
      refine r_callI (va_runV (As := []) (rest := []) ⟨hx, hb, hml, hown, hts⟩ (sX9_town l b0 D cA hz17) (cwV 0 hts gL_law_X9_town rfl rfl rfl (by decide +kernel) (by decide)) (pre_V (ci := 8) hK hH (oX9_town hz17) rfl) rfl rfl hl.1 rfl (lv_room (Nat.le_of_ble_eq_true rfl)) dL_law_189 ⟨by decide, by decide⟩) hS (fun H locs hH hS => ?_)
      refine lv_aload_n hx hb dL_law_192 rfl (lv_at hl 2 rfl) ?_
      obtain ⟨z18, hz18, hE⟩ := Option.bind_eq_some_iff.mp hE
      refine r_callI (va_runV (As := []) (rest := [.int z17.1]) ⟨hx, hb, hml, hown, hts⟩ (sX10_town l b0 D cA hz18) (cwV 0 hts gL_law_X10_town rfl rfl rfl (by decide +kernel) (by decide)) (pre_V (ci := 9) hK hH (oX10_town hz18) rfl) rfl rfl hl.1 rfl (lv_room (Nat.le_of_ble_eq_true rfl)) dL_law_193 ⟨by decide, by decide⟩) hS (fun H locs hH hS => ?_)
      refine lv_icmp_eq (tgt := 861) hx hb dL_law_196 (by decide) (fun c19 => ?_) (fun c19 => ?_)
      · rw [if_pos c19] at hE
        exact sL_law_b861 (F := F) hC hX hbl hbA hb0 hk18 hE _ _ _ hH hS (lv_sub hl [0, 1, 2, 3] rfl)
      · rw [if_neg c19] at hE
        refine lv_iconst (v := 0) hx hb dL_law_199 (by decide) ?_
        cases hE
    rw [if_neg c16] at hE
    by_cases c20 : (v4 &&& 31) = 3
    · rw [if_pos c20] at hE
      refine lv_tableIn (tgt := 201) (off := 169) hx hb dL_law_32 (by rw [c20]; decide) (by rw [c20]; decide) (by rw [c20]; rfl) (by decide) ?_
      refine lv_aload_n hx hb dL_law_201 rfl (lv_at hl 1 rfl) ?_
      refine lv_aload_n hx hb dL_law_202 rfl (lv_at hl 0 rfl) ?_
      refine lv_iload_n hx hb dL_law_203 rfl (lv_at hl 3 rfl) ?_
      refine lv_iconst (v := 1) hx hb dL_law_204 (by decide) ?_
      refine lv_iadd hx hb dL_law_205 ?_
      obtain ⟨v21, hv21, hE⟩ := Option.bind_eq_some_iff.mp hE
      refine va_sld hx hb hX hbl hbA hS (o_x_spec hv21).1 dL_law_206 ?_
      rw [← (o_x_spec hv21).2]
      refine lv_aload_n hx hb dL_law_207 rfl (lv_at hl 0 rfl) ?_
      refine lv_iload_n hx hb dL_law_208 rfl (lv_at hl 3 rfl) ?_
      refine lv_iconst (v := 2) hx hb dL_law_209 (by decide) ?_
      refine lv_iadd hx hb dL_law_210 ?_
      obtain ⟨v22, hv22, hE⟩ := Option.bind_eq_some_iff.mp hE
      refine va_sld hx hb hX hbl hbA hS (o_x_spec hv22).1 dL_law_211 ?_
      rw [← (o_x_spec hv22).2]
      obtain ⟨z23, hz23, hE⟩ := Option.bind_eq_some_iff.mp hE
      refine r_callI (va_runV (As := [.int v21, .int v22]) (rest := []) ⟨hx, hb, hml, hown, hts⟩ (sX9_street l b0 D cA hz23) (cwV 2 hts gL_law_X9_street rfl rfl rfl (by decide +kernel) (by decide)) (pre_V (ci := 8) hK hH (oX9_street hz23) rfl) rfl rfl hl.1 rfl (lv_room (Nat.le_of_ble_eq_true rfl)) dL_law_212 ⟨by decide, by decide⟩) hS (fun H locs hH hS => ?_)
      refine lv_aload_n hx hb dL_law_215 rfl (lv_at hl 2 rfl) ?_
      refine lv_aload_n hx hb dL_law_216 rfl (lv_at hl 0 rfl) ?_
      refine lv_iload_n hx hb dL_law_217 rfl (lv_at hl 3 rfl) ?_
      refine lv_iconst (v := 1) hx hb dL_law_218 (by decide) ?_
      refine lv_iadd hx hb dL_law_219 ?_
      obtain ⟨v24, hv24, hE⟩ := Option.bind_eq_some_iff.mp hE
      refine va_sld hx hb hX hbl hbA hS (o_x_spec hv24).1 dL_law_220 ?_
      rw [← (o_x_spec hv24).2]
      refine lv_aload_n hx hb dL_law_221 rfl (lv_at hl 0 rfl) ?_
      refine lv_iload_n hx hb dL_law_222 rfl (lv_at hl 3 rfl) ?_
      refine lv_iconst (v := 2) hx hb dL_law_223 (by decide) ?_
      refine lv_iadd hx hb dL_law_224 ?_
      obtain ⟨v25, hv25, hE⟩ := Option.bind_eq_some_iff.mp hE
      refine va_sld hx hb hX hbl hbA hS (o_x_spec hv25).1 dL_law_225 ?_
      rw [← (o_x_spec hv25).2]
      obtain ⟨z26, hz26, hE⟩ := Option.bind_eq_some_iff.mp hE
      refine r_callI (va_runV (As := [.int v24, .int v25]) (rest := [.int z23.1]) ⟨hx, hb, hml, hown, hts⟩ (sX10_street l b0 D cA hz26) (cwV 2 hts gL_law_X10_street rfl rfl rfl (by decide +kernel) (by decide)) (pre_V (ci := 9) hK hH (oX10_street hz26) rfl) rfl rfl hl.1 rfl (lv_room (Nat.le_of_ble_eq_true rfl)) dL_law_226 ⟨by decide, by decide⟩) hS (fun H locs hH hS => ?_)
      refine lv_icmp_eq (tgt := 861) hx hb dL_law_229 (by decide) (fun c27 => ?_) (fun c27 => ?_)
      · rw [if_pos c27] at hE
        exact sL_law_b861 (F := F) hC hX hbl hbA hb0 hk18 hE _ _ _ hH hS (lv_sub hl [0, 1, 2, 3] rfl)
      · rw [if_neg c27] at hE
        refine lv_iconst (v := 0) hx hb dL_law_232 (by decide) ?_
        cases hE
    rw [if_neg c20] at hE
    by_cases c28 : (v4 &&& 31) = 4
    · rw [if_pos c28] at hE
      refine lv_tableIn (tgt := 234) (off := 202) hx hb dL_law_32 (by rw [c28]; decide) (by rw [c28]; decide) (by rw [c28]; rfl) (by decide) ?_
      refine lv_aload_n hx hb dL_law_234 rfl (lv_at hl 1 rfl) ?_
      refine lv_aload_n hx hb dL_law_235 rfl (lv_at hl 0 rfl) ?_
      refine lv_iload_n hx hb dL_law_236 rfl (lv_at hl 3 rfl) ?_
      refine lv_iconst (v := 1) hx hb dL_law_237 (by decide) ?_
      refine lv_iadd hx hb dL_law_238 ?_
      obtain ⟨v29, hv29, hE⟩ := Option.bind_eq_some_iff.mp hE
      refine va_sld hx hb hX hbl hbA hS (o_x_spec hv29).1 dL_law_239 ?_
      rw [← (o_x_spec hv29).2]
      refine lv_aload_n hx hb dL_law_240 rfl (lv_at hl 0 rfl) ?_
      refine lv_iload_n hx hb dL_law_241 rfl (lv_at hl 3 rfl) ?_
      refine lv_iconst (v := 2) hx hb dL_law_242 (by decide) ?_
      refine lv_iadd hx hb dL_law_243 ?_
      obtain ⟨v30, hv30, hE⟩ := Option.bind_eq_some_iff.mp hE
      refine va_sld hx hb hX hbl hbA hS (o_x_spec hv30).1 dL_law_244 ?_
      rw [← (o_x_spec hv30).2]
      obtain ⟨z31, hz31, hE⟩ := Option.bind_eq_some_iff.mp hE
      refine r_callI (va_runV (As := [.int v29, .int v30]) (rest := []) ⟨hx, hb, hml, hown, hts⟩ (sX9_citizen l b0 D cA hz31) (cwV 2 hts gL_law_X9_citizen rfl rfl rfl (by decide +kernel) (by decide)) (pre_V (ci := 8) hK hH (oX9_citizen hz31) rfl) rfl rfl hl.1 rfl (lv_room (Nat.le_of_ble_eq_true rfl)) dL_law_245 ⟨by decide, by decide⟩) hS (fun H locs hH hS => ?_)
      refine lv_aload_n hx hb dL_law_248 rfl (lv_at hl 2 rfl) ?_
      refine lv_aload_n hx hb dL_law_249 rfl (lv_at hl 0 rfl) ?_
      refine lv_iload_n hx hb dL_law_250 rfl (lv_at hl 3 rfl) ?_
      refine lv_iconst (v := 1) hx hb dL_law_251 (by decide) ?_
      refine lv_iadd hx hb dL_law_252 ?_
      obtain ⟨v32, hv32, hE⟩ := Option.bind_eq_some_iff.mp hE
      refine va_sld hx hb hX hbl hbA hS (o_x_spec hv32).1 dL_law_253 ?_
      rw [← (o_x_spec hv32).2]
      refine lv_aload_n hx hb dL_law_254 rfl (lv_at hl 0 rfl) ?_
      refine lv_iload_n hx hb dL_law_255 rfl (lv_at hl 3 rfl) ?_
      refine lv_iconst (v := 2) hx hb dL_law_256 (by decide) ?_
      refine lv_iadd hx hb dL_law_257 ?_
      obtain ⟨v33, hv33, hE⟩ := Option.bind_eq_some_iff.mp hE
      refine va_sld hx hb hX hbl hbA hS (o_x_spec hv33).1 dL_law_258 ?_
      rw [← (o_x_spec hv33).2]
      obtain ⟨z34, hz34, hE⟩ := Option.bind_eq_some_iff.mp hE
      refine r_callI (va_runV (As := [.int v32, .int v33]) (rest := [.int z31.1]) ⟨hx, hb, hml, hown, hts⟩ (sX10_citizen l b0 D cA hz34) (cwV 2 hts gL_law_X10_citizen rfl rfl rfl (by decide +kernel) (by decide)) (pre_V (ci := 9) hK hH (oX10_citizen hz34) rfl) rfl rfl hl.1 rfl (lv_room (Nat.le_of_ble_eq_true rfl)) dL_law_259 ⟨by decide, by decide⟩) hS (fun H locs hH hS => ?_)
      refine lv_icmp_eq (tgt := 861) hx hb dL_law_262 (by decide) (fun c35 => ?_) (fun c35 => ?_)
      · rw [if_pos c35] at hE
        exact sL_law_b861 (F := F) hC hX hbl hbA hb0 hk18 hE _ _ _ hH hS (lv_sub hl [0, 1, 2, 3] rfl)
      · rw [if_neg c35] at hE
        refine lv_iconst (v := 0) hx hb dL_law_265 (by decide) ?_
        cases hE
    rw [if_neg c28] at hE
    by_cases c36 : (v4 &&& 31) = 5
    · rw [if_pos c36] at hE
      refine lv_tableIn (tgt := 267) (off := 235) hx hb dL_law_32 (by rw [c36]; decide) (by rw [c36]; decide) (by rw [c36]; rfl) (by decide) ?_
      refine lv_aload_n hx hb dL_law_267 rfl (lv_at hl 1 rfl) ?_
      refine lv_aload_n hx hb dL_law_268 rfl (lv_at hl 0 rfl) ?_
      refine lv_iload_n hx hb dL_law_269 rfl (lv_at hl 3 rfl) ?_
      refine lv_iconst (v := 1) hx hb dL_law_270 (by decide) ?_
      refine lv_iadd hx hb dL_law_271 ?_
      obtain ⟨v37, hv37, hE⟩ := Option.bind_eq_some_iff.mp hE
      refine va_sld hx hb hX hbl hbA hS (o_x_spec hv37).1 dL_law_272 ?_
      rw [← (o_x_spec hv37).2]
      refine lv_aload_n hx hb dL_law_273 rfl (lv_at hl 0 rfl) ?_
      refine lv_iload_n hx hb dL_law_274 rfl (lv_at hl 3 rfl) ?_
      refine lv_iconst (v := 2) hx hb dL_law_275 (by decide) ?_
      refine lv_iadd hx hb dL_law_276 ?_
      obtain ⟨v38, hv38, hE⟩ := Option.bind_eq_some_iff.mp hE
      refine va_sld hx hb hX hbl hbA hS (o_x_spec hv38).1 dL_law_277 ?_
      rw [← (o_x_spec hv38).2]
      refine lv_aload_n hx hb dL_law_278 rfl (lv_at hl 0 rfl) ?_
      refine lv_iload_n hx hb dL_law_279 rfl (lv_at hl 3 rfl) ?_
      refine lv_iconst (v := 3) hx hb dL_law_280 (by decide) ?_
      refine lv_iadd hx hb dL_law_281 ?_
      obtain ⟨v39, hv39, hE⟩ := Option.bind_eq_some_iff.mp hE
      refine va_sld hx hb hX hbl hbA hS (o_x_spec hv39).1 dL_law_282 ?_
      rw [← (o_x_spec hv39).2]
      obtain ⟨z40, hz40, hE⟩ := Option.bind_eq_some_iff.mp hE
      refine r_callI (va_runV (As := [.int v37, .int v38, .int v39]) (rest := []) ⟨hx, hb, hml, hown, hts⟩ (sX9_does l b0 D cA hz40) (cwV 3 hts gL_law_X9_does rfl rfl rfl (by decide +kernel) (by decide)) (pre_V (ci := 8) hK hH (oX9_does hz40) rfl) rfl rfl hl.1 rfl (lv_room (Nat.le_of_ble_eq_true rfl)) dL_law_283 ⟨by decide, by decide⟩) hS (fun H locs hH hS => ?_)
      refine lv_aload_n hx hb dL_law_286 rfl (lv_at hl 2 rfl) ?_
      refine lv_aload_n hx hb dL_law_287 rfl (lv_at hl 0 rfl) ?_
      refine lv_iload_n hx hb dL_law_288 rfl (lv_at hl 3 rfl) ?_
      refine lv_iconst (v := 1) hx hb dL_law_289 (by decide) ?_
      refine lv_iadd hx hb dL_law_290 ?_
      obtain ⟨v41, hv41, hE⟩ := Option.bind_eq_some_iff.mp hE
      refine va_sld hx hb hX hbl hbA hS (o_x_spec hv41).1 dL_law_291 ?_
      rw [← (o_x_spec hv41).2]
      refine lv_aload_n hx hb dL_law_292 rfl (lv_at hl 0 rfl) ?_
      refine lv_iload_n hx hb dL_law_293 rfl (lv_at hl 3 rfl) ?_
      refine lv_iconst (v := 2) hx hb dL_law_294 (by decide) ?_
      refine lv_iadd hx hb dL_law_295 ?_
      obtain ⟨v42, hv42, hE⟩ := Option.bind_eq_some_iff.mp hE
      refine va_sld hx hb hX hbl hbA hS (o_x_spec hv42).1 dL_law_296 ?_
      rw [← (o_x_spec hv42).2]
      refine lv_aload_n hx hb dL_law_297 rfl (lv_at hl 0 rfl) ?_
      refine lv_iload_n hx hb dL_law_298 rfl (lv_at hl 3 rfl) ?_
      refine lv_iconst (v := 3) hx hb dL_law_299 (by decide) ?_
      refine lv_iadd hx hb dL_law_300 ?_
      obtain ⟨v43, hv43, hE⟩ := Option.bind_eq_some_iff.mp hE
      refine va_sld hx hb hX hbl hbA hS (o_x_spec hv43).1 dL_law_301 ?_
      rw [← (o_x_spec hv43).2]
      obtain ⟨z44, hz44, hE⟩ := Option.bind_eq_some_iff.mp hE
      refine r_callI (va_runV (As := [.int v41, .int v42, .int v43]) (rest := [.int z40.1]) ⟨hx, hb, hml, hown, hts⟩ (sX10_does l b0 D cA hz44) (cwV 3 hts gL_law_X10_does rfl rfl rfl (by decide +kernel) (by decide)) (pre_V (ci := 9) hK hH (oX10_does hz44) rfl) rfl rfl hl.1 rfl (lv_room (Nat.le_of_ble_eq_true rfl)) dL_law_302 ⟨by decide, by decide⟩) hS (fun H locs hH hS => ?_)
      refine lv_icmp_eq (tgt := 861) hx hb dL_law_305 (by decide) (fun c45 => ?_) (fun c45 => ?_)
      · rw [if_pos c45] at hE
        exact sL_law_b861 (F := F) hC hX hbl hbA hb0 hk18 hE _ _ _ hH hS (lv_sub hl [0, 1, 2, 3] rfl)
      · rw [if_neg c45] at hE
        refine lv_iconst (v := 0) hx hb dL_law_308 (by decide) ?_
        cases hE
    rw [if_neg c36] at hE
    by_cases c46 : (v4 &&& 31) = 6
    · rw [if_pos c46] at hE
      refine lv_tableIn (tgt := 310) (off := 278) hx hb dL_law_32 (by rw [c46]; decide) (by rw [c46]; decide) (by rw [c46]; rfl) (by decide) ?_
      refine lv_aload_n hx hb dL_law_310 rfl (lv_at hl 1 rfl) ?_
      refine lv_aload_n hx hb dL_law_311 rfl (lv_at hl 0 rfl) ?_
      refine lv_iload_n hx hb dL_law_312 rfl (lv_at hl 3 rfl) ?_
      refine lv_iconst (v := 1) hx hb dL_law_313 (by decide) ?_
      refine lv_iadd hx hb dL_law_314 ?_
      obtain ⟨v47, hv47, hE⟩ := Option.bind_eq_some_iff.mp hE
      refine va_sld hx hb hX hbl hbA hS (o_x_spec hv47).1 dL_law_315 ?_
      rw [← (o_x_spec hv47).2]
      obtain ⟨z48, hz48, hE⟩ := Option.bind_eq_some_iff.mp hE
      refine r_callI (va_runV (As := [.int v47]) (rest := []) ⟨hx, hb, hml, hown, hts⟩ (sX9_wills l b0 D cA hz48) (cwV 1 hts gL_law_X9_wills rfl rfl rfl (by decide +kernel) (by decide)) (pre_V (ci := 8) hK hH (oX9_wills hz48) rfl) rfl rfl hl.1 rfl (lv_room (Nat.le_of_ble_eq_true rfl)) dL_law_316 ⟨by decide, by decide⟩) hS (fun H locs hH hS => ?_)
      refine lv_aload_n hx hb dL_law_319 rfl (lv_at hl 2 rfl) ?_
      refine lv_aload_n hx hb dL_law_320 rfl (lv_at hl 0 rfl) ?_
      refine lv_iload_n hx hb dL_law_321 rfl (lv_at hl 3 rfl) ?_
      refine lv_iconst (v := 1) hx hb dL_law_322 (by decide) ?_
      refine lv_iadd hx hb dL_law_323 ?_
      obtain ⟨v49, hv49, hE⟩ := Option.bind_eq_some_iff.mp hE
      refine va_sld hx hb hX hbl hbA hS (o_x_spec hv49).1 dL_law_324 ?_
      rw [← (o_x_spec hv49).2]
      obtain ⟨z50, hz50, hE⟩ := Option.bind_eq_some_iff.mp hE
      refine r_callI (va_runV (As := [.int v49]) (rest := [.int z48.1]) ⟨hx, hb, hml, hown, hts⟩ (sX10_wills l b0 D cA hz50) (cwV 1 hts gL_law_X10_wills rfl rfl rfl (by decide +kernel) (by decide)) (pre_V (ci := 9) hK hH (oX10_wills hz50) rfl) rfl rfl hl.1 rfl (lv_room (Nat.le_of_ble_eq_true rfl)) dL_law_325 ⟨by decide, by decide⟩) hS (fun H locs hH hS => ?_)
      refine lv_icmp_eq (tgt := 861) hx hb dL_law_328 (by decide) (fun c51 => ?_) (fun c51 => ?_)
      · rw [if_pos c51] at hE
        exact sL_law_b861 (F := F) hC hX hbl hbA hb0 hk18 hE _ _ _ hH hS (lv_sub hl [0, 1, 2, 3] rfl)
      · rw [if_neg c51] at hE
        refine lv_iconst (v := 0) hx hb dL_law_331 (by decide) ?_
        cases hE
    rw [if_neg c46] at hE
    by_cases c52 : (v4 &&& 31) = 7
    · rw [if_pos c52] at hE
      refine lv_tableIn (tgt := 333) (off := 301) hx hb dL_law_32 (by rw [c52]; decide) (by rw [c52]; decide) (by rw [c52]; rfl) (by decide) ?_
      refine lv_aload_n hx hb dL_law_333 rfl (lv_at hl 1 rfl) ?_
      refine lv_aload_n hx hb dL_law_334 rfl (lv_at hl 0 rfl) ?_
      refine lv_iload_n hx hb dL_law_335 rfl (lv_at hl 3 rfl) ?_
      refine lv_iconst (v := 1) hx hb dL_law_336 (by decide) ?_
      refine lv_iadd hx hb dL_law_337 ?_
      obtain ⟨v53, hv53, hE⟩ := Option.bind_eq_some_iff.mp hE
      refine va_sld hx hb hX hbl hbA hS (o_x_spec hv53).1 dL_law_338 ?_
      rw [← (o_x_spec hv53).2]
      refine lv_aload_n hx hb dL_law_339 rfl (lv_at hl 0 rfl) ?_
      refine lv_iload_n hx hb dL_law_340 rfl (lv_at hl 3 rfl) ?_
      refine lv_iconst (v := 2) hx hb dL_law_341 (by decide) ?_
      refine lv_iadd hx hb dL_law_342 ?_
      obtain ⟨v54, hv54, hE⟩ := Option.bind_eq_some_iff.mp hE
      refine va_sld hx hb hX hbl hbA hS (o_x_spec hv54).1 dL_law_343 ?_
      rw [← (o_x_spec hv54).2]
      obtain ⟨z55, hz55, hE⟩ := Option.bind_eq_some_iff.mp hE
      refine r_callI (va_runV (As := [.int v53, .int v54]) (rest := []) ⟨hx, hb, hml, hown, hts⟩ (sX9_moves l b0 D cA hz55) (cwV 2 hts gL_law_X9_moves rfl rfl rfl (by decide +kernel) (by decide)) (pre_V (ci := 8) hK hH (oX9_moves hz55) rfl) rfl rfl hl.1 rfl (lv_room (Nat.le_of_ble_eq_true rfl)) dL_law_344 ⟨by decide, by decide⟩) hS (fun H locs hH hS => ?_)
      refine lv_aload_n hx hb dL_law_347 rfl (lv_at hl 2 rfl) ?_
      refine lv_aload_n hx hb dL_law_348 rfl (lv_at hl 0 rfl) ?_
      refine lv_iload_n hx hb dL_law_349 rfl (lv_at hl 3 rfl) ?_
      refine lv_iconst (v := 1) hx hb dL_law_350 (by decide) ?_
      refine lv_iadd hx hb dL_law_351 ?_
      obtain ⟨v56, hv56, hE⟩ := Option.bind_eq_some_iff.mp hE
      refine va_sld hx hb hX hbl hbA hS (o_x_spec hv56).1 dL_law_352 ?_
      rw [← (o_x_spec hv56).2]
      refine lv_aload_n hx hb dL_law_353 rfl (lv_at hl 0 rfl) ?_
      refine lv_iload_n hx hb dL_law_354 rfl (lv_at hl 3 rfl) ?_
      refine lv_iconst (v := 2) hx hb dL_law_355 (by decide) ?_
      refine lv_iadd hx hb dL_law_356 ?_
      obtain ⟨v57, hv57, hE⟩ := Option.bind_eq_some_iff.mp hE
      refine va_sld hx hb hX hbl hbA hS (o_x_spec hv57).1 dL_law_357 ?_
      rw [← (o_x_spec hv57).2]
      obtain ⟨z58, hz58, hE⟩ := Option.bind_eq_some_iff.mp hE
      refine r_callI (va_runV (As := [.int v56, .int v57]) (rest := [.int z55.1]) ⟨hx, hb, hml, hown, hts⟩ (sX10_moves l b0 D cA hz58) (cwV 2 hts gL_law_X10_moves rfl rfl rfl (by decide +kernel) (by decide)) (pre_V (ci := 9) hK hH (oX10_moves hz58) rfl) rfl rfl hl.1 rfl (lv_room (Nat.le_of_ble_eq_true rfl)) dL_law_358 ⟨by decide, by decide⟩) hS (fun H locs hH hS => ?_)
      refine lv_icmp_eq (tgt := 861) hx hb dL_law_361 (by decide) (fun c59 => ?_) (fun c59 => ?_)
      · rw [if_pos c59] at hE
        exact sL_law_b861 (F := F) hC hX hbl hbA hb0 hk18 hE _ _ _ hH hS (lv_sub hl [0, 1, 2, 3] rfl)
      · rw [if_neg c59] at hE
        refine lv_iconst (v := 0) hx hb dL_law_364 (by decide) ?_
        cases hE
    rw [if_neg c52] at hE
    by_cases c60 : (v4 &&& 31) = 8
    · rw [if_pos c60] at hE
      refine lv_tableIn (tgt := 366) (off := 334) hx hb dL_law_32 (by rw [c60]; decide) (by rw [c60]; decide) (by rw [c60]; rfl) (by decide) ?_
      refine lv_aload_n hx hb dL_law_366 rfl (lv_at hl 1 rfl) ?_
      refine lv_aload_n hx hb dL_law_367 rfl (lv_at hl 0 rfl) ?_
      refine lv_iload_n hx hb dL_law_368 rfl (lv_at hl 3 rfl) ?_
      refine lv_iconst (v := 1) hx hb dL_law_369 (by decide) ?_
      refine lv_iadd hx hb dL_law_370 ?_
      obtain ⟨v61, hv61, hE⟩ := Option.bind_eq_some_iff.mp hE
      refine va_sld hx hb hX hbl hbA hS (o_x_spec hv61).1 dL_law_371 ?_
      rw [← (o_x_spec hv61).2]
      obtain ⟨z62, hz62, hE⟩ := Option.bind_eq_some_iff.mp hE
      refine r_callI (va_runV (As := [.int v61]) (rest := []) ⟨hx, hb, hml, hown, hts⟩ (sX9_night l b0 D cA hz62) (cwV 1 hts gL_law_X9_night rfl rfl rfl (by decide +kernel) (by decide)) (pre_V (ci := 8) hK hH (oX9_night hz62) rfl) rfl rfl hl.1 rfl (lv_room (Nat.le_of_ble_eq_true rfl)) dL_law_372 ⟨by decide, by decide⟩) hS (fun H locs hH hS => ?_)
      refine lv_aload_n hx hb dL_law_375 rfl (lv_at hl 2 rfl) ?_
      refine lv_aload_n hx hb dL_law_376 rfl (lv_at hl 0 rfl) ?_
      refine lv_iload_n hx hb dL_law_377 rfl (lv_at hl 3 rfl) ?_
      refine lv_iconst (v := 1) hx hb dL_law_378 (by decide) ?_
      refine lv_iadd hx hb dL_law_379 ?_
      obtain ⟨v63, hv63, hE⟩ := Option.bind_eq_some_iff.mp hE
      refine va_sld hx hb hX hbl hbA hS (o_x_spec hv63).1 dL_law_380 ?_
      rw [← (o_x_spec hv63).2]
      obtain ⟨z64, hz64, hE⟩ := Option.bind_eq_some_iff.mp hE
      refine r_callI (va_runV (As := [.int v63]) (rest := [.int z62.1]) ⟨hx, hb, hml, hown, hts⟩ (sX10_night l b0 D cA hz64) (cwV 1 hts gL_law_X10_night rfl rfl rfl (by decide +kernel) (by decide)) (pre_V (ci := 9) hK hH (oX10_night hz64) rfl) rfl rfl hl.1 rfl (lv_room (Nat.le_of_ble_eq_true rfl)) dL_law_381 ⟨by decide, by decide⟩) hS (fun H locs hH hS => ?_)
      refine lv_icmp_eq (tgt := 861) hx hb dL_law_384 (by decide) (fun c65 => ?_) (fun c65 => ?_)
      · rw [if_pos c65] at hE
        exact sL_law_b861 (F := F) hC hX hbl hbA hb0 hk18 hE _ _ _ hH hS (lv_sub hl [0, 1, 2, 3] rfl)
      · rw [if_neg c65] at hE
        refine lv_iconst (v := 0) hx hb dL_law_387 (by decide) ?_
        cases hE
    rw [if_neg c60] at hE
    by_cases c66 : (v4 &&& 31) = 9
    · rw [if_pos c66] at hE
      refine lv_tableIn (tgt := 389) (off := 357) hx hb dL_law_32 (by rw [c66]; decide) (by rw [c66]; decide) (by rw [c66]; rfl) (by decide) ?_
      refine lv_aload_n hx hb dL_law_389 rfl (lv_at hl 1 rfl) ?_
      obtain ⟨z67, hz67, hE⟩ := Option.bind_eq_some_iff.mp hE
      refine r_callI (va_runV (As := []) (rest := []) ⟨hx, hb, hml, hown, hts⟩ (sX9_undo l b0 D cA hz67) (cwV 0 hts gL_law_X9_undo rfl rfl rfl (by decide +kernel) (by decide)) (pre_V (ci := 8) hK hH (oX9_undo hz67) rfl) rfl rfl hl.1 rfl (lv_room (Nat.le_of_ble_eq_true rfl)) dL_law_390 ⟨by decide, by decide⟩) hS (fun H locs hH hS => ?_)
      refine lv_aload_n hx hb dL_law_393 rfl (lv_at hl 2 rfl) ?_
      obtain ⟨z68, hz68, hE⟩ := Option.bind_eq_some_iff.mp hE
      refine r_callI (va_runV (As := []) (rest := [.int z67.1]) ⟨hx, hb, hml, hown, hts⟩ (sX10_undo l b0 D cA hz68) (cwV 0 hts gL_law_X10_undo rfl rfl rfl (by decide +kernel) (by decide)) (pre_V (ci := 9) hK hH (oX10_undo hz68) rfl) rfl rfl hl.1 rfl (lv_room (Nat.le_of_ble_eq_true rfl)) dL_law_394 ⟨by decide, by decide⟩) hS (fun H locs hH hS => ?_)
      refine lv_icmp_eq (tgt := 861) hx hb dL_law_397 (by decide) (fun c69 => ?_) (fun c69 => ?_)
      · rw [if_pos c69] at hE
        exact sL_law_b861 (F := F) hC hX hbl hbA hb0 hk18 hE _ _ _ hH hS (lv_sub hl [0, 1, 2, 3] rfl)
      · rw [if_neg c69] at hE
        refine lv_iconst (v := 0) hx hb dL_law_400 (by decide) ?_
        cases hE
    rw [if_neg c66] at hE
    by_cases c70 : (v4 &&& 31) = 10
    · rw [if_pos c70] at hE
      refine lv_tableIn (tgt := 402) (off := 370) hx hb dL_law_32 (by rw [c70]; decide) (by rw [c70]; decide) (by rw [c70]; rfl) (by decide) ?_
      refine lv_aload_n hx hb dL_law_402 rfl (lv_at hl 1 rfl) ?_
      refine lv_aload_n hx hb dL_law_403 rfl (lv_at hl 0 rfl) ?_
      refine lv_iload_n hx hb dL_law_404 rfl (lv_at hl 3 rfl) ?_
      refine lv_iconst (v := 1) hx hb dL_law_405 (by decide) ?_
      refine lv_iadd hx hb dL_law_406 ?_
      obtain ⟨v71, hv71, hE⟩ := Option.bind_eq_some_iff.mp hE
      refine va_sld hx hb hX hbl hbA hS (o_x_spec hv71).1 dL_law_407 ?_
      rw [← (o_x_spec hv71).2]
      obtain ⟨z72, hz72, hE⟩ := Option.bind_eq_some_iff.mp hE
      refine r_callI (va_runV (As := [.int v71]) (rest := []) ⟨hx, hb, hml, hown, hts⟩ (sX9_now l b0 D cA hz72) (cwV 1 hts gL_law_X9_now rfl rfl rfl (by decide +kernel) (by decide)) (pre_V (ci := 8) hK hH (oX9_now hz72) rfl) rfl rfl hl.1 rfl (lv_room (Nat.le_of_ble_eq_true rfl)) dL_law_408 ⟨by decide, by decide⟩) hS (fun H locs hH hS => ?_)
      refine lv_aload_n hx hb dL_law_411 rfl (lv_at hl 2 rfl) ?_
      refine lv_aload_n hx hb dL_law_412 rfl (lv_at hl 0 rfl) ?_
      refine lv_iload_n hx hb dL_law_413 rfl (lv_at hl 3 rfl) ?_
      refine lv_iconst (v := 1) hx hb dL_law_414 (by decide) ?_
      refine lv_iadd hx hb dL_law_415 ?_
      obtain ⟨v73, hv73, hE⟩ := Option.bind_eq_some_iff.mp hE
      refine va_sld hx hb hX hbl hbA hS (o_x_spec hv73).1 dL_law_416 ?_
      rw [← (o_x_spec hv73).2]
      obtain ⟨z74, hz74, hE⟩ := Option.bind_eq_some_iff.mp hE
      refine r_callI (va_runV (As := [.int v73]) (rest := [.int z72.1]) ⟨hx, hb, hml, hown, hts⟩ (sX10_now l b0 D cA hz74) (cwV 1 hts gL_law_X10_now rfl rfl rfl (by decide +kernel) (by decide)) (pre_V (ci := 9) hK hH (oX10_now hz74) rfl) rfl rfl hl.1 rfl (lv_room (Nat.le_of_ble_eq_true rfl)) dL_law_417 ⟨by decide, by decide⟩) hS (fun H locs hH hS => ?_)
      refine lv_icmp_eq (tgt := 861) hx hb dL_law_420 (by decide) (fun c75 => ?_) (fun c75 => ?_)
      · rw [if_pos c75] at hE
        exact sL_law_b861 (F := F) hC hX hbl hbA hb0 hk18 hE _ _ _ hH hS (lv_sub hl [0, 1, 2, 3] rfl)
      · rw [if_neg c75] at hE
        refine lv_iconst (v := 0) hx hb dL_law_423 (by decide) ?_
        cases hE
    rw [if_neg c70] at hE
    by_cases c76 : (v4 &&& 31) = 11
    · rw [if_pos c76] at hE
      refine lv_tableIn (tgt := 425) (off := 393) hx hb dL_law_32 (by rw [c76]; decide) (by rw [c76]; decide) (by rw [c76]; rfl) (by decide) ?_
      refine lv_aload_n hx hb dL_law_425 rfl (lv_at hl 1 rfl) ?_
      refine lv_aload_n hx hb dL_law_426 rfl (lv_at hl 0 rfl) ?_
      refine lv_iload_n hx hb dL_law_427 rfl (lv_at hl 3 rfl) ?_
      refine lv_iconst (v := 1) hx hb dL_law_428 (by decide) ?_
      refine lv_iadd hx hb dL_law_429 ?_
      obtain ⟨v77, hv77, hE⟩ := Option.bind_eq_some_iff.mp hE
      refine va_sld hx hb hX hbl hbA hS (o_x_spec hv77).1 dL_law_430 ?_
      rw [← (o_x_spec hv77).2]
      refine lv_aload_n hx hb dL_law_431 rfl (lv_at hl 0 rfl) ?_
      refine lv_iload_n hx hb dL_law_432 rfl (lv_at hl 3 rfl) ?_
      refine lv_iconst (v := 2) hx hb dL_law_433 (by decide) ?_
      refine lv_iadd hx hb dL_law_434 ?_
      obtain ⟨v78, hv78, hE⟩ := Option.bind_eq_some_iff.mp hE
      refine va_sld hx hb hX hbl hbA hS (o_x_spec hv78).1 dL_law_435 ?_
      rw [← (o_x_spec hv78).2]
      obtain ⟨z79, hz79, hE⟩ := Option.bind_eq_some_iff.mp hE
      refine r_callI (va_runV (As := [.int v77, .int v78]) (rest := []) ⟨hx, hb, hml, hown, hts⟩ (sX9_widest l b0 D cA hz79) (cwV 2 hts gL_law_X9_widest rfl rfl rfl (by decide +kernel) (by decide)) (pre_V (ci := 8) hK hH (oX9_widest hz79) rfl) rfl rfl hl.1 rfl (lv_room (Nat.le_of_ble_eq_true rfl)) dL_law_436 ⟨by decide, by decide⟩) hS (fun H locs hH hS => ?_)
      refine lv_aload_n hx hb dL_law_439 rfl (lv_at hl 2 rfl) ?_
      refine lv_aload_n hx hb dL_law_440 rfl (lv_at hl 0 rfl) ?_
      refine lv_iload_n hx hb dL_law_441 rfl (lv_at hl 3 rfl) ?_
      refine lv_iconst (v := 1) hx hb dL_law_442 (by decide) ?_
      refine lv_iadd hx hb dL_law_443 ?_
      obtain ⟨v80, hv80, hE⟩ := Option.bind_eq_some_iff.mp hE
      refine va_sld hx hb hX hbl hbA hS (o_x_spec hv80).1 dL_law_444 ?_
      rw [← (o_x_spec hv80).2]
      refine lv_aload_n hx hb dL_law_445 rfl (lv_at hl 0 rfl) ?_
      refine lv_iload_n hx hb dL_law_446 rfl (lv_at hl 3 rfl) ?_
      refine lv_iconst (v := 2) hx hb dL_law_447 (by decide) ?_
      refine lv_iadd hx hb dL_law_448 ?_
      obtain ⟨v81, hv81, hE⟩ := Option.bind_eq_some_iff.mp hE
      refine va_sld hx hb hX hbl hbA hS (o_x_spec hv81).1 dL_law_449 ?_
      rw [← (o_x_spec hv81).2]
      obtain ⟨z82, hz82, hE⟩ := Option.bind_eq_some_iff.mp hE
      refine r_callI (va_runV (As := [.int v80, .int v81]) (rest := [.int z79.1]) ⟨hx, hb, hml, hown, hts⟩ (sX10_widest l b0 D cA hz82) (cwV 2 hts gL_law_X10_widest rfl rfl rfl (by decide +kernel) (by decide)) (pre_V (ci := 9) hK hH (oX10_widest hz82) rfl) rfl rfl hl.1 rfl (lv_room (Nat.le_of_ble_eq_true rfl)) dL_law_450 ⟨by decide, by decide⟩) hS (fun H locs hH hS => ?_)
      refine lv_icmp_eq (tgt := 861) hx hb dL_law_453 (by decide) (fun c83 => ?_) (fun c83 => ?_)
      · rw [if_pos c83] at hE
        exact sL_law_b861 (F := F) hC hX hbl hbA hb0 hk18 hE _ _ _ hH hS (lv_sub hl [0, 1, 2, 3] rfl)
      · rw [if_neg c83] at hE
        refine lv_iconst (v := 0) hx hb dL_law_456 (by decide) ?_
        cases hE
    rw [if_neg c76] at hE
    by_cases c84 : (v4 &&& 31) = 12
    · rw [if_pos c84] at hE
      refine lv_tableIn (tgt := 458) (off := 426) hx hb dL_law_32 (by rw [c84]; decide) (by rw [c84]; decide) (by rw [c84]; rfl) (by decide) ?_
      refine lv_aload_n hx hb dL_law_458 rfl (lv_at hl 1 rfl) ?_
      refine lv_aload_n hx hb dL_law_459 rfl (lv_at hl 0 rfl) ?_
      refine lv_iload_n hx hb dL_law_460 rfl (lv_at hl 3 rfl) ?_
      refine lv_iconst (v := 1) hx hb dL_law_461 (by decide) ?_
      refine lv_iadd hx hb dL_law_462 ?_
      obtain ⟨v85, hv85, hE⟩ := Option.bind_eq_some_iff.mp hE
      refine va_sld hx hb hX hbl hbA hS (o_x_spec hv85).1 dL_law_463 ?_
      rw [← (o_x_spec hv85).2]
      refine lv_aload_n hx hb dL_law_464 rfl (lv_at hl 0 rfl) ?_
      refine lv_iload_n hx hb dL_law_465 rfl (lv_at hl 3 rfl) ?_
      refine lv_iconst (v := 2) hx hb dL_law_466 (by decide) ?_
      refine lv_iadd hx hb dL_law_467 ?_
      obtain ⟨v86, hv86, hE⟩ := Option.bind_eq_some_iff.mp hE
      refine va_sld hx hb hX hbl hbA hS (o_x_spec hv86).1 dL_law_468 ?_
      rw [← (o_x_spec hv86).2]
      refine lv_aload_n hx hb dL_law_469 rfl (lv_at hl 0 rfl) ?_
      refine lv_iload_n hx hb dL_law_470 rfl (lv_at hl 3 rfl) ?_
      refine lv_iconst (v := 3) hx hb dL_law_471 (by decide) ?_
      refine lv_iadd hx hb dL_law_472 ?_
      obtain ⟨v87, hv87, hE⟩ := Option.bind_eq_some_iff.mp hE
      refine va_sld hx hb hX hbl hbA hS (o_x_spec hv87).1 dL_law_473 ?_
      rw [← (o_x_spec hv87).2]
      obtain ⟨z88, hz88, hE⟩ := Option.bind_eq_some_iff.mp hE
      refine r_callI (va_runV (As := [.int v85, .int v86, .int v87]) (rest := []) ⟨hx, hb, hml, hown, hts⟩ (sX9_way l b0 D cA hz88) (cwV 3 hts gL_law_X9_way rfl rfl rfl (by decide +kernel) (by decide)) (pre_V (ci := 8) hK hH (oX9_way hz88) rfl) rfl rfl hl.1 rfl (lv_room (Nat.le_of_ble_eq_true rfl)) dL_law_474 ⟨by decide, by decide⟩) hS (fun H locs hH hS => ?_)
      refine lv_aload_n hx hb dL_law_477 rfl (lv_at hl 2 rfl) ?_
      refine lv_aload_n hx hb dL_law_478 rfl (lv_at hl 0 rfl) ?_
      refine lv_iload_n hx hb dL_law_479 rfl (lv_at hl 3 rfl) ?_
      refine lv_iconst (v := 1) hx hb dL_law_480 (by decide) ?_
      refine lv_iadd hx hb dL_law_481 ?_
      obtain ⟨v89, hv89, hE⟩ := Option.bind_eq_some_iff.mp hE
      refine va_sld hx hb hX hbl hbA hS (o_x_spec hv89).1 dL_law_482 ?_
      rw [← (o_x_spec hv89).2]
      refine lv_aload_n hx hb dL_law_483 rfl (lv_at hl 0 rfl) ?_
      refine lv_iload_n hx hb dL_law_484 rfl (lv_at hl 3 rfl) ?_
      refine lv_iconst (v := 2) hx hb dL_law_485 (by decide) ?_
      refine lv_iadd hx hb dL_law_486 ?_
      obtain ⟨v90, hv90, hE⟩ := Option.bind_eq_some_iff.mp hE
      refine va_sld hx hb hX hbl hbA hS (o_x_spec hv90).1 dL_law_487 ?_
      rw [← (o_x_spec hv90).2]
      refine lv_aload_n hx hb dL_law_488 rfl (lv_at hl 0 rfl) ?_
      refine lv_iload_n hx hb dL_law_489 rfl (lv_at hl 3 rfl) ?_
      refine lv_iconst (v := 3) hx hb dL_law_490 (by decide) ?_
      refine lv_iadd hx hb dL_law_491 ?_
      obtain ⟨v91, hv91, hE⟩ := Option.bind_eq_some_iff.mp hE
      refine va_sld hx hb hX hbl hbA hS (o_x_spec hv91).1 dL_law_492 ?_
      rw [← (o_x_spec hv91).2]
      obtain ⟨z92, hz92, hE⟩ := Option.bind_eq_some_iff.mp hE
      refine r_callI (va_runV (As := [.int v89, .int v90, .int v91]) (rest := [.int z88.1]) ⟨hx, hb, hml, hown, hts⟩ (sX10_way l b0 D cA hz92) (cwV 3 hts gL_law_X10_way rfl rfl rfl (by decide +kernel) (by decide)) (pre_V (ci := 9) hK hH (oX10_way hz92) rfl) rfl rfl hl.1 rfl (lv_room (Nat.le_of_ble_eq_true rfl)) dL_law_493 ⟨by decide, by decide⟩) hS (fun H locs hH hS => ?_)
      refine lv_icmp_eq (tgt := 861) hx hb dL_law_496 (by decide) (fun c93 => ?_) (fun c93 => ?_)
      · rw [if_pos c93] at hE
        exact sL_law_b861 (F := F) hC hX hbl hbA hb0 hk18 hE _ _ _ hH hS (lv_sub hl [0, 1, 2, 3] rfl)
      · rw [if_neg c93] at hE
        refine lv_iconst (v := 0) hx hb dL_law_499 (by decide) ?_
        cases hE
    rw [if_neg c84] at hE
    by_cases c94 : (v4 &&& 31) = 13
    · rw [if_pos c94] at hE
      refine lv_tableIn (tgt := 501) (off := 469) hx hb dL_law_32 (by rw [c94]; decide) (by rw [c94]; decide) (by rw [c94]; rfl) (by decide) ?_
      refine lv_aload_n hx hb dL_law_501 rfl (lv_at hl 1 rfl) ?_
      refine lv_aload_n hx hb dL_law_502 rfl (lv_at hl 0 rfl) ?_
      refine lv_iload_n hx hb dL_law_503 rfl (lv_at hl 3 rfl) ?_
      refine lv_iconst (v := 1) hx hb dL_law_504 (by decide) ?_
      refine lv_iadd hx hb dL_law_505 ?_
      obtain ⟨v95, hv95, hE⟩ := Option.bind_eq_some_iff.mp hE
      refine va_sld hx hb hX hbl hbA hS (o_x_spec hv95).1 dL_law_506 ?_
      rw [← (o_x_spec hv95).2]
      refine lv_aload_n hx hb dL_law_507 rfl (lv_at hl 0 rfl) ?_
      refine lv_iload_n hx hb dL_law_508 rfl (lv_at hl 3 rfl) ?_
      refine lv_iconst (v := 2) hx hb dL_law_509 (by decide) ?_
      refine lv_iadd hx hb dL_law_510 ?_
      obtain ⟨v96, hv96, hE⟩ := Option.bind_eq_some_iff.mp hE
      refine va_sld hx hb hX hbl hbA hS (o_x_spec hv96).1 dL_law_511 ?_
      rw [← (o_x_spec hv96).2]
      refine lv_aload_n hx hb dL_law_512 rfl (lv_at hl 0 rfl) ?_
      refine lv_iload_n hx hb dL_law_513 rfl (lv_at hl 3 rfl) ?_
      refine lv_iconst (v := 3) hx hb dL_law_514 (by decide) ?_
      refine lv_iadd hx hb dL_law_515 ?_
      obtain ⟨v97, hv97, hE⟩ := Option.bind_eq_some_iff.mp hE
      refine va_sld hx hb hX hbl hbA hS (o_x_spec hv97).1 dL_law_516 ?_
      rw [← (o_x_spec hv97).2]
      obtain ⟨z98, hz98, hE⟩ := Option.bind_eq_some_iff.mp hE
      refine r_callI (va_runV (As := [.int v95, .int v96, .int v97]) (rest := []) ⟨hx, hb, hml, hown, hts⟩ (sX9_flow l b0 D cA hz98) (cwV 3 hts gL_law_X9_flow rfl rfl rfl (by decide +kernel) (by decide)) (pre_V (ci := 8) hK hH (oX9_flow hz98) rfl) rfl rfl hl.1 rfl (lv_room (Nat.le_of_ble_eq_true rfl)) dL_law_517 ⟨by decide, by decide⟩) hS (fun H locs hH hS => ?_)
      refine lv_aload_n hx hb dL_law_520 rfl (lv_at hl 2 rfl) ?_
      refine lv_aload_n hx hb dL_law_521 rfl (lv_at hl 0 rfl) ?_
      refine lv_iload_n hx hb dL_law_522 rfl (lv_at hl 3 rfl) ?_
      refine lv_iconst (v := 1) hx hb dL_law_523 (by decide) ?_
      refine lv_iadd hx hb dL_law_524 ?_
      obtain ⟨v99, hv99, hE⟩ := Option.bind_eq_some_iff.mp hE
      refine va_sld hx hb hX hbl hbA hS (o_x_spec hv99).1 dL_law_525 ?_
      rw [← (o_x_spec hv99).2]
      refine lv_aload_n hx hb dL_law_526 rfl (lv_at hl 0 rfl) ?_
      refine lv_iload_n hx hb dL_law_527 rfl (lv_at hl 3 rfl) ?_
      refine lv_iconst (v := 2) hx hb dL_law_528 (by decide) ?_
      refine lv_iadd hx hb dL_law_529 ?_
      obtain ⟨v100, hv100, hE⟩ := Option.bind_eq_some_iff.mp hE
      refine va_sld hx hb hX hbl hbA hS (o_x_spec hv100).1 dL_law_530 ?_
      rw [← (o_x_spec hv100).2]
      refine lv_aload_n hx hb dL_law_531 rfl (lv_at hl 0 rfl) ?_
      refine lv_iload_n hx hb dL_law_532 rfl (lv_at hl 3 rfl) ?_
      refine lv_iconst (v := 3) hx hb dL_law_533 (by decide) ?_
      refine lv_iadd hx hb dL_law_534 ?_
      obtain ⟨v101, hv101, hE⟩ := Option.bind_eq_some_iff.mp hE
      refine va_sld hx hb hX hbl hbA hS (o_x_spec hv101).1 dL_law_535 ?_
      rw [← (o_x_spec hv101).2]
      obtain ⟨z102, hz102, hE⟩ := Option.bind_eq_some_iff.mp hE
      refine r_callI (va_runV (As := [.int v99, .int v100, .int v101]) (rest := [.int z98.1]) ⟨hx, hb, hml, hown, hts⟩ (sX10_flow l b0 D cA hz102) (cwV 3 hts gL_law_X10_flow rfl rfl rfl (by decide +kernel) (by decide)) (pre_V (ci := 9) hK hH (oX10_flow hz102) rfl) rfl rfl hl.1 rfl (lv_room (Nat.le_of_ble_eq_true rfl)) dL_law_536 ⟨by decide, by decide⟩) hS (fun H locs hH hS => ?_)
      refine lv_icmp_eq (tgt := 861) hx hb dL_law_539 (by decide) (fun c103 => ?_) (fun c103 => ?_)
      · rw [if_pos c103] at hE
        exact sL_law_b861 (F := F) hC hX hbl hbA hb0 hk18 hE _ _ _ hH hS (lv_sub hl [0, 1, 2, 3] rfl)
      · rw [if_neg c103] at hE
        refine lv_iconst (v := 0) hx hb dL_law_542 (by decide) ?_
        cases hE
    rw [if_neg c94] at hE
    by_cases c104 : (v4 &&& 31) = 14
    · rw [if_pos c104] at hE
      refine lv_tableIn (tgt := 544) (off := 512) hx hb dL_law_32 (by rw [c104]; decide) (by rw [c104]; decide) (by rw [c104]; rfl) (by decide) ?_
      refine lv_aload_n hx hb dL_law_544 rfl (lv_at hl 1 rfl) ?_
      refine lv_aload_n hx hb dL_law_545 rfl (lv_at hl 0 rfl) ?_
      refine lv_iload_n hx hb dL_law_546 rfl (lv_at hl 3 rfl) ?_
      refine lv_iconst (v := 1) hx hb dL_law_547 (by decide) ?_
      refine lv_iadd hx hb dL_law_548 ?_
      obtain ⟨v105, hv105, hE⟩ := Option.bind_eq_some_iff.mp hE
      refine va_sld hx hb hX hbl hbA hS (o_x_spec hv105).1 dL_law_549 ?_
      rw [← (o_x_spec hv105).2]
      refine lv_aload_n hx hb dL_law_550 rfl (lv_at hl 0 rfl) ?_
      refine lv_iload_n hx hb dL_law_551 rfl (lv_at hl 3 rfl) ?_
      refine lv_iconst (v := 2) hx hb dL_law_552 (by decide) ?_
      refine lv_iadd hx hb dL_law_553 ?_
      obtain ⟨v106, hv106, hE⟩ := Option.bind_eq_some_iff.mp hE
      refine va_sld hx hb hX hbl hbA hS (o_x_spec hv106).1 dL_law_554 ?_
      rw [← (o_x_spec hv106).2]
      refine lv_aload_n hx hb dL_law_555 rfl (lv_at hl 0 rfl) ?_
      refine lv_iload_n hx hb dL_law_556 rfl (lv_at hl 3 rfl) ?_
      refine lv_iconst (v := 3) hx hb dL_law_557 (by decide) ?_
      refine lv_iadd hx hb dL_law_558 ?_
      obtain ⟨v107, hv107, hE⟩ := Option.bind_eq_some_iff.mp hE
      refine va_sld hx hb hX hbl hbA hS (o_x_spec hv107).1 dL_law_559 ?_
      rw [← (o_x_spec hv107).2]
      obtain ⟨z108, hz108, hE⟩ := Option.bind_eq_some_iff.mp hE
      refine r_callI (va_runV (As := [.int v105, .int v106, .int v107]) (rest := []) ⟨hx, hb, hml, hown, hts⟩ (sX9_need l b0 D cA hz108) (cwV 3 hts gL_law_X9_need rfl rfl rfl (by decide +kernel) (by decide)) (pre_V (ci := 8) hK hH (oX9_need hz108) rfl) rfl rfl hl.1 rfl (lv_room (Nat.le_of_ble_eq_true rfl)) dL_law_560 ⟨by decide, by decide⟩) hS (fun H locs hH hS => ?_)
      refine lv_aload_n hx hb dL_law_563 rfl (lv_at hl 2 rfl) ?_
      refine lv_aload_n hx hb dL_law_564 rfl (lv_at hl 0 rfl) ?_
      refine lv_iload_n hx hb dL_law_565 rfl (lv_at hl 3 rfl) ?_
      refine lv_iconst (v := 1) hx hb dL_law_566 (by decide) ?_
      refine lv_iadd hx hb dL_law_567 ?_
      obtain ⟨v109, hv109, hE⟩ := Option.bind_eq_some_iff.mp hE
      refine va_sld hx hb hX hbl hbA hS (o_x_spec hv109).1 dL_law_568 ?_
      rw [← (o_x_spec hv109).2]
      refine lv_aload_n hx hb dL_law_569 rfl (lv_at hl 0 rfl) ?_
      refine lv_iload_n hx hb dL_law_570 rfl (lv_at hl 3 rfl) ?_
      refine lv_iconst (v := 2) hx hb dL_law_571 (by decide) ?_
      refine lv_iadd hx hb dL_law_572 ?_
      obtain ⟨v110, hv110, hE⟩ := Option.bind_eq_some_iff.mp hE
      refine va_sld hx hb hX hbl hbA hS (o_x_spec hv110).1 dL_law_573 ?_
      rw [← (o_x_spec hv110).2]
      refine lv_aload_n hx hb dL_law_574 rfl (lv_at hl 0 rfl) ?_
      refine lv_iload_n hx hb dL_law_575 rfl (lv_at hl 3 rfl) ?_
      refine lv_iconst (v := 3) hx hb dL_law_576 (by decide) ?_
      refine lv_iadd hx hb dL_law_577 ?_
      obtain ⟨v111, hv111, hE⟩ := Option.bind_eq_some_iff.mp hE
      refine va_sld hx hb hX hbl hbA hS (o_x_spec hv111).1 dL_law_578 ?_
      rw [← (o_x_spec hv111).2]
      obtain ⟨z112, hz112, hE⟩ := Option.bind_eq_some_iff.mp hE
      refine r_callI (va_runV (As := [.int v109, .int v110, .int v111]) (rest := [.int z108.1]) ⟨hx, hb, hml, hown, hts⟩ (sX10_need l b0 D cA hz112) (cwV 3 hts gL_law_X10_need rfl rfl rfl (by decide +kernel) (by decide)) (pre_V (ci := 9) hK hH (oX10_need hz112) rfl) rfl rfl hl.1 rfl (lv_room (Nat.le_of_ble_eq_true rfl)) dL_law_579 ⟨by decide, by decide⟩) hS (fun H locs hH hS => ?_)
      refine lv_icmp_eq (tgt := 861) hx hb dL_law_582 (by decide) (fun c113 => ?_) (fun c113 => ?_)
      · rw [if_pos c113] at hE
        exact sL_law_b861 (F := F) hC hX hbl hbA hb0 hk18 hE _ _ _ hH hS (lv_sub hl [0, 1, 2, 3] rfl)
      · rw [if_neg c113] at hE
        refine lv_iconst (v := 0) hx hb dL_law_585 (by decide) ?_
        cases hE
    rw [if_neg c104] at hE
    by_cases c114 : (v4 &&& 31) = 15
    · rw [if_pos c114] at hE
      refine lv_tableIn (tgt := 587) (off := 555) hx hb dL_law_32 (by rw [c114]; decide) (by rw [c114]; decide) (by rw [c114]; rfl) (by decide) ?_
      refine lv_aload_n hx hb dL_law_587 rfl (lv_at hl 1 rfl) ?_
      refine lv_aload_n hx hb dL_law_588 rfl (lv_at hl 0 rfl) ?_
      refine lv_iload_n hx hb dL_law_589 rfl (lv_at hl 3 rfl) ?_
      refine lv_iconst (v := 1) hx hb dL_law_590 (by decide) ?_
      refine lv_iadd hx hb dL_law_591 ?_
      obtain ⟨v115, hv115, hE⟩ := Option.bind_eq_some_iff.mp hE
      refine va_sld hx hb hX hbl hbA hS (o_x_spec hv115).1 dL_law_592 ?_
      rw [← (o_x_spec hv115).2]
      refine lv_aload_n hx hb dL_law_593 rfl (lv_at hl 0 rfl) ?_
      refine lv_iload_n hx hb dL_law_594 rfl (lv_at hl 3 rfl) ?_
      refine lv_iconst (v := 2) hx hb dL_law_595 (by decide) ?_
      refine lv_iadd hx hb dL_law_596 ?_
      obtain ⟨v116, hv116, hE⟩ := Option.bind_eq_some_iff.mp hE
      refine va_sld hx hb hX hbl hbA hS (o_x_spec hv116).1 dL_law_597 ?_
      rw [← (o_x_spec hv116).2]
      refine lv_aload_n hx hb dL_law_598 rfl (lv_at hl 0 rfl) ?_
      refine lv_iload_n hx hb dL_law_599 rfl (lv_at hl 3 rfl) ?_
      refine lv_iconst (v := 3) hx hb dL_law_600 (by decide) ?_
      refine lv_iadd hx hb dL_law_601 ?_
      obtain ⟨v117, hv117, hE⟩ := Option.bind_eq_some_iff.mp hE
      refine va_sld hx hb hX hbl hbA hS (o_x_spec hv117).1 dL_law_602 ?_
      rw [← (o_x_spec hv117).2]
      refine lv_aload_n hx hb dL_law_603 rfl (lv_at hl 0 rfl) ?_
      refine lv_iload_n hx hb dL_law_604 rfl (lv_at hl 3 rfl) ?_
      refine lv_iconst (v := 4) hx hb dL_law_605 (by decide) ?_
      refine lv_iadd hx hb dL_law_606 ?_
      obtain ⟨v118, hv118, hE⟩ := Option.bind_eq_some_iff.mp hE
      refine va_sld hx hb hX hbl hbA hS (o_x_spec hv118).1 dL_law_607 ?_
      rw [← (o_x_spec hv118).2]
      obtain ⟨z119, hz119, hE⟩ := Option.bind_eq_some_iff.mp hE
      refine r_callI (va_runV (As := [.int v115, .int v116, .int v117, .int v118]) (rest := []) ⟨hx, hb, hml, hown, hts⟩ (sX9_odds l b0 D cA hz119) (cwV 4 hts gL_law_X9_odds rfl rfl rfl (by decide +kernel) (by decide)) (pre_V (ci := 8) hK hH (oX9_odds hz119) rfl) rfl rfl hl.1 rfl (lv_room (Nat.le_of_ble_eq_true rfl)) dL_law_608 ⟨by decide, by decide⟩) hS (fun H locs hH hS => ?_)
      refine lv_aload_n hx hb dL_law_611 rfl (lv_at hl 2 rfl) ?_
      refine lv_aload_n hx hb dL_law_612 rfl (lv_at hl 0 rfl) ?_
      refine lv_iload_n hx hb dL_law_613 rfl (lv_at hl 3 rfl) ?_
      refine lv_iconst (v := 1) hx hb dL_law_614 (by decide) ?_
      refine lv_iadd hx hb dL_law_615 ?_
      obtain ⟨v120, hv120, hE⟩ := Option.bind_eq_some_iff.mp hE
      refine va_sld hx hb hX hbl hbA hS (o_x_spec hv120).1 dL_law_616 ?_
      rw [← (o_x_spec hv120).2]
      refine lv_aload_n hx hb dL_law_617 rfl (lv_at hl 0 rfl) ?_
      refine lv_iload_n hx hb dL_law_618 rfl (lv_at hl 3 rfl) ?_
      refine lv_iconst (v := 2) hx hb dL_law_619 (by decide) ?_
      refine lv_iadd hx hb dL_law_620 ?_
      obtain ⟨v121, hv121, hE⟩ := Option.bind_eq_some_iff.mp hE
      refine va_sld hx hb hX hbl hbA hS (o_x_spec hv121).1 dL_law_621 ?_
      rw [← (o_x_spec hv121).2]
      refine lv_aload_n hx hb dL_law_622 rfl (lv_at hl 0 rfl) ?_
      refine lv_iload_n hx hb dL_law_623 rfl (lv_at hl 3 rfl) ?_
      refine lv_iconst (v := 3) hx hb dL_law_624 (by decide) ?_
      refine lv_iadd hx hb dL_law_625 ?_
      obtain ⟨v122, hv122, hE⟩ := Option.bind_eq_some_iff.mp hE
      refine va_sld hx hb hX hbl hbA hS (o_x_spec hv122).1 dL_law_626 ?_
      rw [← (o_x_spec hv122).2]
      refine lv_aload_n hx hb dL_law_627 rfl (lv_at hl 0 rfl) ?_
      refine lv_iload_n hx hb dL_law_628 rfl (lv_at hl 3 rfl) ?_
      refine lv_iconst (v := 4) hx hb dL_law_629 (by decide) ?_
      refine lv_iadd hx hb dL_law_630 ?_
      obtain ⟨v123, hv123, hE⟩ := Option.bind_eq_some_iff.mp hE
      refine va_sld hx hb hX hbl hbA hS (o_x_spec hv123).1 dL_law_631 ?_
      rw [← (o_x_spec hv123).2]
      obtain ⟨z124, hz124, hE⟩ := Option.bind_eq_some_iff.mp hE
      refine r_callI (va_runV (As := [.int v120, .int v121, .int v122, .int v123]) (rest := [.int z119.1]) ⟨hx, hb, hml, hown, hts⟩ (sX10_odds l b0 D cA hz124) (cwV 4 hts gL_law_X10_odds rfl rfl rfl (by decide +kernel) (by decide)) (pre_V (ci := 9) hK hH (oX10_odds hz124) rfl) rfl rfl hl.1 rfl (lv_room (Nat.le_of_ble_eq_true rfl)) dL_law_632 ⟨by decide, by decide⟩) hS (fun H locs hH hS => ?_)
      refine lv_icmp_eq (tgt := 861) hx hb dL_law_635 (by decide) (fun c125 => ?_) (fun c125 => ?_)
      · rw [if_pos c125] at hE
        exact sL_law_b861 (F := F) hC hX hbl hbA hb0 hk18 hE _ _ _ hH hS (lv_sub hl [0, 1, 2, 3] rfl)
      · rw [if_neg c125] at hE
        refine lv_iconst (v := 0) hx hb dL_law_638 (by decide) ?_
        cases hE
    rw [if_neg c114] at hE
    by_cases c126 : (v4 &&& 31) = 16
    · rw [if_pos c126] at hE
      refine lv_tableIn (tgt := 640) (off := 608) hx hb dL_law_32 (by rw [c126]; decide) (by rw [c126]; decide) (by rw [c126]; rfl) (by decide) ?_
      refine lv_aload_n hx hb dL_law_640 rfl (lv_at hl 1 rfl) ?_
      refine lv_aload_n hx hb dL_law_641 rfl (lv_at hl 0 rfl) ?_
      refine lv_iload_n hx hb dL_law_642 rfl (lv_at hl 3 rfl) ?_
      refine lv_iconst (v := 1) hx hb dL_law_643 (by decide) ?_
      refine lv_iadd hx hb dL_law_644 ?_
      obtain ⟨v127, hv127, hE⟩ := Option.bind_eq_some_iff.mp hE
      refine va_sld hx hb hX hbl hbA hS (o_x_spec hv127).1 dL_law_645 ?_
      rw [← (o_x_spec hv127).2]
      obtain ⟨z128, hz128, hE⟩ := Option.bind_eq_some_iff.mp hE
      refine r_callI (va_runV (As := [.int v127]) (rest := []) ⟨hx, hb, hml, hown, hts⟩ (sX9_carriage l b0 D cA hz128) (cwV 1 hts gL_law_X9_carriage rfl rfl rfl (by decide +kernel) (by decide)) (pre_V (ci := 8) hK hH (oX9_carriage hz128) rfl) rfl rfl hl.1 rfl (lv_room (Nat.le_of_ble_eq_true rfl)) dL_law_646 ⟨by decide, by decide⟩) hS (fun H locs hH hS => ?_)
      refine lv_aload_n hx hb dL_law_649 rfl (lv_at hl 2 rfl) ?_
      refine lv_aload_n hx hb dL_law_650 rfl (lv_at hl 0 rfl) ?_
      refine lv_iload_n hx hb dL_law_651 rfl (lv_at hl 3 rfl) ?_
      refine lv_iconst (v := 1) hx hb dL_law_652 (by decide) ?_
      refine lv_iadd hx hb dL_law_653 ?_
      obtain ⟨v129, hv129, hE⟩ := Option.bind_eq_some_iff.mp hE
      refine va_sld hx hb hX hbl hbA hS (o_x_spec hv129).1 dL_law_654 ?_
      rw [← (o_x_spec hv129).2]
      obtain ⟨z130, hz130, hE⟩ := Option.bind_eq_some_iff.mp hE
      refine r_callI (va_runV (As := [.int v129]) (rest := [.int z128.1]) ⟨hx, hb, hml, hown, hts⟩ (sX10_carriage l b0 D cA hz130) (cwV 1 hts gL_law_X10_carriage rfl rfl rfl (by decide +kernel) (by decide)) (pre_V (ci := 9) hK hH (oX10_carriage hz130) rfl) rfl rfl hl.1 rfl (lv_room (Nat.le_of_ble_eq_true rfl)) dL_law_655 ⟨by decide, by decide⟩) hS (fun H locs hH hS => ?_)
      refine lv_icmp_eq (tgt := 861) hx hb dL_law_658 (by decide) (fun c131 => ?_) (fun c131 => ?_)
      · rw [if_pos c131] at hE
        exact sL_law_b861 (F := F) hC hX hbl hbA hb0 hk18 hE _ _ _ hH hS (lv_sub hl [0, 1, 2, 3] rfl)
      · rw [if_neg c131] at hE
        refine lv_iconst (v := 0) hx hb dL_law_661 (by decide) ?_
        cases hE
    rw [if_neg c126] at hE
    by_cases c132 : (v4 &&& 31) = 17
    · rw [if_pos c132] at hE
      refine lv_tableIn (tgt := 663) (off := 631) hx hb dL_law_32 (by rw [c132]; decide) (by rw [c132]; decide) (by rw [c132]; rfl) (by decide) ?_
      refine lv_aload_n hx hb dL_law_663 rfl (lv_at hl 1 rfl) ?_
      refine lv_aload_n hx hb dL_law_664 rfl (lv_at hl 0 rfl) ?_
      refine lv_iload_n hx hb dL_law_665 rfl (lv_at hl 3 rfl) ?_
      refine lv_iconst (v := 1) hx hb dL_law_666 (by decide) ?_
      refine lv_iadd hx hb dL_law_667 ?_
      obtain ⟨v133, hv133, hE⟩ := Option.bind_eq_some_iff.mp hE
      refine va_sld hx hb hX hbl hbA hS (o_x_spec hv133).1 dL_law_668 ?_
      rw [← (o_x_spec hv133).2]
      refine lv_aload_n hx hb dL_law_669 rfl (lv_at hl 0 rfl) ?_
      refine lv_iload_n hx hb dL_law_670 rfl (lv_at hl 3 rfl) ?_
      refine lv_iconst (v := 2) hx hb dL_law_671 (by decide) ?_
      refine lv_iadd hx hb dL_law_672 ?_
      obtain ⟨v134, hv134, hE⟩ := Option.bind_eq_some_iff.mp hE
      refine va_sld hx hb hX hbl hbA hS (o_x_spec hv134).1 dL_law_673 ?_
      rw [← (o_x_spec hv134).2]
      obtain ⟨z135, hz135, hE⟩ := Option.bind_eq_some_iff.mp hE
      refine r_callI (va_runV (As := [.int v133, .int v134]) (rest := []) ⟨hx, hb, hml, hown, hts⟩ (sX9_measures l b0 D cA hz135) (cwV 2 hts gL_law_X9_measures rfl rfl rfl (by decide +kernel) (by decide)) (pre_V (ci := 8) hK hH (oX9_measures hz135) rfl) rfl rfl hl.1 rfl (lv_room (Nat.le_of_ble_eq_true rfl)) dL_law_674 ⟨by decide, by decide⟩) hS (fun H locs hH hS => ?_)
      refine lv_aload_n hx hb dL_law_677 rfl (lv_at hl 2 rfl) ?_
      refine lv_aload_n hx hb dL_law_678 rfl (lv_at hl 0 rfl) ?_
      refine lv_iload_n hx hb dL_law_679 rfl (lv_at hl 3 rfl) ?_
      refine lv_iconst (v := 1) hx hb dL_law_680 (by decide) ?_
      refine lv_iadd hx hb dL_law_681 ?_
      obtain ⟨v136, hv136, hE⟩ := Option.bind_eq_some_iff.mp hE
      refine va_sld hx hb hX hbl hbA hS (o_x_spec hv136).1 dL_law_682 ?_
      rw [← (o_x_spec hv136).2]
      refine lv_aload_n hx hb dL_law_683 rfl (lv_at hl 0 rfl) ?_
      refine lv_iload_n hx hb dL_law_684 rfl (lv_at hl 3 rfl) ?_
      refine lv_iconst (v := 2) hx hb dL_law_685 (by decide) ?_
      refine lv_iadd hx hb dL_law_686 ?_
      obtain ⟨v137, hv137, hE⟩ := Option.bind_eq_some_iff.mp hE
      refine va_sld hx hb hX hbl hbA hS (o_x_spec hv137).1 dL_law_687 ?_
      rw [← (o_x_spec hv137).2]
      obtain ⟨z138, hz138, hE⟩ := Option.bind_eq_some_iff.mp hE
      refine r_callI (va_runV (As := [.int v136, .int v137]) (rest := [.int z135.1]) ⟨hx, hb, hml, hown, hts⟩ (sX10_measures l b0 D cA hz138) (cwV 2 hts gL_law_X10_measures rfl rfl rfl (by decide +kernel) (by decide)) (pre_V (ci := 9) hK hH (oX10_measures hz138) rfl) rfl rfl hl.1 rfl (lv_room (Nat.le_of_ble_eq_true rfl)) dL_law_688 ⟨by decide, by decide⟩) hS (fun H locs hH hS => ?_)
      refine lv_icmp_eq (tgt := 861) hx hb dL_law_691 (by decide) (fun c139 => ?_) (fun c139 => ?_)
      · rw [if_pos c139] at hE
        exact sL_law_b861 (F := F) hC hX hbl hbA hb0 hk18 hE _ _ _ hH hS (lv_sub hl [0, 1, 2, 3] rfl)
      · rw [if_neg c139] at hE
        refine lv_iconst (v := 0) hx hb dL_law_694 (by decide) ?_
        cases hE
    rw [if_neg c132] at hE
    by_cases c140 : (v4 &&& 31) = 18
    · rw [if_pos c140] at hE
      refine lv_tableIn (tgt := 696) (off := 664) hx hb dL_law_32 (by rw [c140]; decide) (by rw [c140]; decide) (by rw [c140]; rfl) (by decide) ?_
      refine lv_aload_n hx hb dL_law_696 rfl (lv_at hl 1 rfl) ?_
      obtain ⟨z141, hz141, hE⟩ := Option.bind_eq_some_iff.mp hE
      refine r_callI (va_runV (As := []) (rest := []) ⟨hx, hb, hml, hown, hts⟩ (sX9_forget l b0 D cA hz141) (cwV 0 hts gL_law_X9_forget rfl rfl rfl (by decide +kernel) (by decide)) (pre_V (ci := 8) hK hH (oX9_forget hz141) rfl) rfl rfl hl.1 rfl (lv_room (Nat.le_of_ble_eq_true rfl)) dL_law_697 ⟨by decide, by decide⟩) hS (fun H locs hH hS => ?_)
      refine lv_aload_n hx hb dL_law_700 rfl (lv_at hl 2 rfl) ?_
      obtain ⟨z142, hz142, hE⟩ := Option.bind_eq_some_iff.mp hE
      refine r_callI (va_runV (As := []) (rest := [.int z141.1]) ⟨hx, hb, hml, hown, hts⟩ (sX10_forget l b0 D cA hz142) (cwV 0 hts gL_law_X10_forget rfl rfl rfl (by decide +kernel) (by decide)) (pre_V (ci := 9) hK hH (oX10_forget hz142) rfl) rfl rfl hl.1 rfl (lv_room (Nat.le_of_ble_eq_true rfl)) dL_law_701 ⟨by decide, by decide⟩) hS (fun H locs hH hS => ?_)
      refine lv_icmp_eq (tgt := 861) hx hb dL_law_704 (by decide) (fun c143 => ?_) (fun c143 => ?_)
      · rw [if_pos c143] at hE
        exact sL_law_b861 (F := F) hC hX hbl hbA hb0 hk18 hE _ _ _ hH hS (lv_sub hl [0, 1, 2, 3] rfl)
      · rw [if_neg c143] at hE
        refine lv_iconst (v := 0) hx hb dL_law_707 (by decide) ?_
        cases hE
    rw [if_neg c140] at hE
    by_cases c144 : (v4 &&& 31) = 19
    · rw [if_pos c144] at hE
      refine lv_tableIn (tgt := 709) (off := 677) hx hb dL_law_32 (by rw [c144]; decide) (by rw [c144]; decide) (by rw [c144]; rfl) (by decide) ?_
      refine lv_aload_n hx hb dL_law_709 rfl (lv_at hl 1 rfl) ?_
      refine lv_aload_n hx hb dL_law_710 rfl (lv_at hl 0 rfl) ?_
      refine lv_iload_n hx hb dL_law_711 rfl (lv_at hl 3 rfl) ?_
      refine lv_iconst (v := 1) hx hb dL_law_712 (by decide) ?_
      refine lv_iadd hx hb dL_law_713 ?_
      obtain ⟨v145, hv145, hE⟩ := Option.bind_eq_some_iff.mp hE
      refine va_sld hx hb hX hbl hbA hS (o_x_spec hv145).1 dL_law_714 ?_
      rw [← (o_x_spec hv145).2]
      obtain ⟨z146, hz146, hE⟩ := Option.bind_eq_some_iff.mp hE
      refine r_callI (va_runV (As := [.int v145]) (rest := []) ⟨hx, hb, hml, hown, hts⟩ (sX9_deeds l b0 D cA hz146) (cwV 1 hts gL_law_X9_deeds rfl rfl rfl (by decide +kernel) (by decide)) (pre_V (ci := 8) hK hH (oX9_deeds hz146) rfl) rfl rfl hl.1 rfl (lv_room (Nat.le_of_ble_eq_true rfl)) dL_law_715 ⟨by decide, by decide⟩) hS (fun H locs hH hS => ?_)
      refine lv_aload_n hx hb dL_law_718 rfl (lv_at hl 2 rfl) ?_
      refine lv_aload_n hx hb dL_law_719 rfl (lv_at hl 0 rfl) ?_
      refine lv_iload_n hx hb dL_law_720 rfl (lv_at hl 3 rfl) ?_
      refine lv_iconst (v := 1) hx hb dL_law_721 (by decide) ?_
      refine lv_iadd hx hb dL_law_722 ?_
      obtain ⟨v147, hv147, hE⟩ := Option.bind_eq_some_iff.mp hE
      refine va_sld hx hb hX hbl hbA hS (o_x_spec hv147).1 dL_law_723 ?_
      rw [← (o_x_spec hv147).2]
      obtain ⟨z148, hz148, hE⟩ := Option.bind_eq_some_iff.mp hE
      refine r_callI (va_runV (As := [.int v147]) (rest := [.int z146.1]) ⟨hx, hb, hml, hown, hts⟩ (sX10_deeds l b0 D cA hz148) (cwV 1 hts gL_law_X10_deeds rfl rfl rfl (by decide +kernel) (by decide)) (pre_V (ci := 9) hK hH (oX10_deeds hz148) rfl) rfl rfl hl.1 rfl (lv_room (Nat.le_of_ble_eq_true rfl)) dL_law_724 ⟨by decide, by decide⟩) hS (fun H locs hH hS => ?_)
      refine lv_icmp_eq (tgt := 861) hx hb dL_law_727 (by decide) (fun c149 => ?_) (fun c149 => ?_)
      · rw [if_pos c149] at hE
        exact sL_law_b861 (F := F) hC hX hbl hbA hb0 hk18 hE _ _ _ hH hS (lv_sub hl [0, 1, 2, 3] rfl)
      · rw [if_neg c149] at hE
        refine lv_iconst (v := 0) hx hb dL_law_730 (by decide) ?_
        cases hE
    rw [if_neg c144] at hE
    by_cases c150 : (v4 &&& 31) = 20
    · rw [if_pos c150] at hE
      refine lv_tableIn (tgt := 732) (off := 700) hx hb dL_law_32 (by rw [c150]; decide) (by rw [c150]; decide) (by rw [c150]; rfl) (by decide) ?_
      refine lv_aload_n hx hb dL_law_732 rfl (lv_at hl 1 rfl) ?_
      obtain ⟨z151, hz151, hE⟩ := Option.bind_eq_some_iff.mp hE
      refine r_callI (va_runV (As := []) (rest := []) ⟨hx, hb, hml, hown, hts⟩ (sX9_when l b0 D cA hz151) (cwV 0 hts gL_law_X9_when rfl rfl rfl (by decide +kernel) (by decide)) (pre_V (ci := 8) hK hH (oX9_when hz151) rfl) rfl rfl hl.1 rfl (lv_room (Nat.le_of_ble_eq_true rfl)) dL_law_733 ⟨by decide, by decide⟩) hS (fun H locs hH hS => ?_)
      refine lv_aload_n hx hb dL_law_736 rfl (lv_at hl 2 rfl) ?_
      obtain ⟨z152, hz152, hE⟩ := Option.bind_eq_some_iff.mp hE
      refine r_callI (va_runV (As := []) (rest := [.int z151.1]) ⟨hx, hb, hml, hown, hts⟩ (sX10_when l b0 D cA hz152) (cwV 0 hts gL_law_X10_when rfl rfl rfl (by decide +kernel) (by decide)) (pre_V (ci := 9) hK hH (oX10_when hz152) rfl) rfl rfl hl.1 rfl (lv_room (Nat.le_of_ble_eq_true rfl)) dL_law_737 ⟨by decide, by decide⟩) hS (fun H locs hH hS => ?_)
      refine lv_icmp_eq (tgt := 861) hx hb dL_law_740 (by decide) (fun c153 => ?_) (fun c153 => ?_)
      · rw [if_pos c153] at hE
        exact sL_law_b861 (F := F) hC hX hbl hbA hb0 hk18 hE _ _ _ hH hS (lv_sub hl [0, 1, 2, 3] rfl)
      · rw [if_neg c153] at hE
        refine lv_iconst (v := 0) hx hb dL_law_743 (by decide) ?_
        cases hE
    rw [if_neg c150] at hE
    by_cases c154 : (v4 &&& 31) = 21
    · rw [if_pos c154] at hE
      refine lv_tableIn (tgt := 745) (off := 713) hx hb dL_law_32 (by rw [c154]; decide) (by rw [c154]; decide) (by rw [c154]; rfl) (by decide) ?_
      refine lv_aload_n hx hb dL_law_745 rfl (lv_at hl 1 rfl) ?_
      refine lv_aload_n hx hb dL_law_746 rfl (lv_at hl 0 rfl) ?_
      refine lv_iload_n hx hb dL_law_747 rfl (lv_at hl 3 rfl) ?_
      refine lv_iconst (v := 1) hx hb dL_law_748 (by decide) ?_
      refine lv_iadd hx hb dL_law_749 ?_
      obtain ⟨v155, hv155, hE⟩ := Option.bind_eq_some_iff.mp hE
      refine va_sld hx hb hX hbl hbA hS (o_x_spec hv155).1 dL_law_750 ?_
      rw [← (o_x_spec hv155).2]
      refine lv_aload_n hx hb dL_law_751 rfl (lv_at hl 0 rfl) ?_
      refine lv_iload_n hx hb dL_law_752 rfl (lv_at hl 3 rfl) ?_
      refine lv_iconst (v := 2) hx hb dL_law_753 (by decide) ?_
      refine lv_iadd hx hb dL_law_754 ?_
      obtain ⟨v156, hv156, hE⟩ := Option.bind_eq_some_iff.mp hE
      refine va_sld hx hb hX hbl hbA hS (o_x_spec hv156).1 dL_law_755 ?_
      rw [← (o_x_spec hv156).2]
      obtain ⟨z157, hz157, hE⟩ := Option.bind_eq_some_iff.mp hE
      refine r_callI (va_runV (As := [.int v155, .int v156]) (rest := []) ⟨hx, hb, hml, hown, hts⟩ (sX9_mark l b0 D cA hz157) (cwV 2 hts gL_law_X9_mark rfl rfl rfl (by decide +kernel) (by decide)) (pre_V (ci := 8) hK hH (oX9_mark hz157) rfl) rfl rfl hl.1 rfl (lv_room (Nat.le_of_ble_eq_true rfl)) dL_law_756 ⟨by decide, by decide⟩) hS (fun H locs hH hS => ?_)
      refine lv_aload_n hx hb dL_law_759 rfl (lv_at hl 2 rfl) ?_
      refine lv_aload_n hx hb dL_law_760 rfl (lv_at hl 0 rfl) ?_
      refine lv_iload_n hx hb dL_law_761 rfl (lv_at hl 3 rfl) ?_
      refine lv_iconst (v := 1) hx hb dL_law_762 (by decide) ?_
      refine lv_iadd hx hb dL_law_763 ?_
      obtain ⟨v158, hv158, hE⟩ := Option.bind_eq_some_iff.mp hE
      refine va_sld hx hb hX hbl hbA hS (o_x_spec hv158).1 dL_law_764 ?_
      rw [← (o_x_spec hv158).2]
      refine lv_aload_n hx hb dL_law_765 rfl (lv_at hl 0 rfl) ?_
      refine lv_iload_n hx hb dL_law_766 rfl (lv_at hl 3 rfl) ?_
      refine lv_iconst (v := 2) hx hb dL_law_767 (by decide) ?_
      refine lv_iadd hx hb dL_law_768 ?_
      obtain ⟨v159, hv159, hE⟩ := Option.bind_eq_some_iff.mp hE
      refine va_sld hx hb hX hbl hbA hS (o_x_spec hv159).1 dL_law_769 ?_
      rw [← (o_x_spec hv159).2]
      obtain ⟨z160, hz160, hE⟩ := Option.bind_eq_some_iff.mp hE
      refine r_callI (va_runV (As := [.int v158, .int v159]) (rest := [.int z157.1]) ⟨hx, hb, hml, hown, hts⟩ (sX10_mark l b0 D cA hz160) (cwV 2 hts gL_law_X10_mark rfl rfl rfl (by decide +kernel) (by decide)) (pre_V (ci := 9) hK hH (oX10_mark hz160) rfl) rfl rfl hl.1 rfl (lv_room (Nat.le_of_ble_eq_true rfl)) dL_law_770 ⟨by decide, by decide⟩) hS (fun H locs hH hS => ?_)
      refine lv_icmp_eq (tgt := 861) hx hb dL_law_773 (by decide) (fun c161 => ?_) (fun c161 => ?_)
      · rw [if_pos c161] at hE
        exact sL_law_b861 (F := F) hC hX hbl hbA hb0 hk18 hE _ _ _ hH hS (lv_sub hl [0, 1, 2, 3] rfl)
      · rw [if_neg c161] at hE
        refine lv_iconst (v := 0) hx hb dL_law_776 (by decide) ?_
        cases hE
    rw [if_neg c154] at hE
    by_cases c162 : (v4 &&& 31) = 22
    · rw [if_pos c162] at hE
      refine lv_tableIn (tgt := 778) (off := 746) hx hb dL_law_32 (by rw [c162]; decide) (by rw [c162]; decide) (by rw [c162]; rfl) (by decide) ?_
      refine lv_aload_n hx hb dL_law_778 rfl (lv_at hl 1 rfl) ?_
      refine lv_aload_n hx hb dL_law_779 rfl (lv_at hl 0 rfl) ?_
      refine lv_iload_n hx hb dL_law_780 rfl (lv_at hl 3 rfl) ?_
      refine lv_iconst (v := 1) hx hb dL_law_781 (by decide) ?_
      refine lv_iadd hx hb dL_law_782 ?_
      obtain ⟨v163, hv163, hE⟩ := Option.bind_eq_some_iff.mp hE
      refine va_sld hx hb hX hbl hbA hS (o_x_spec hv163).1 dL_law_783 ?_
      rw [← (o_x_spec hv163).2]
      obtain ⟨z164, hz164, hE⟩ := Option.bind_eq_some_iff.mp hE
      refine r_callI (va_runV (As := [.int v163]) (rest := []) ⟨hx, hb, hml, hown, hts⟩ (sX9_keep l b0 D cA hz164) (cwV 1 hts gL_law_X9_keep rfl rfl rfl (by decide +kernel) (by decide)) (pre_V (ci := 8) hK hH (oX9_keep hz164) rfl) rfl rfl hl.1 rfl (lv_room (Nat.le_of_ble_eq_true rfl)) dL_law_784 ⟨by decide, by decide⟩) hS (fun H locs hH hS => ?_)
      refine lv_aload_n hx hb dL_law_787 rfl (lv_at hl 2 rfl) ?_
      refine lv_aload_n hx hb dL_law_788 rfl (lv_at hl 0 rfl) ?_
      refine lv_iload_n hx hb dL_law_789 rfl (lv_at hl 3 rfl) ?_
      refine lv_iconst (v := 1) hx hb dL_law_790 (by decide) ?_
      refine lv_iadd hx hb dL_law_791 ?_
      obtain ⟨v165, hv165, hE⟩ := Option.bind_eq_some_iff.mp hE
      refine va_sld hx hb hX hbl hbA hS (o_x_spec hv165).1 dL_law_792 ?_
      rw [← (o_x_spec hv165).2]
      obtain ⟨z166, hz166, hE⟩ := Option.bind_eq_some_iff.mp hE
      refine r_callI (va_runV (As := [.int v165]) (rest := [.int z164.1]) ⟨hx, hb, hml, hown, hts⟩ (sX10_keep l b0 D cA hz166) (cwV 1 hts gL_law_X10_keep rfl rfl rfl (by decide +kernel) (by decide)) (pre_V (ci := 9) hK hH (oX10_keep hz166) rfl) rfl rfl hl.1 rfl (lv_room (Nat.le_of_ble_eq_true rfl)) dL_law_793 ⟨by decide, by decide⟩) hS (fun H locs hH hS => ?_)
      refine lv_icmp_eq (tgt := 861) hx hb dL_law_796 (by decide) (fun c167 => ?_) (fun c167 => ?_)
      · rw [if_pos c167] at hE
        exact sL_law_b861 (F := F) hC hX hbl hbA hb0 hk18 hE _ _ _ hH hS (lv_sub hl [0, 1, 2, 3] rfl)
      · rw [if_neg c167] at hE
        refine lv_iconst (v := 0) hx hb dL_law_799 (by decide) ?_
        cases hE
    rw [if_neg c162] at hE
    by_cases c168 : (v4 &&& 31) = 23
    · rw [if_pos c168] at hE
      refine lv_tableIn (tgt := 801) (off := 769) hx hb dL_law_32 (by rw [c168]; decide) (by rw [c168]; decide) (by rw [c168]; rfl) (by decide) ?_
      refine lv_aload_n hx hb dL_law_801 rfl (lv_at hl 1 rfl) ?_
      refine lv_aload_n hx hb dL_law_802 rfl (lv_at hl 0 rfl) ?_
      refine lv_iload_n hx hb dL_law_803 rfl (lv_at hl 3 rfl) ?_
      refine lv_iconst (v := 1) hx hb dL_law_804 (by decide) ?_
      refine lv_iadd hx hb dL_law_805 ?_
      obtain ⟨v169, hv169, hE⟩ := Option.bind_eq_some_iff.mp hE
      refine va_sld hx hb hX hbl hbA hS (o_x_spec hv169).1 dL_law_806 ?_
      rw [← (o_x_spec hv169).2]
      obtain ⟨z170, hz170, hE⟩ := Option.bind_eq_some_iff.mp hE
      refine r_callI (va_runV (As := [.int v169]) (rest := []) ⟨hx, hb, hml, hown, hts⟩ (sX9_back l b0 D cA hz170) (cwV 1 hts gL_law_X9_back rfl rfl rfl (by decide +kernel) (by decide)) (pre_V (ci := 8) hK hH (oX9_back hz170) rfl) rfl rfl hl.1 rfl (lv_room (Nat.le_of_ble_eq_true rfl)) dL_law_807 ⟨by decide, by decide⟩) hS (fun H locs hH hS => ?_)
      refine lv_aload_n hx hb dL_law_810 rfl (lv_at hl 2 rfl) ?_
      refine lv_aload_n hx hb dL_law_811 rfl (lv_at hl 0 rfl) ?_
      refine lv_iload_n hx hb dL_law_812 rfl (lv_at hl 3 rfl) ?_
      refine lv_iconst (v := 1) hx hb dL_law_813 (by decide) ?_
      refine lv_iadd hx hb dL_law_814 ?_
      obtain ⟨v171, hv171, hE⟩ := Option.bind_eq_some_iff.mp hE
      refine va_sld hx hb hX hbl hbA hS (o_x_spec hv171).1 dL_law_815 ?_
      rw [← (o_x_spec hv171).2]
      obtain ⟨z172, hz172, hE⟩ := Option.bind_eq_some_iff.mp hE
      refine r_callI (va_runV (As := [.int v171]) (rest := [.int z170.1]) ⟨hx, hb, hml, hown, hts⟩ (sX10_back l b0 D cA hz172) (cwV 1 hts gL_law_X10_back rfl rfl rfl (by decide +kernel) (by decide)) (pre_V (ci := 9) hK hH (oX10_back hz172) rfl) rfl rfl hl.1 rfl (lv_room (Nat.le_of_ble_eq_true rfl)) dL_law_816 ⟨by decide, by decide⟩) hS (fun H locs hH hS => ?_)
      refine lv_icmp_eq (tgt := 861) hx hb dL_law_819 (by decide) (fun c173 => ?_) (fun c173 => ?_)
      · rw [if_pos c173] at hE
        exact sL_law_b861 (F := F) hC hX hbl hbA hb0 hk18 hE _ _ _ hH hS (lv_sub hl [0, 1, 2, 3] rfl)
      · rw [if_neg c173] at hE
        refine lv_iconst (v := 0) hx hb dL_law_822 (by decide) ?_
        cases hE
    rw [if_neg c168] at hE
    by_cases c174 : (v4 &&& 31) = 24
    · rw [if_pos c174] at hE
      refine lv_tableIn (tgt := 824) (off := 792) hx hb dL_law_32 (by rw [c174]; decide) (by rw [c174]; decide) (by rw [c174]; rfl) (by decide) ?_
      refine lv_aload_n hx hb dL_law_824 rfl (lv_at hl 1 rfl) ?_
      refine lv_aload_n hx hb dL_law_825 rfl (lv_at hl 0 rfl) ?_
      refine lv_iload_n hx hb dL_law_826 rfl (lv_at hl 3 rfl) ?_
      refine lv_iconst (v := 1) hx hb dL_law_827 (by decide) ?_
      refine lv_iadd hx hb dL_law_828 ?_
      obtain ⟨v175, hv175, hE⟩ := Option.bind_eq_some_iff.mp hE
      refine va_sld hx hb hX hbl hbA hS (o_x_spec hv175).1 dL_law_829 ?_
      rw [← (o_x_spec hv175).2]
      obtain ⟨z176, hz176, hE⟩ := Option.bind_eq_some_iff.mp hE
      refine r_callI (va_runV (As := [.int v175]) (rest := []) ⟨hx, hb, hml, hown, hts⟩ (sX9_count l b0 D cA hz176) (cwV 1 hts gL_law_X9_count rfl rfl rfl (by decide +kernel) (by decide)) (pre_V (ci := 8) hK hH (oX9_count hz176) rfl) rfl rfl hl.1 rfl (lv_room (Nat.le_of_ble_eq_true rfl)) dL_law_830 ⟨by decide, by decide⟩) hS (fun H locs hH hS => ?_)
      refine lv_aload_n hx hb dL_law_833 rfl (lv_at hl 2 rfl) ?_
      refine lv_aload_n hx hb dL_law_834 rfl (lv_at hl 0 rfl) ?_
      refine lv_iload_n hx hb dL_law_835 rfl (lv_at hl 3 rfl) ?_
      refine lv_iconst (v := 1) hx hb dL_law_836 (by decide) ?_
      refine lv_iadd hx hb dL_law_837 ?_
      obtain ⟨v177, hv177, hE⟩ := Option.bind_eq_some_iff.mp hE
      refine va_sld hx hb hX hbl hbA hS (o_x_spec hv177).1 dL_law_838 ?_
      rw [← (o_x_spec hv177).2]
      obtain ⟨z178, hz178, hE⟩ := Option.bind_eq_some_iff.mp hE
      refine r_callI (va_runV (As := [.int v177]) (rest := [.int z176.1]) ⟨hx, hb, hml, hown, hts⟩ (sX10_count l b0 D cA hz178) (cwV 1 hts gL_law_X10_count rfl rfl rfl (by decide +kernel) (by decide)) (pre_V (ci := 9) hK hH (oX10_count hz178) rfl) rfl rfl hl.1 rfl (lv_room (Nat.le_of_ble_eq_true rfl)) dL_law_839 ⟨by decide, by decide⟩) hS (fun H locs hH hS => ?_)
      refine lv_icmp_eq (tgt := 861) hx hb dL_law_842 (by decide) (fun c179 => ?_) (fun c179 => ?_)
      · rw [if_pos c179] at hE
        exact sL_law_b861 (F := F) hC hX hbl hbA hb0 hk18 hE _ _ _ hH hS (lv_sub hl [0, 1, 2, 3] rfl)
      · rw [if_neg c179] at hE
        refine lv_iconst (v := 0) hx hb dL_law_845 (by decide) ?_
        cases hE
    rw [if_neg c174] at hE
    by_cases c180 : (v4 &&& 31) = 25
    · rw [if_pos c180] at hE
      refine lv_tableIn (tgt := 847) (off := 815) hx hb dL_law_32 (by rw [c180]; decide) (by rw [c180]; decide) (by rw [c180]; rfl) (by decide) ?_
      refine lv_aload_n hx hb dL_law_847 rfl (lv_at hl 1 rfl) ?_
      obtain ⟨z181, hz181, hE⟩ := Option.bind_eq_some_iff.mp hE
      refine r_callJ (va_runV (As := []) (rest := []) ⟨hx, hb, hml, hown, hts⟩ (sX9_trace l b0 D cA hz181) (cwV 0 hts gL_law_X9_trace rfl rfl rfl (by decide +kernel) (by decide)) (pre_V (ci := 8) hK hH (oX9_trace hz181) rfl) rfl rfl hl.1 rfl (lv_room (Nat.le_of_ble_eq_true rfl)) dL_law_848 ⟨by decide, by decide⟩) hS (fun H locs hH hS => ?_)
      refine lv_aload_n hx hb dL_law_851 rfl (lv_at hl 2 rfl) ?_
      obtain ⟨z182, hz182, hE⟩ := Option.bind_eq_some_iff.mp hE
      refine r_callJ (va_runV (As := []) (rest := [.long z181.1]) ⟨hx, hb, hml, hown, hts⟩ (sX10_trace l b0 D cA hz182) (cwV 0 hts gL_law_X10_trace rfl rfl rfl (by decide +kernel) (by decide)) (pre_V (ci := 9) hK hH (oX10_trace hz182) rfl) rfl rfl hl.1 rfl (lv_room (Nat.le_of_ble_eq_true rfl)) dL_law_852 ⟨by decide, by decide⟩) hS (fun H locs hH hS => ?_)
      refine W.lcmp hx hb dL_law_855 ?_
      refine lv_if_eq (tgt := 861) hx hb dL_law_856 (by decide) (fun c183 => ?_) (fun c183 => ?_)
      · rw [if_pos c183] at hE
        exact sL_law_b861 (F := F) hC hX hbl hbA hb0 hk18 hE _ _ _ hH hS (lv_sub hl [0, 1, 2, 3] rfl)
      · rw [if_neg c183] at hE
        refine lv_iconst (v := 0) hx hb dL_law_859 (by decide) ?_
        cases hE
    rw [if_neg c180] at hE
    refine lv_tableOut (tgt := 861) hx hb dL_law_32 (by have q0 := sw_ne (k := 0) (by decide) c6; have q1 := sw_ne (k := 1) (by decide) c12; have q2 := sw_ne (k := 2) (by decide) c16; have q3 := sw_ne (k := 3) (by decide) c20; have q4 := sw_ne (k := 4) (by decide) c28; have q5 := sw_ne (k := 5) (by decide) c36; have q6 := sw_ne (k := 6) (by decide) c46; have q7 := sw_ne (k := 7) (by decide) c52; have q8 := sw_ne (k := 8) (by decide) c60; have q9 := sw_ne (k := 9) (by decide) c66; have q10 := sw_ne (k := 10) (by decide) c70; have q11 := sw_ne (k := 11) (by decide) c76; have q12 := sw_ne (k := 12) (by decide) c84; have q13 := sw_ne (k := 13) (by decide) c94; have q14 := sw_ne (k := 14) (by decide) c104; have q15 := sw_ne (k := 15) (by decide) c114; have q16 := sw_ne (k := 16) (by decide) c126; have q17 := sw_ne (k := 17) (by decide) c132; have q18 := sw_ne (k := 18) (by decide) c140; have q19 := sw_ne (k := 19) (by decide) c144; have q20 := sw_ne (k := 20) (by decide) c150; have q21 := sw_ne (k := 21) (by decide) c154; have q22 := sw_ne (k := 22) (by decide) c162; have q23 := sw_ne (k := 23) (by decide) c168; have q24 := sw_ne (k := 24) (by decide) c174; have q25 := sw_ne (k := 25) (by decide) c180; omega) (by decide) ?_
    exact sL_law_b861 (F := F) hC hX hbl hbA hb0 hk18 hE _ _ _ hH hS (lv_sub hl [0, 1, 2, 3] rfl)
theorem sL_law_b18 {b0 : Nat} {D : va_G} {cA : Nat → ClassId} {p : Program} {l : Launch} {ev : Env} {s : State} {m : MethodId} {below : List Frame} {meth : Method} {c : Code} {F : Nat} {b xn : Nat} {xs : Nat → Int32} {z : HL} (hC : Cx D cA p s m #[Value.ref b] meth c cL_law 4 RL wsL_law (some .boolean)) (hX : va_X b xn xs s s.heap) (hbl : b < s.heap.size) (hbA : ¬ (Ab b0) b) (hb0 : s.heap.size ≤ b0) : ∀ (n : Nat) (x1 : Nat) (x2 : Nat) (x3 : Int32) (L : HL), fL_law_b18 F xn xs n x1 x2 x3 L = some z → WB b0 D cA p l ev room_1 s m #[Value.ref b] below meth c 4 227 6626 (lw_Z below #[Value.ref b] s) 18 [(0, .ref b), (1, .ref (b0 + x1)), (2, .ref (b0 + x2)), (3, .int x3)] [] L := by
  intro n
  induction n with
  | zero => intro x1 x2 x3 L hE; cases hE
  | succ n ih => intro x1 x2 x3 L hE; exact sL_law_b18c (F := F) hC hX hbl hbA hb0 ih hE
def fL_law (F xn : Nat) (xs : Nat → Int32) (L : HL) : Option HL := (fX9_init F (L ++ [(.inr (.inr (8, [.null, .null, .null, .null, .null, .int 0, .null, .null, .null, .long 0])) : SC)]) L.length).bind fun z1 => (fX10_init F (z1 ++ [(.inr (.inr (9, [.null, .int 0, .null, .null, .null, .null, .null, .null, .null, .null, .int 0, .int 0, .int 0, .int 0, .int 0, .int 0, .null, .null, .null, .null, .null, .null, .null, .null, .int 0, .long 0])) : SC)]) z1.length).bind fun z2 => fL_law_b18 F xn xs F L.length z1.length 0 z2
set_option maxHeartbeats 4000000 in
set_option maxRecDepth 100000 in
theorem sL_law {b0 : Nat} {D : va_G} {cA : Nat → ClassId} {p : Program} {l : Launch} {ev : Env} {s : State} {m : MethodId} {below : List Frame} {meth : Method} {c : Code} {F : Nat} {b xn : Nat} {xs : Nat → Int32} {z : HL} {L : HL} (hC : Cx D cA p s m #[Value.ref b] meth c cL_law 4 RL wsL_law (some .boolean)) (hX : va_X b xn xs s s.heap) (hbl : b < s.heap.size) (hbA : ¬ (Ab b0) b) (hb0 : s.heap.size ≤ b0) (hE : fL_law F xn xs L = some z) : WB b0 D cA p l ev room_1 s m #[Value.ref b] below meth c 4 0 0 (lw_Z below #[Value.ref b] s) 0 [(0, .ref b)] [] L := by
  obtain ⟨hx, hb, hml, hown, hts, hK, hr, hlocks⟩ := id hC
  intro H locs ls hH hS hl
  unfold fL_law at hE
  refine r_new (C := RX9) (T := TX9) (N := 10) (ci := 8) (fs := [.null, .null, .null, .null, .null, .int 0, .null, .null, .null, .long 0]) hx hb hts (by decide +kernel) tyX9 tyX9_ok hown (hts (.classLink RL 7 RX9) (by decide +kernel)) (hts (.instantiable RX9 10) (by decide +kernel)) (hts (.initialized RX9) (by decide +kernel)) hK hH hS rfl (by decide) rfl (by decide) (by decide) dL_law_0 (fun H hH hS => ?_)
  refine W.widen (k := 1) (n := 10) (by decide) (by decide) ?_
  refine lv_dup hx hb dL_law_3 rfl ?_
  obtain ⟨z1, hz1, hE⟩ := Option.bind_eq_some_iff.mp hE
  refine r_callV (va_runI (As := []) (rest := [.ref (b0 + L.length)]) ⟨hx, hb, hml, hown, hts⟩ (sX9_init l b0 D cA hz1) (cwI 0 hts gL_law_X9_init rfl rfl rfl (hts (.initialized RX9) (by decide +kernel)) (hts (.methodLink RL 9 yX9_init) (by decide +kernel)) (hts (.instanceMethod yX9_init) (by decide +kernel)) rfl (by decide +kernel) (by decide)) (pre_S hK hH) rfl rfl hl.1 rfl (lv_room (Nat.le_of_ble_eq_true rfl)) dL_law_4 ⟨by decide, by decide⟩) hS (fun H locs hH hS => ?_)
  refine W.widen (k := 209) (n := 1677) (by decide) (by decide) ?_
  refine lv_astore_n (lv' := [(1, .ref (b0 + L.length)), (0, .ref b)]) hx hb dL_law_7 rfl hl (by decide) rfl (fun ls hl => ?_)
  refine r_new (C := RX10) (T := TX10) (N := 26) (ci := 9) (fs := [.null, .int 0, .null, .null, .null, .null, .null, .null, .null, .null, .int 0, .int 0, .int 0, .int 0, .int 0, .int 0, .null, .null, .null, .null, .null, .null, .null, .null, .int 0, .long 0]) hx hb hts (by decide +kernel) tyX10 tyX10_ok hown (hts (.classLink RL 10 RX10) (by decide +kernel)) (hts (.instantiable RX10 26) (by decide +kernel)) (hts (.initialized RX10) (by decide +kernel)) hK hH hS rfl (by decide) rfl (by decide) (by decide) dL_law_8 (fun H hH hS => ?_)
  refine W.widen (k := 210) (n := 1703) (by decide) (by decide) ?_
  refine lv_dup hx hb dL_law_11 rfl ?_
  obtain ⟨z2, hz2, hE⟩ := Option.bind_eq_some_iff.mp hE
  refine r_callV (va_runI (As := []) (rest := [.ref (b0 + z1.length)]) ⟨hx, hb, hml, hown, hts⟩ (sX10_init l b0 D cA hz2) (cwI 0 hts gL_law_X10_init rfl rfl rfl (hts (.initialized RX10) (by decide +kernel)) (hts (.methodLink RL 12 yX10_init) (by decide +kernel)) (hts (.instanceMethod yX10_init) (by decide +kernel)) rfl (by decide +kernel) (by decide)) (pre_S hK hH) rfl rfl hl.1 rfl (lv_room (Nat.le_of_ble_eq_true rfl)) dL_law_12 ⟨by decide, by decide⟩) hS (fun H locs hH hS => ?_)
  refine W.widen (k := 227) (n := 6626) (by decide) (by decide) ?_
  refine lv_astore_n (lv' := [(2, .ref (b0 + z1.length)), (1, .ref (b0 + L.length)), (0, .ref b)]) hx hb dL_law_15 rfl hl (by decide) rfl (fun ls hl => ?_)
  refine lv_iconst (v := 0) hx hb dL_law_16 (by decide) ?_
  refine lv_istore_n (lv' := [(3, .int 0), (2, .ref (b0 + z1.length)), (1, .ref (b0 + L.length)), (0, .ref b)]) hx hb dL_law_17 rfl hl (by decide) rfl (fun ls hl => ?_)
  exact sL_law_b18 (F := F) hC hX hbl hbA hb0 F _ _ _ _ hE _ _ _ hH hS (lv_sub hl [3, 2, 1, 0] rfl)

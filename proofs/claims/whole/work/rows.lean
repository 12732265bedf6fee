section
-- ===== PART A: goes FIRST, ahead of the names: the tables' words, and 'selects' of the private methods out of them =====
/-- a private method of a class that the tables say can be made, by its rows of tables_1 -/
def lw_okq (q : MethodName × Nat) : Prop := (q.1.cls ≠ "java/lang/invoke/MethodHandle" ∧ q.1.cls ≠ "java/lang/invoke/VarHandle") ∧ Cond.instantiable q.1.cls q.2 ∈ tables_1 ∧ Cond.privateMethod q.1 ∈ tables_1 ∧ Cond.instanceMethod q.1 ∈ tables_1
theorem lw_p0 : lw_okq (⟨"KindStreets$Text", "skipBlanks", "()V"⟩, 3) := ⟨⟨by decide +kernel, by decide +kernel⟩, List.mem_of_getElem? (i := 25) (by decide +kernel), List.mem_of_getElem? (i := 284) (by decide +kernel), List.mem_of_getElem? (i := 285) (by decide +kernel)⟩
theorem lw_p1 : lw_okq (⟨"KindStreets$Text", "byteAt", "(I)I"⟩, 3) := ⟨⟨by decide +kernel, by decide +kernel⟩, List.mem_of_getElem? (i := 25) (by decide +kernel), List.mem_of_getElem? (i := 288) (by decide +kernel), List.mem_of_getElem? (i := 289) (by decide +kernel)⟩
theorem lw_p2 : lw_okq (⟨"KindStreets$Text", "readItem", "(LKindStreets$Town;Z)Z"⟩, 3) := ⟨⟨by decide +kernel, by decide +kernel⟩, List.mem_of_getElem? (i := 25) (by decide +kernel), List.mem_of_getElem? (i := 292) (by decide +kernel), List.mem_of_getElem? (i := 293) (by decide +kernel)⟩
theorem lw_p3 : lw_okq (⟨"KindStreets$Text", "loneLetter", "()I"⟩, 3) := ⟨⟨by decide +kernel, by decide +kernel⟩, List.mem_of_getElem? (i := 25) (by decide +kernel), List.mem_of_getElem? (i := 296) (by decide +kernel), List.mem_of_getElem? (i := 297) (by decide +kernel)⟩
theorem lw_p4 : lw_okq (⟨"KindStreets$Text", "readYards", "(LKindStreets$Town;)Z"⟩, 3) := ⟨⟨by decide +kernel, by decide +kernel⟩, List.mem_of_getElem? (i := 25) (by decide +kernel), List.mem_of_getElem? (i := 303) (by decide +kernel), List.mem_of_getElem? (i := 304) (by decide +kernel)⟩
theorem lw_p5 : lw_okq (⟨"KindStreets$Text", "readNumber", "(III)I"⟩, 3) := ⟨⟨by decide +kernel, by decide +kernel⟩, List.mem_of_getElem? (i := 25) (by decide +kernel), List.mem_of_getElem? (i := 307) (by decide +kernel), List.mem_of_getElem? (i := 308) (by decide +kernel)⟩
theorem lw_p6 : lw_okq (⟨"KindStreets$Text", "digitsHere", "()I"⟩, 3) := ⟨⟨by decide +kernel, by decide +kernel⟩, List.mem_of_getElem? (i := 25) (by decide +kernel), List.mem_of_getElem? (i := 311) (by decide +kernel), List.mem_of_getElem? (i := 312) (by decide +kernel)⟩
theorem lw_p7 : lw_okq (⟨"KindStreets$Text", "numberOf", "(I)I"⟩, 3) := ⟨⟨by decide +kernel, by decide +kernel⟩, List.mem_of_getElem? (i := 25) (by decide +kernel), List.mem_of_getElem? (i := 318) (by decide +kernel), List.mem_of_getElem? (i := 319) (by decide +kernel)⟩
theorem lw_p8 : lw_okq (⟨"KindStreets$Text", "readStreet", "(LKindStreets$Town;)Z"⟩, 3) := ⟨⟨by decide +kernel, by decide +kernel⟩, List.mem_of_getElem? (i := 25) (by decide +kernel), List.mem_of_getElem? (i := 322) (by decide +kernel), List.mem_of_getElem? (i := 323) (by decide +kernel)⟩
theorem lw_p9 : lw_okq (⟨"KindStreets$Text", "readCitizen", "(LKindStreets$Town;)Z"⟩, 3) := ⟨⟨by decide +kernel, by decide +kernel⟩, List.mem_of_getElem? (i := 25) (by decide +kernel), List.mem_of_getElem? (i := 326) (by decide +kernel), List.mem_of_getElem? (i := 327) (by decide +kernel)⟩
theorem lw_p10 : lw_okq (⟨"KindStreets$Text", "readEnd", "()Z"⟩, 3) := ⟨⟨by decide +kernel, by decide +kernel⟩, List.mem_of_getElem? (i := 25) (by decide +kernel), List.mem_of_getElem? (i := 330) (by decide +kernel), List.mem_of_getElem? (i := 331) (by decide +kernel)⟩
theorem lw_p11 : lw_okq (⟨"KindStreets", "isStreet", "(I)Z"⟩, 10) := ⟨⟨by decide +kernel, by decide +kernel⟩, List.mem_of_getElem? (i := 17) (by decide +kernel), List.mem_of_getElem? (i := 359) (by decide +kernel), List.mem_of_getElem? (i := 360) (by decide +kernel)⟩
theorem lw_p12 : lw_okq (⟨"KindStreets", "livingIn", "(I)I"⟩, 10) := ⟨⟨by decide +kernel, by decide +kernel⟩, List.mem_of_getElem? (i := 17) (by decide +kernel), List.mem_of_getElem? (i := 373) (by decide +kernel), List.mem_of_getElem? (i := 374) (by decide +kernel)⟩
theorem lw_p13 : lw_okq (⟨"KindStreets", "livingInAny", "(I)I"⟩, 10) := ⟨⟨by decide +kernel, by decide +kernel⟩, List.mem_of_getElem? (i := 17) (by decide +kernel), List.mem_of_getElem? (i := 377) (by decide +kernel), List.mem_of_getElem? (i := 378) (by decide +kernel)⟩
theorem lw_p14 : lw_okq (⟨"KindStreets", "isCitizen", "(I)Z"⟩, 10) := ⟨⟨by decide +kernel, by decide +kernel⟩, List.mem_of_getElem? (i := 17) (by decide +kernel), List.mem_of_getElem? (i := 388) (by decide +kernel), List.mem_of_getElem? (i := 389) (by decide +kernel)⟩
theorem lw_p15 : lw_okq (⟨"KindStreets", "witnessesOf", "(I)I"⟩, 10) := ⟨⟨by decide +kernel, by decide +kernel⟩, List.mem_of_getElem? (i := 17) (by decide +kernel), List.mem_of_getElem? (i := 392) (by decide +kernel), List.mem_of_getElem? (i := 393) (by decide +kernel)⟩
def lw_privs_1 : List (MethodName × Nat) := [(⟨"KindStreets$Text", "skipBlanks", "()V"⟩, 3), (⟨"KindStreets$Text", "byteAt", "(I)I"⟩, 3), (⟨"KindStreets$Text", "readItem", "(LKindStreets$Town;Z)Z"⟩, 3), (⟨"KindStreets$Text", "loneLetter", "()I"⟩, 3), (⟨"KindStreets$Text", "readYards", "(LKindStreets$Town;)Z"⟩, 3), (⟨"KindStreets$Text", "readNumber", "(III)I"⟩, 3), (⟨"KindStreets$Text", "digitsHere", "()I"⟩, 3), (⟨"KindStreets$Text", "numberOf", "(I)I"⟩, 3), (⟨"KindStreets$Text", "readStreet", "(LKindStreets$Town;)Z"⟩, 3), (⟨"KindStreets$Text", "readCitizen", "(LKindStreets$Town;)Z"⟩, 3), (⟨"KindStreets$Text", "readEnd", "()Z"⟩, 3), (⟨"KindStreets", "isStreet", "(I)Z"⟩, 10), (⟨"KindStreets", "livingIn", "(I)I"⟩, 10), (⟨"KindStreets", "livingInAny", "(I)I"⟩, 10), (⟨"KindStreets", "isCitizen", "(I)Z"⟩, 10), (⟨"KindStreets", "witnessesOf", "(I)I"⟩, 10)]
theorem lw_r1 : ∀ q ∈ lw_privs_1, lw_okq q := List.forall_mem_cons.mpr ⟨lw_p0, List.forall_mem_cons.mpr ⟨lw_p1, List.forall_mem_cons.mpr ⟨lw_p2, List.forall_mem_cons.mpr ⟨lw_p3, List.forall_mem_cons.mpr ⟨lw_p4, List.forall_mem_cons.mpr ⟨lw_p5, List.forall_mem_cons.mpr ⟨lw_p6, List.forall_mem_cons.mpr ⟨lw_p7, List.forall_mem_cons.mpr ⟨lw_p8, List.forall_mem_cons.mpr ⟨lw_p9, List.forall_mem_cons.mpr ⟨lw_p10, List.forall_mem_cons.mpr ⟨lw_p11, List.forall_mem_cons.mpr ⟨lw_p12, List.forall_mem_cons.mpr ⟨lw_p13, List.forall_mem_cons.mpr ⟨lw_p14, List.forall_mem_cons.mpr ⟨lw_p15, fun _ h => absurd h List.not_mem_nil⟩⟩⟩⟩⟩⟩⟩⟩⟩⟩⟩⟩⟩⟩⟩⟩
theorem lw_p16 : lw_okq (⟨"KindStreets", "streetsAt", "(I)I"⟩, 10) := ⟨⟨by decide +kernel, by decide +kernel⟩, List.mem_of_getElem? (i := 17) (by decide +kernel), List.mem_of_getElem? (i := 396) (by decide +kernel), List.mem_of_getElem? (i := 397) (by decide +kernel)⟩
theorem lw_p17 : lw_okq (⟨"KindStreets$Now", "loseOldest", "()V"⟩, 3) := ⟨⟨by decide +kernel, by decide +kernel⟩, List.mem_of_getElem? (i := 106) (by decide +kernel), List.mem_of_getElem? (i := 417) (by decide +kernel), List.mem_of_getElem? (i := 418) (by decide +kernel)⟩
theorem lw_p18 : lw_okq (⟨"KindStreets", "widthsTogether", "()I"⟩, 10) := ⟨⟨by decide +kernel, by decide +kernel⟩, List.mem_of_getElem? (i := 17) (by decide +kernel), List.mem_of_getElem? (i := 447) (by decide +kernel), List.mem_of_getElem? (i := 448) (by decide +kernel)⟩
theorem lw_p19 : lw_okq (⟨"KindStreets", "streetsWithHidden", "()I"⟩, 10) := ⟨⟨by decide +kernel, by decide +kernel⟩, List.mem_of_getElem? (i := 17) (by decide +kernel), List.mem_of_getElem? (i := 463) (by decide +kernel), List.mem_of_getElem? (i := 464) (by decide +kernel)⟩
theorem lw_p20 : lw_okq (⟨"KindStreets", "areUnlikeYards", "(II)Z"⟩, 10) := ⟨⟨by decide +kernel, by decide +kernel⟩, List.mem_of_getElem? (i := 17) (by decide +kernel), List.mem_of_getElem? (i := 471) (by decide +kernel), List.mem_of_getElem? (i := 472) (by decide +kernel)⟩
theorem lw_p21 : lw_okq (⟨"KindStreets", "waysNow", "()LKindStreets$Ways;"⟩, 10) := ⟨⟨by decide +kernel, by decide +kernel⟩, List.mem_of_getElem? (i := 17) (by decide +kernel), List.mem_of_getElem? (i := 475) (by decide +kernel), List.mem_of_getElem? (i := 476) (by decide +kernel)⟩
theorem lw_p22 : lw_okq (⟨"KindStreets$Ways", "oneStreetOn", "(II)I"⟩, 2) := ⟨⟨by decide +kernel, by decide +kernel⟩, List.mem_of_getElem? (i := 153) (by decide +kernel), List.mem_of_getElem? (i := 496) (by decide +kernel), List.mem_of_getElem? (i := 497) (by decide +kernel)⟩
theorem lw_p23 : lw_okq (⟨"KindStreets$Ways", "cutAround", "(I)I"⟩, 2) := ⟨⟨by decide +kernel, by decide +kernel⟩, List.mem_of_getElem? (i := 153) (by decide +kernel), List.mem_of_getElem? (i := 522) (by decide +kernel), List.mem_of_getElem? (i := 523) (by decide +kernel)⟩
theorem lw_p24 : lw_okq (⟨"KindStreets$Ways", "goBothWays", "(II)V"⟩, 2) := ⟨⟨by decide +kernel, by decide +kernel⟩, List.mem_of_getElem? (i := 153) (by decide +kernel), List.mem_of_getElem? (i := 549) (by decide +kernel), List.mem_of_getElem? (i := 550) (by decide +kernel)⟩
theorem lw_p25 : lw_okq (⟨"KindStreets$Ways", "streetOut", "(II)I"⟩, 2) := ⟨⟨by decide +kernel, by decide +kernel⟩, List.mem_of_getElem? (i := 153) (by decide +kernel), List.mem_of_getElem? (i := 568) (by decide +kernel), List.mem_of_getElem? (i := 569) (by decide +kernel)⟩
theorem lw_p26 : lw_okq (⟨"KindStreets$Carriages", "mostFrom", "(II)I"⟩, 2) := ⟨⟨by decide +kernel, by decide +kernel⟩, List.mem_of_getElem? (i := 187) (by decide +kernel), List.mem_of_getElem? (i := 583) (by decide +kernel), List.mem_of_getElem? (i := 584) (by decide +kernel)⟩
theorem lw_p27 : lw_okq (⟨"KindStreets$Carriages", "wantingFrom", "(II)I"⟩, 2) := ⟨⟨by decide +kernel, by decide +kernel⟩, List.mem_of_getElem? (i := 187) (by decide +kernel), List.mem_of_getElem? (i := 587) (by decide +kernel), List.mem_of_getElem? (i := 588) (by decide +kernel)⟩
theorem lw_p28 : lw_okq (⟨"KindStreets$Carriages", "freeOf", "(II)I"⟩, 2) := ⟨⟨by decide +kernel, by decide +kernel⟩, List.mem_of_getElem? (i := 187) (by decide +kernel), List.mem_of_getElem? (i := 591) (by decide +kernel), List.mem_of_getElem? (i := 592) (by decide +kernel)⟩
theorem lw_p29 : lw_okq (⟨"KindStreets$Carriages", "lowestStreetFor", "(III)I"⟩, 2) := ⟨⟨by decide +kernel, by decide +kernel⟩, List.mem_of_getElem? (i := 187) (by decide +kernel), List.mem_of_getElem? (i := 597) (by decide +kernel), List.mem_of_getElem? (i := 598) (by decide +kernel)⟩
theorem lw_p30 : lw_okq (⟨"KindStreets$Measures", "areSo", "(I)Z"⟩, 4) := ⟨⟨by decide +kernel, by decide +kernel⟩, List.mem_of_getElem? (i := 204) (by decide +kernel), List.mem_of_getElem? (i := 622) (by decide +kernel), List.mem_of_getElem? (i := 623) (by decide +kernel)⟩
theorem lw_p31 : lw_okq (⟨"KindStreets", "markAsStreet", "(I)I"⟩, 10) := ⟨⟨by decide +kernel, by decide +kernel⟩, List.mem_of_getElem? (i := 17) (by decide +kernel), List.mem_of_getElem? (i := 649) (by decide +kernel), List.mem_of_getElem? (i := 650) (by decide +kernel)⟩
def lw_privs_2 : List (MethodName × Nat) := [(⟨"KindStreets", "streetsAt", "(I)I"⟩, 10), (⟨"KindStreets$Now", "loseOldest", "()V"⟩, 3), (⟨"KindStreets", "widthsTogether", "()I"⟩, 10), (⟨"KindStreets", "streetsWithHidden", "()I"⟩, 10), (⟨"KindStreets", "areUnlikeYards", "(II)Z"⟩, 10), (⟨"KindStreets", "waysNow", "()LKindStreets$Ways;"⟩, 10), (⟨"KindStreets$Ways", "oneStreetOn", "(II)I"⟩, 2), (⟨"KindStreets$Ways", "cutAround", "(I)I"⟩, 2), (⟨"KindStreets$Ways", "goBothWays", "(II)V"⟩, 2), (⟨"KindStreets$Ways", "streetOut", "(II)I"⟩, 2), (⟨"KindStreets$Carriages", "mostFrom", "(II)I"⟩, 2), (⟨"KindStreets$Carriages", "wantingFrom", "(II)I"⟩, 2), (⟨"KindStreets$Carriages", "freeOf", "(II)I"⟩, 2), (⟨"KindStreets$Carriages", "lowestStreetFor", "(III)I"⟩, 2), (⟨"KindStreets$Measures", "areSo", "(I)Z"⟩, 4), (⟨"KindStreets", "markAsStreet", "(I)I"⟩, 10)]
theorem lw_r2 : ∀ q ∈ lw_privs_2, lw_okq q := List.forall_mem_cons.mpr ⟨lw_p16, List.forall_mem_cons.mpr ⟨lw_p17, List.forall_mem_cons.mpr ⟨lw_p18, List.forall_mem_cons.mpr ⟨lw_p19, List.forall_mem_cons.mpr ⟨lw_p20, List.forall_mem_cons.mpr ⟨lw_p21, List.forall_mem_cons.mpr ⟨lw_p22, List.forall_mem_cons.mpr ⟨lw_p23, List.forall_mem_cons.mpr ⟨lw_p24, List.forall_mem_cons.mpr ⟨lw_p25, List.forall_mem_cons.mpr ⟨lw_p26, List.forall_mem_cons.mpr ⟨lw_p27, List.forall_mem_cons.mpr ⟨lw_p28, List.forall_mem_cons.mpr ⟨lw_p29, List.forall_mem_cons.mpr ⟨lw_p30, List.forall_mem_cons.mpr ⟨lw_p31, fun _ h => absurd h List.not_mem_nil⟩⟩⟩⟩⟩⟩⟩⟩⟩⟩⟩⟩⟩⟩⟩⟩
theorem lw_p32 : lw_okq (⟨"KindStreets", "markAsCross", "(I)I"⟩, 10) := ⟨⟨by decide +kernel, by decide +kernel⟩, List.mem_of_getElem? (i := 17) (by decide +kernel), List.mem_of_getElem? (i := 653) (by decide +kernel), List.mem_of_getElem? (i := 654) (by decide +kernel)⟩
theorem lw_p33 : lw_okq (⟨"KindStreets", "markAsLane", "(I)I"⟩, 10) := ⟨⟨by decide +kernel, by decide +kernel⟩, List.mem_of_getElem? (i := 17) (by decide +kernel), List.mem_of_getElem? (i := 658) (by decide +kernel), List.mem_of_getElem? (i := 659) (by decide +kernel)⟩
theorem lw_p34 : lw_okq (⟨"KindStreets", "markAsBoulevard", "(I)I"⟩, 10) := ⟨⟨by decide +kernel, by decide +kernel⟩, List.mem_of_getElem? (i := 17) (by decide +kernel), List.mem_of_getElem? (i := 663) (by decide +kernel), List.mem_of_getElem? (i := 664) (by decide +kernel)⟩
theorem lw_p35 : lw_okq (⟨"KindStreets", "markAsCourt", "(I)I"⟩, 10) := ⟨⟨by decide +kernel, by decide +kernel⟩, List.mem_of_getElem? (i := 17) (by decide +kernel), List.mem_of_getElem? (i := 668) (by decide +kernel), List.mem_of_getElem? (i := 669) (by decide +kernel)⟩
theorem lw_p36 : lw_okq (⟨"KindStreets", "markAsAlley", "(I)I"⟩, 10) := ⟨⟨by decide +kernel, by decide +kernel⟩, List.mem_of_getElem? (i := 17) (by decide +kernel), List.mem_of_getElem? (i := 673) (by decide +kernel), List.mem_of_getElem? (i := 674) (by decide +kernel)⟩
theorem lw_p37 : lw_okq (⟨"KindStreetsModel", "read", "()V"⟩, 26) := ⟨⟨by decide +kernel, by decide +kernel⟩, List.mem_of_getElem? (i := 698) (by decide +kernel), List.mem_of_getElem? (i := 800) (by decide +kernel), List.mem_of_getElem? (i := 801) (by decide +kernel)⟩
theorem lw_p38 : lw_okq (⟨"KindStreetsModel", "step", "()V"⟩, 26) := ⟨⟨by decide +kernel, by decide +kernel⟩, List.mem_of_getElem? (i := 698) (by decide +kernel), List.mem_of_getElem? (i := 804) (by decide +kernel), List.mem_of_getElem? (i := 805) (by decide +kernel)⟩
theorem lw_p39 : lw_okq (⟨"KindStreetsModel", "here", "()I"⟩, 26) := ⟨⟨by decide +kernel, by decide +kernel⟩, List.mem_of_getElem? (i := 698) (by decide +kernel), List.mem_of_getElem? (i := 808) (by decide +kernel), List.mem_of_getElem? (i := 809) (by decide +kernel)⟩
theorem lw_p40 : lw_okq (⟨"KindStreetsModel", "may", "(I)Z"⟩, 26) := ⟨⟨by decide +kernel, by decide +kernel⟩, List.mem_of_getElem? (i := 698) (by decide +kernel), List.mem_of_getElem? (i := 812) (by decide +kernel), List.mem_of_getElem? (i := 813) (by decide +kernel)⟩
theorem lw_p41 : lw_okq (⟨"KindStreetsModel", "due", "(Z)V"⟩, 26) := ⟨⟨by decide +kernel, by decide +kernel⟩, List.mem_of_getElem? (i := 698) (by decide +kernel), List.mem_of_getElem? (i := 816) (by decide +kernel), List.mem_of_getElem? (i := 817) (by decide +kernel)⟩
theorem lw_p42 : lw_okq (⟨"KindStreetsModel", "item", "(I)V"⟩, 26) := ⟨⟨by decide +kernel, by decide +kernel⟩, List.mem_of_getElem? (i := 698) (by decide +kernel), List.mem_of_getElem? (i := 820) (by decide +kernel), List.mem_of_getElem? (i := 821) (by decide +kernel)⟩
theorem lw_p43 : lw_okq (⟨"KindStreetsModel", "number", "(II)I"⟩, 26) := ⟨⟨by decide +kernel, by decide +kernel⟩, List.mem_of_getElem? (i := 698) (by decide +kernel), List.mem_of_getElem? (i := 824) (by decide +kernel), List.mem_of_getElem? (i := 825) (by decide +kernel)⟩
theorem lw_p44 : lw_okq (⟨"KindStreetsModel", "isStreet", "(I)Z"⟩, 26) := ⟨⟨by decide +kernel, by decide +kernel⟩, List.mem_of_getElem? (i := 698) (by decide +kernel), List.mem_of_getElem? (i := 832) (by decide +kernel), List.mem_of_getElem? (i := 833) (by decide +kernel)⟩
theorem lw_p45 : lw_okq (⟨"KindStreetsModel", "widthOf", "(I)I"⟩, 26) := ⟨⟨by decide +kernel, by decide +kernel⟩, List.mem_of_getElem? (i := 698) (by decide +kernel), List.mem_of_getElem? (i := 836) (by decide +kernel), List.mem_of_getElem? (i := 837) (by decide +kernel)⟩
theorem lw_p46 : lw_okq (⟨"KindStreetsModel", "livingIn", "(I)I"⟩, 26) := ⟨⟨by decide +kernel, by decide +kernel⟩, List.mem_of_getElem? (i := 698) (by decide +kernel), List.mem_of_getElem? (i := 840) (by decide +kernel), List.mem_of_getElem? (i := 841) (by decide +kernel)⟩
theorem lw_p47 : lw_okq (⟨"KindStreetsModel", "isPerson", "(I)Z"⟩, 26) := ⟨⟨by decide +kernel, by decide +kernel⟩, List.mem_of_getElem? (i := 698) (by decide +kernel), List.mem_of_getElem? (i := 848) (by decide +kernel), List.mem_of_getElem? (i := 849) (by decide +kernel)⟩
def lw_privs_3 : List (MethodName × Nat) := [(⟨"KindStreets", "markAsCross", "(I)I"⟩, 10), (⟨"KindStreets", "markAsLane", "(I)I"⟩, 10), (⟨"KindStreets", "markAsBoulevard", "(I)I"⟩, 10), (⟨"KindStreets", "markAsCourt", "(I)I"⟩, 10), (⟨"KindStreets", "markAsAlley", "(I)I"⟩, 10), (⟨"KindStreetsModel", "read", "()V"⟩, 26), (⟨"KindStreetsModel", "step", "()V"⟩, 26), (⟨"KindStreetsModel", "here", "()I"⟩, 26), (⟨"KindStreetsModel", "may", "(I)Z"⟩, 26), (⟨"KindStreetsModel", "due", "(Z)V"⟩, 26), (⟨"KindStreetsModel", "item", "(I)V"⟩, 26), (⟨"KindStreetsModel", "number", "(II)I"⟩, 26), (⟨"KindStreetsModel", "isStreet", "(I)Z"⟩, 26), (⟨"KindStreetsModel", "widthOf", "(I)I"⟩, 26), (⟨"KindStreetsModel", "livingIn", "(I)I"⟩, 26), (⟨"KindStreetsModel", "isPerson", "(I)Z"⟩, 26)]
theorem lw_r3 : ∀ q ∈ lw_privs_3, lw_okq q := List.forall_mem_cons.mpr ⟨lw_p32, List.forall_mem_cons.mpr ⟨lw_p33, List.forall_mem_cons.mpr ⟨lw_p34, List.forall_mem_cons.mpr ⟨lw_p35, List.forall_mem_cons.mpr ⟨lw_p36, List.forall_mem_cons.mpr ⟨lw_p37, List.forall_mem_cons.mpr ⟨lw_p38, List.forall_mem_cons.mpr ⟨lw_p39, List.forall_mem_cons.mpr ⟨lw_p40, List.forall_mem_cons.mpr ⟨lw_p41, List.forall_mem_cons.mpr ⟨lw_p42, List.forall_mem_cons.mpr ⟨lw_p43, List.forall_mem_cons.mpr ⟨lw_p44, List.forall_mem_cons.mpr ⟨lw_p45, List.forall_mem_cons.mpr ⟨lw_p46, List.forall_mem_cons.mpr ⟨lw_p47, fun _ h => absurd h List.not_mem_nil⟩⟩⟩⟩⟩⟩⟩⟩⟩⟩⟩⟩⟩⟩⟩⟩
theorem lw_p48 : lw_okq (⟨"KindStreetsModel", "witnesses", "(I)I"⟩, 26) := ⟨⟨by decide +kernel, by decide +kernel⟩, List.mem_of_getElem? (i := 698) (by decide +kernel), List.mem_of_getElem? (i := 852) (by decide +kernel), List.mem_of_getElem? (i := 853) (by decide +kernel)⟩
theorem lw_p49 : lw_okq (⟨"KindStreetsModel", "doMeet", "(II)Z"⟩, 26) := ⟨⟨by decide +kernel, by decide +kernel⟩, List.mem_of_getElem? (i := 698) (by decide +kernel), List.mem_of_getElem? (i := 856) (by decide +kernel), List.mem_of_getElem? (i := 857) (by decide +kernel)⟩
theorem lw_p50 : lw_okq (⟨"KindStreetsModel", "know", "()V"⟩, 26) := ⟨⟨by decide +kernel, by decide +kernel⟩, List.mem_of_getElem? (i := 698) (by decide +kernel), List.mem_of_getElem? (i := 864) (by decide +kernel), List.mem_of_getElem? (i := 865) (by decide +kernel)⟩
theorem lw_p51 : lw_okq (⟨"KindStreetsModel", "allWidths", "()I"⟩, 26) := ⟨⟨by decide +kernel, by decide +kernel⟩, List.mem_of_getElem? (i := 698) (by decide +kernel), List.mem_of_getElem? (i := 883) (by decide +kernel), List.mem_of_getElem? (i := 884) (by decide +kernel)⟩
theorem lw_p52 : lw_okq (⟨"KindStreetsModel", "areTwo", "(II)Z"⟩, 26) := ⟨⟨by decide +kernel, by decide +kernel⟩, List.mem_of_getElem? (i := 698) (by decide +kernel), List.mem_of_getElem? (i := 899) (by decide +kernel), List.mem_of_getElem? (i := 900) (by decide +kernel)⟩
theorem lw_p53 : lw_okq (⟨"KindStreetsModel", "isYard", "(I)Z"⟩, 26) := ⟨⟨by decide +kernel, by decide +kernel⟩, List.mem_of_getElem? (i := 698) (by decide +kernel), List.mem_of_getElem? (i := 903) (by decide +kernel), List.mem_of_getElem? (i := 904) (by decide +kernel)⟩
theorem lw_p54 : lw_okq (⟨"KindStreetsModel", "openBy", "(I)I"⟩, 26) := ⟨⟨by decide +kernel, by decide +kernel⟩, List.mem_of_getElem? (i := 698) (by decide +kernel), List.mem_of_getElem? (i := 907) (by decide +kernel), List.mem_of_getElem? (i := 908) (by decide +kernel)⟩
theorem lw_p55 : lw_okq (⟨"KindStreetsModel", "wayBy", "(III)I"⟩, 26) := ⟨⟨by decide +kernel, by decide +kernel⟩, List.mem_of_getElem? (i := 698) (by decide +kernel), List.mem_of_getElem? (i := 911) (by decide +kernel), List.mem_of_getElem? (i := 912) (by decide +kernel)⟩
theorem lw_p56 : lw_okq (⟨"KindStreetsModel", "widthsOf", "(I)I"⟩, 26) := ⟨⟨by decide +kernel, by decide +kernel⟩, List.mem_of_getElem? (i := 698) (by decide +kernel), List.mem_of_getElem? (i := 926) (by decide +kernel), List.mem_of_getElem? (i := 927) (by decide +kernel)⟩
theorem lw_p57 : lw_okq (⟨"KindStreetsModel", "tellMost", "()V"⟩, 26) := ⟨⟨by decide +kernel, by decide +kernel⟩, List.mem_of_getElem? (i := 698) (by decide +kernel), List.mem_of_getElem? (i := 942) (by decide +kernel), List.mem_of_getElem? (i := 943) (by decide +kernel)⟩
theorem lw_p58 : lw_okq (⟨"KindStreetsModel", "canHave", "(II)Z"⟩, 26) := ⟨⟨by decide +kernel, by decide +kernel⟩, List.mem_of_getElem? (i := 698) (by decide +kernel), List.mem_of_getElem? (i := 946) (by decide +kernel), List.mem_of_getElem? (i := 947) (by decide +kernel)⟩
theorem lw_p59 : lw_okq (⟨"KindStreetsModel", "isSo", "(I)Z"⟩, 26) := ⟨⟨by decide +kernel, by decide +kernel⟩, List.mem_of_getElem? (i := 698) (by decide +kernel), List.mem_of_getElem? (i := 962) (by decide +kernel), List.mem_of_getElem? (i := 963) (by decide +kernel)⟩
theorem lw_p60 : lw_okq (⟨"KindStreetsModel", "greatest", "(I)I"⟩, 26) := ⟨⟨by decide +kernel, by decide +kernel⟩, List.mem_of_getElem? (i := 698) (by decide +kernel), List.mem_of_getElem? (i := 973) (by decide +kernel), List.mem_of_getElem? (i := 974) (by decide +kernel)⟩
def lw_privs_4 : List (MethodName × Nat) := [(⟨"KindStreetsModel", "witnesses", "(I)I"⟩, 26), (⟨"KindStreetsModel", "doMeet", "(II)Z"⟩, 26), (⟨"KindStreetsModel", "know", "()V"⟩, 26), (⟨"KindStreetsModel", "allWidths", "()I"⟩, 26), (⟨"KindStreetsModel", "areTwo", "(II)Z"⟩, 26), (⟨"KindStreetsModel", "isYard", "(I)Z"⟩, 26), (⟨"KindStreetsModel", "openBy", "(I)I"⟩, 26), (⟨"KindStreetsModel", "wayBy", "(III)I"⟩, 26), (⟨"KindStreetsModel", "widthsOf", "(I)I"⟩, 26), (⟨"KindStreetsModel", "tellMost", "()V"⟩, 26), (⟨"KindStreetsModel", "canHave", "(II)Z"⟩, 26), (⟨"KindStreetsModel", "isSo", "(I)Z"⟩, 26), (⟨"KindStreetsModel", "greatest", "(I)I"⟩, 26)]
theorem lw_r4 : ∀ q ∈ lw_privs_4, lw_okq q := List.forall_mem_cons.mpr ⟨lw_p48, List.forall_mem_cons.mpr ⟨lw_p49, List.forall_mem_cons.mpr ⟨lw_p50, List.forall_mem_cons.mpr ⟨lw_p51, List.forall_mem_cons.mpr ⟨lw_p52, List.forall_mem_cons.mpr ⟨lw_p53, List.forall_mem_cons.mpr ⟨lw_p54, List.forall_mem_cons.mpr ⟨lw_p55, List.forall_mem_cons.mpr ⟨lw_p56, List.forall_mem_cons.mpr ⟨lw_p57, List.forall_mem_cons.mpr ⟨lw_p58, List.forall_mem_cons.mpr ⟨lw_p59, List.forall_mem_cons.mpr ⟨lw_p60, fun _ h => absurd h List.not_mem_nil⟩⟩⟩⟩⟩⟩⟩⟩⟩⟩⟩⟩⟩
def lw_privs : List (MethodName × Nat) := lw_privs_1 ++ (lw_privs_2 ++ (lw_privs_3 ++ (lw_privs_4)))
def lw_tbl : List Cond := k2_sels lw_privs ++ tables_1
theorem lw_privs_ok : ∀ q ∈ lw_privs, lw_okq q := by
  show ∀ q ∈ lw_privs_1 ++ (lw_privs_2 ++ (lw_privs_3 ++ (lw_privs_4))), lw_okq q
  exact List.forall_mem_append.mpr ⟨lw_r1, List.forall_mem_append.mpr ⟨lw_r2, List.forall_mem_append.mpr ⟨lw_r3, lw_r4⟩⟩⟩
end
section
/-! ===== BEGIN words of one list among another's, by their places ===== -/
theorem goodIn_r {big : List Cond} (ws : List Cond) (ps : List Nat) (hp : ws = ps.filterMap (fun i => big[i]?)) (h : ws.all goodWord = true) : GoodIn big ws := by
  intro w hw
  have h1 := List.all_eq_true.mp h w hw
  rw [hp] at hw
  obtain ⟨i, -, hi⟩ := List.mem_filterMap.mp hw
  have hm : w ∈ big := by first | exact List.mem_of_getElem? hi | exact List.getElem?_mem hi
  exact ⟨hm, good_of_word h1⟩
theorem goodIn_app {big a b : List Cond} (ha : GoodIn big a) (hb : GoodIn big b) : GoodIn big (a ++ b) := fun w h => (List.mem_append.mp h).elim (ha w) (hb w)
theorem goodIn_ca {big a b : List Cond} {c : Cond} (ha : GoodIn big (c :: a)) (hb : GoodIn big b) : GoodIn big (c :: (a ++ b)) := fun w h => (List.mem_cons.mp h).elim (fun e => ha w (List.mem_cons.mpr (Or.inl e))) (fun h => (List.mem_append.mp h).elim (fun h => ha w (List.mem_cons.mpr (Or.inr h))) (hb w))
theorem goodIn_sub {big ws : List Cond} (hm : ∀ w ∈ ws, w ∈ big) (h : ws.all goodWord = true) : GoodIn big ws := fun w hw => ⟨hm w hw, good_of_word (List.all_eq_true.mp h w hw)⟩
/-! ===== END ===== -/
/-! ===== BEGIN printed: names, fields, word lists, decode rows ===== -/
def RX0 : String := "KindStreets$Carriages"
def TX0 : u_T := fun k => match k with
  | 0 => ("KindStreets$Carriages", "given", "[I", true)
  | _ => ("KindStreets$Carriages", "plan", "LKindStreets$Plan;", true)
def tyX0 : Nat → FieldType := fun k => match k with
  | 0 => .array .int
  | _ => .object "KindStreets$Plan"
abbrev wsX00 : List Cond := u_ws RX0 TX0 2
theorem nmX0 : ∀ a, a < 2 → ∀ b, b < 2 → a ≠ b → (TX0 a).2.1 ≠ (TX0 b).2.1 := by decide +kernel
theorem tyX0_ok : ∀ k, k < 2 → parseFieldDescriptor (TX0 k).2.2.1 = some (tyX0 k) := by decide +kernel
abbrev cX0_init : ByteArray := prog_2_method_1_code
def yX0_init : MethodName := ⟨RX0, "<init>", "()V"⟩
abbrev cX0_give : ByteArray := prog_2_method_2_code
def yX0_give : MethodName := ⟨RX0, "give", "()I"⟩
abbrev cX0_lowestStreetFor : ByteArray := prog_2_method_3_code
def yX0_lowestStreetFor : MethodName := ⟨RX0, "lowestStreetFor", "(III)I"⟩
abbrev cX0_mostFrom : ByteArray := prog_2_method_4_code
def yX0_mostFrom : MethodName := ⟨RX0, "mostFrom", "(II)I"⟩
abbrev cX0_wantingFrom : ByteArray := prog_2_method_5_code
def yX0_wantingFrom : MethodName := ⟨RX0, "wantingFrom", "(II)I"⟩
abbrev cX0_freeOf : ByteArray := prog_2_method_6_code
def yX0_freeOf : MethodName := ⟨RX0, "freeOf", "(II)I"⟩
def RX1 : String := "KindStreets$Measures"
def TX1 : u_T := fun k => match k with
  | 0 => ("KindStreets$Measures", "width", "[I", true)
  | 1 => ("KindStreets$Measures", "night", "[I", true)
  | 2 => ("KindStreets$Measures", "measured", "I", false)
  | _ => ("KindStreets$Measures", "alike", "[I", true)
def tyX1 : Nat → FieldType := fun k => match k with
  | 0 => .array .int
  | 1 => .array .int
  | 2 => .int
  | _ => .array .int
abbrev wsX10 : List Cond := u_ws RX1 TX1 4
theorem nmX1 : ∀ a, a < 4 → ∀ b, b < 4 → a ≠ b → (TX1 a).2.1 ≠ (TX1 b).2.1 := by decide +kernel
theorem tyX1_ok : ∀ k, k < 4 → parseFieldDescriptor (TX1 k).2.2.1 = some (tyX1 k) := by decide +kernel
abbrev cX1_init : ByteArray := prog_3_method_1_code
def yX1_init : MethodName := ⟨RX1, "<init>", "()V"⟩
abbrev cX1_add : ByteArray := prog_3_method_2_code
def yX1_add : MethodName := ⟨RX1, "add", "(II)V"⟩
abbrev cX1_manyDeeds : ByteArray := prog_3_method_3_code
def yX1_manyDeeds : MethodName := ⟨RX1, "manyDeeds", "()I"⟩
abbrev cX1_firstDeeds : ByteArray := prog_3_method_4_code
def yX1_firstDeeds : MethodName := ⟨RX1, "firstDeeds", "()I"⟩
abbrev cX1_mostAlike : ByteArray := prog_3_method_5_code
def yX1_mostAlike : MethodName := ⟨RX1, "mostAlike", "(I)I"⟩
abbrev cX1_areSo : ByteArray := prog_3_method_6_code
def yX1_areSo : MethodName := ⟨RX1, "areSo", "(I)Z"⟩
abbrev cX1_widthBy : ByteArray := prog_3_method_7_code
def yX1_widthBy : MethodName := ⟨RX1, "widthBy", "(II)I"⟩
def RX2 : String := "KindStreets$Moment"
def TX2 : u_T := fun k => match k with
  | 0 => ("KindStreets$Moment", "seen", "[I", true)
  | 1 => ("KindStreets$Moment", "hidden", "[I", true)
  | 2 => ("KindStreets$Moment", "pretended", "[I", true)
  | 3 => ("KindStreets$Moment", "home", "[I", true)
  | _ => ("KindStreets$Moment", "night", "I", false)
def tyX2 : Nat → FieldType := fun k => match k with
  | 0 => .array .int
  | 1 => .array .int
  | 2 => .array .int
  | 3 => .array .int
  | _ => .int
abbrev wsX20 : List Cond := u_ws RX2 TX2 5
theorem nmX2 : ∀ a, a < 5 → ∀ b, b < 5 → a ≠ b → (TX2 a).2.1 ≠ (TX2 b).2.1 := by decide +kernel
theorem tyX2_ok : ∀ k, k < 5 → parseFieldDescriptor (TX2 k).2.2.1 = some (tyX2 k) := by decide +kernel
abbrev cX2_init : ByteArray := prog_4_method_1_code
def yX2_init : MethodName := ⟨RX2, "<init>", "()V"⟩
abbrev cX2_begin : ByteArray := prog_4_method_2_code
def yX2_begin : MethodName := ⟨RX2, "begin", "(LKindStreets$Town;)V"⟩
abbrev cX2_become : ByteArray := prog_4_method_3_code
def yX2_become : MethodName := ⟨RX2, "become", "(LKindStreets$Moment;)V"⟩
abbrev cX2_widthOf : ByteArray := prog_4_method_4_code
def yX2_widthOf : MethodName := ⟨RX2, "widthOf", "(I)I"⟩
abbrev cX2_widthBy : ByteArray := prog_4_method_5_code
def yX2_widthBy : MethodName := ⟨RX2, "widthBy", "(III)I"⟩
def RX3 : String := "KindStreets$Now"
def TX3 : u_T := fun k => match k with
  | 0 => ("KindStreets$Now", "moment", "LKindStreets$Moment;", true)
  | 1 => ("KindStreets$Now", "past", "[LKindStreets$Moment;", true)
  | _ => ("KindStreets$Now", "known", "I", false)
def tyX3 : Nat → FieldType := fun k => match k with
  | 0 => .object "KindStreets$Moment"
  | 1 => .array (.object "KindStreets$Moment")
  | _ => .int
abbrev wsX30 : List Cond := u_ws RX3 TX3 3
theorem nmX3 : ∀ a, a < 3 → ∀ b, b < 3 → a ≠ b → (TX3 a).2.1 ≠ (TX3 b).2.1 := by decide +kernel
theorem tyX3_ok : ∀ k, k < 3 → parseFieldDescriptor (TX3 k).2.2.1 = some (tyX3 k) := by decide +kernel
abbrev cX3_init : ByteArray := prog_5_method_1_code
def yX3_init : MethodName := ⟨RX3, "<init>", "()V"⟩
abbrev cX3_begin : ByteArray := prog_5_method_2_code
def yX3_begin : MethodName := ⟨RX3, "begin", "(LKindStreets$Town;)V"⟩
abbrev cX3_become : ByteArray := prog_5_method_3_code
def yX3_become : MethodName := ⟨RX3, "become", "(LKindStreets$Now;)V"⟩
abbrev cX3_remember : ByteArray := prog_5_method_4_code
def yX3_remember : MethodName := ⟨RX3, "remember", "()V"⟩
abbrev cX3_recall : ByteArray := prog_5_method_5_code
def yX3_recall : MethodName := ⟨RX3, "recall", "()V"⟩
abbrev cX3_loseOldest : ByteArray := prog_5_method_6_code
def yX3_loseOldest : MethodName := ⟨RX3, "loseOldest", "()V"⟩
def RX4 : String := "KindStreets$Plan"
def TX4 : u_T := fun k => match k with
  | 0 => ("KindStreets$Town", "yards", "I", false)
  | 1 => ("KindStreets$Town", "streets", "I", false)
  | 2 => ("KindStreets$Town", "citizens", "I", false)
  | 3 => ("KindStreets$Town", "one", "[I", true)
  | 4 => ("KindStreets$Town", "other", "[I", true)
  | 5 => ("KindStreets$Town", "old", "[I", true)
  | 6 => ("KindStreets$Town", "home", "[I", true)
  | 7 => ("KindStreets$Town", "wants", "[I", true)
  | _ => ("KindStreets$Plan", "width", "[I", true)
def tyX4 : Nat → FieldType := fun k => match k with
  | 0 => .int
  | 1 => .int
  | 2 => .int
  | 3 => .array .int
  | 4 => .array .int
  | 5 => .array .int
  | 6 => .array .int
  | 7 => .array .int
  | _ => .array .int
abbrev wsX40 : List Cond := u_ws RX4 TX4 9
theorem nmX4 : ∀ a, a < 9 → ∀ b, b < 9 → a ≠ b → (TX4 a).2.1 ≠ (TX4 b).2.1 := by decide +kernel
theorem tyX4_ok : ∀ k, k < 9 → parseFieldDescriptor (TX4 k).2.2.1 = some (tyX4 k) := by decide +kernel
abbrev cX4_init : ByteArray := prog_6_method_1_code
def yX4_init : MethodName := ⟨RX4, "<init>", "()V"⟩
abbrev cX4_draw : ByteArray := prog_6_method_2_code
def yX4_draw : MethodName := ⟨RX4, "draw", "(LKindStreets$Town;LKindStreets$Moment;)V"⟩
abbrev cX4_leadsOut : ByteArray := prog_6_method_3_code
def yX4_leadsOut : MethodName := ⟨RX4, "leadsOut", "(II)Z"⟩
def RX5 : String := "KindStreets$Sets"
def TX5 : u_T := fun k => match k with
  | _ => ("", "", "", false)
def tyX5 : Nat → FieldType := fun k => match k with
  | _ => .int
abbrev wsX50 : List Cond := u_ws RX5 TX5 0
theorem nmX5 : ∀ a, a < 0 → ∀ b, b < 0 → a ≠ b → (TX5 a).2.1 ≠ (TX5 b).2.1 := by decide +kernel
theorem tyX5_ok : ∀ k, k < 0 → parseFieldDescriptor (TX5 k).2.2.1 = some (tyX5 k) := by decide +kernel
abbrev cX5_has : ByteArray := prog_7_method_2_code
def yX5_has : MethodName := ⟨RX5, "has", "(II)Z"⟩
abbrev cX5_without : ByteArray := prog_7_method_3_code
def yX5_without : MethodName := ⟨RX5, "without", "(II)I"⟩
abbrev cX5_allOf : ByteArray := prog_7_method_4_code
def yX5_allOf : MethodName := ⟨RX5, "allOf", "(I)I"⟩
def RX6 : String := "KindStreets$Text"
def TX6 : u_T := fun k => match k with
  | 0 => ("KindStreets$Text", "bytes", "[I", true)
  | 1 => ("KindStreets$Text", "place", "I", false)
  | _ => ("KindStreets$Text", "length", "I", false)
def tyX6 : Nat → FieldType := fun k => match k with
  | 0 => .array .int
  | 1 => .int
  | _ => .int
abbrev wsX60 : List Cond := u_ws RX6 TX6 3
theorem nmX6 : ∀ a, a < 3 → ∀ b, b < 3 → a ≠ b → (TX6 a).2.1 ≠ (TX6 b).2.1 := by decide +kernel
theorem tyX6_ok : ∀ k, k < 3 → parseFieldDescriptor (TX6 k).2.2.1 = some (tyX6 k) := by decide +kernel
abbrev cX6_init : ByteArray := prog_8_method_1_code
def yX6_init : MethodName := ⟨RX6, "<init>", "()V"⟩
abbrev cX6_add : ByteArray := prog_8_method_2_code
def yX6_add : MethodName := ⟨RX6, "add", "(I)V"⟩
abbrev cX6_readInto : ByteArray := prog_8_method_3_code
def yX6_readInto : MethodName := ⟨RX6, "readInto", "(LKindStreets$Town;)I"⟩
abbrev cX6_readItem : ByteArray := prog_8_method_4_code
def yX6_readItem : MethodName := ⟨RX6, "readItem", "(LKindStreets$Town;Z)Z"⟩
abbrev cX6_readYards : ByteArray := prog_8_method_5_code
def yX6_readYards : MethodName := ⟨RX6, "readYards", "(LKindStreets$Town;)Z"⟩
abbrev cX6_readStreet : ByteArray := prog_8_method_6_code
def yX6_readStreet : MethodName := ⟨RX6, "readStreet", "(LKindStreets$Town;)Z"⟩
abbrev cX6_readCitizen : ByteArray := prog_8_method_7_code
def yX6_readCitizen : MethodName := ⟨RX6, "readCitizen", "(LKindStreets$Town;)Z"⟩
abbrev cX6_readEnd : ByteArray := prog_8_method_8_code
def yX6_readEnd : MethodName := ⟨RX6, "readEnd", "()Z"⟩
abbrev cX6_readNumber : ByteArray := prog_8_method_9_code
def yX6_readNumber : MethodName := ⟨RX6, "readNumber", "(III)I"⟩
abbrev cX6_digitsHere : ByteArray := prog_8_method_10_code
def yX6_digitsHere : MethodName := ⟨RX6, "digitsHere", "()I"⟩
abbrev cX6_numberOf : ByteArray := prog_8_method_11_code
def yX6_numberOf : MethodName := ⟨RX6, "numberOf", "(I)I"⟩
abbrev cX6_loneLetter : ByteArray := prog_8_method_12_code
def yX6_loneLetter : MethodName := ⟨RX6, "loneLetter", "()I"⟩
abbrev cX6_skipBlanks : ByteArray := prog_8_method_13_code
def yX6_skipBlanks : MethodName := ⟨RX6, "skipBlanks", "()V"⟩
abbrev cX6_byteAt : ByteArray := prog_8_method_14_code
def yX6_byteAt : MethodName := ⟨RX6, "byteAt", "(I)I"⟩
abbrev cX6_isDigit : ByteArray := prog_8_method_15_code
def yX6_isDigit : MethodName := ⟨RX6, "isDigit", "(I)Z"⟩
abbrev cX6_isLetter : ByteArray := prog_8_method_16_code
def yX6_isLetter : MethodName := ⟨RX6, "isLetter", "(I)Z"⟩
def RX7 : String := "KindStreets$Town"
def TX7 : u_T := fun k => match k with
  | 0 => ("KindStreets$Town", "yards", "I", false)
  | 1 => ("KindStreets$Town", "streets", "I", false)
  | 2 => ("KindStreets$Town", "citizens", "I", false)
  | 3 => ("KindStreets$Town", "one", "[I", true)
  | 4 => ("KindStreets$Town", "other", "[I", true)
  | 5 => ("KindStreets$Town", "old", "[I", true)
  | 6 => ("KindStreets$Town", "home", "[I", true)
  | _ => ("KindStreets$Town", "wants", "[I", true)
def tyX7 : Nat → FieldType := fun k => match k with
  | 0 => .int
  | 1 => .int
  | 2 => .int
  | 3 => .array .int
  | 4 => .array .int
  | 5 => .array .int
  | 6 => .array .int
  | _ => .array .int
abbrev wsX70 : List Cond := u_ws RX7 TX7 8
theorem nmX7 : ∀ a, a < 8 → ∀ b, b < 8 → a ≠ b → (TX7 a).2.1 ≠ (TX7 b).2.1 := by decide +kernel
theorem tyX7_ok : ∀ k, k < 8 → parseFieldDescriptor (TX7 k).2.2.1 = some (tyX7 k) := by decide +kernel
abbrev cX7_init : ByteArray := prog_9_method_1_code
def yX7_init : MethodName := ⟨RX7, "<init>", "()V"⟩
abbrev cX7_begin : ByteArray := prog_9_method_2_code
def yX7_begin : MethodName := ⟨RX7, "begin", "()V"⟩
abbrev cX7_become : ByteArray := prog_9_method_3_code
def yX7_become : MethodName := ⟨RX7, "become", "(LKindStreets$Town;)V"⟩
abbrev cX7_endsOf : ByteArray := prog_9_method_4_code
def yX7_endsOf : MethodName := ⟨RX7, "endsOf", "(I)I"⟩
def RX8 : String := "KindStreets$Ways"
def TX8 : u_T := fun k => match k with
  | 0 => ("KindStreets$Ways", "plan", "LKindStreets$Plan;", true)
  | _ => ("KindStreets$Ways", "price", "[I", true)
def tyX8 : Nat → FieldType := fun k => match k with
  | 0 => .object "KindStreets$Plan"
  | _ => .array .int
abbrev wsX80 : List Cond := u_ws RX8 TX8 2
theorem nmX8 : ∀ a, a < 2 → ∀ b, b < 2 → a ≠ b → (TX8 a).2.1 ≠ (TX8 b).2.1 := by decide +kernel
theorem tyX8_ok : ∀ k, k < 2 → parseFieldDescriptor (TX8 k).2.2.1 = some (tyX8 k) := by decide +kernel
abbrev cX8_init : ByteArray := prog_10_method_1_code
def yX8_init : MethodName := ⟨RX8, "<init>", "()V"⟩
abbrev cX8_widthIn : ByteArray := prog_10_method_2_code
def yX8_widthIn : MethodName := ⟨RX8, "widthIn", "(I)I"⟩
abbrev cX8_streetsIn : ByteArray := prog_10_method_3_code
def yX8_streetsIn : MethodName := ⟨RX8, "streetsIn", "(I)I"⟩
abbrev cX8_tenTo : ByteArray := prog_10_method_4_code
def yX8_tenTo : MethodName := ⟨RX8, "tenTo", "(I)I"⟩
abbrev cX8_widestWay : ByteArray := prog_10_method_5_code
def yX8_widestWay : MethodName := ⟨RX8, "widestWay", "(II)I"⟩
abbrev cX8_fewestStreets : ByteArray := prog_10_method_6_code
def yX8_fewestStreets : MethodName := ⟨RX8, "fewestStreets", "(III)I"⟩
abbrev cX8_oneStreetOn : ByteArray := prog_10_method_7_code
def yX8_oneStreetOn : MethodName := ⟨RX8, "oneStreetOn", "(II)I"⟩
abbrev cX8_leastCut : ByteArray := prog_10_method_8_code
def yX8_leastCut : MethodName := ⟨RX8, "leastCut", "(II)I"⟩
abbrev cX8_cutAround : ByteArray := prog_10_method_9_code
def yX8_cutAround : MethodName := ⟨RX8, "cutAround", "(I)I"⟩
abbrev cX8_leastPrice : ByteArray := prog_10_method_10_code
def yX8_leastPrice : MethodName := ⟨RX8, "leastPrice", "(III)I"⟩
abbrev cX8_goBothWays : ByteArray := prog_10_method_11_code
def yX8_goBothWays : MethodName := ⟨RX8, "goBothWays", "(II)V"⟩
abbrev cX8_chances : ByteArray := prog_10_method_12_code
def yX8_chances : MethodName := ⟨RX8, "chances", "(IIII)I"⟩
abbrev cX8_streetOut : ByteArray := prog_10_method_13_code
def yX8_streetOut : MethodName := ⟨RX8, "streetOut", "(II)I"⟩
def RX9 : String := "KindStreets"
def TX9 : u_T := fun k => match k with
  | 0 => ("KindStreets", "text", "LKindStreets$Text;", true)
  | 1 => ("KindStreets", "draft", "LKindStreets$Town;", true)
  | 2 => ("KindStreets", "town", "LKindStreets$Town;", true)
  | 3 => ("KindStreets", "now", "LKindStreets$Now;", true)
  | 4 => ("KindStreets", "images", "[LKindStreets$Now;", true)
  | 5 => ("KindStreets", "kept", "I", false)
  | 6 => ("KindStreets", "ways", "LKindStreets$Ways;", true)
  | 7 => ("KindStreets", "carriages", "LKindStreets$Carriages;", true)
  | 8 => ("KindStreets", "measures", "LKindStreets$Measures;", true)
  | _ => ("KindStreets", "trace", "J", false)
def tyX9 : Nat → FieldType := fun k => match k with
  | 0 => .object "KindStreets$Text"
  | 1 => .object "KindStreets$Town"
  | 2 => .object "KindStreets$Town"
  | 3 => .object "KindStreets$Now"
  | 4 => .array (.object "KindStreets$Now")
  | 5 => .int
  | 6 => .object "KindStreets$Ways"
  | 7 => .object "KindStreets$Carriages"
  | 8 => .object "KindStreets$Measures"
  | _ => .long
abbrev wsX90 : List Cond := u_ws RX9 TX9 10
theorem nmX9 : ∀ a, a < 10 → ∀ b, b < 10 → a ≠ b → (TX9 a).2.1 ≠ (TX9 b).2.1 := by decide +kernel
theorem tyX9_ok : ∀ k, k < 10 → parseFieldDescriptor (TX9 k).2.2.1 = some (tyX9 k) := by decide +kernel
abbrev cX9_init : ByteArray := prog_1_method_1_code
def yX9_init : MethodName := ⟨RX9, "<init>", "()V"⟩
abbrev cX9_type : ByteArray := prog_1_method_2_code
def yX9_type : MethodName := ⟨RX9, "type", "(I)I"⟩
abbrev cX9_clear : ByteArray := prog_1_method_3_code
def yX9_clear : MethodName := ⟨RX9, "clear", "()I"⟩
abbrev cX9_town : ByteArray := prog_1_method_4_code
def yX9_town : MethodName := ⟨RX9, "town", "()I"⟩
abbrev cX9_street : ByteArray := prog_1_method_5_code
def yX9_street : MethodName := ⟨RX9, "street", "(II)I"⟩
abbrev cX9_citizen : ByteArray := prog_1_method_6_code
def yX9_citizen : MethodName := ⟨RX9, "citizen", "(II)I"⟩
abbrev cX9_does : ByteArray := prog_1_method_7_code
def yX9_does : MethodName := ⟨RX9, "does", "(III)I"⟩
abbrev cX9_wills : ByteArray := prog_1_method_8_code
def yX9_wills : MethodName := ⟨RX9, "wills", "(I)I"⟩
abbrev cX9_moves : ByteArray := prog_1_method_9_code
def yX9_moves : MethodName := ⟨RX9, "moves", "(II)I"⟩
abbrev cX9_night : ByteArray := prog_1_method_10_code
def yX9_night : MethodName := ⟨RX9, "night", "(I)I"⟩
abbrev cX9_undo : ByteArray := prog_1_method_11_code
def yX9_undo : MethodName := ⟨RX9, "undo", "()I"⟩
abbrev cX9_now : ByteArray := prog_1_method_12_code
def yX9_now : MethodName := ⟨RX9, "now", "(I)I"⟩
abbrev cX9_widest : ByteArray := prog_1_method_13_code
def yX9_widest : MethodName := ⟨RX9, "widest", "(II)I"⟩
abbrev cX9_way : ByteArray := prog_1_method_14_code
def yX9_way : MethodName := ⟨RX9, "way", "(III)I"⟩
abbrev cX9_flow : ByteArray := prog_1_method_15_code
def yX9_flow : MethodName := ⟨RX9, "flow", "(III)I"⟩
abbrev cX9_need : ByteArray := prog_1_method_16_code
def yX9_need : MethodName := ⟨RX9, "need", "(III)I"⟩
abbrev cX9_odds : ByteArray := prog_1_method_17_code
def yX9_odds : MethodName := ⟨RX9, "odds", "(IIII)I"⟩
abbrev cX9_carriage : ByteArray := prog_1_method_18_code
def yX9_carriage : MethodName := ⟨RX9, "carriage", "(I)I"⟩
abbrev cX9_measures : ByteArray := prog_1_method_19_code
def yX9_measures : MethodName := ⟨RX9, "measures", "(II)I"⟩
abbrev cX9_forget : ByteArray := prog_1_method_20_code
def yX9_forget : MethodName := ⟨RX9, "forget", "()I"⟩
abbrev cX9_deeds : ByteArray := prog_1_method_21_code
def yX9_deeds : MethodName := ⟨RX9, "deeds", "(I)I"⟩
abbrev cX9_when : ByteArray := prog_1_method_22_code
def yX9_when : MethodName := ⟨RX9, "when", "()I"⟩
abbrev cX9_mark : ByteArray := prog_1_method_23_code
def yX9_mark : MethodName := ⟨RX9, "mark", "(II)I"⟩
abbrev cX9_keep : ByteArray := prog_1_method_24_code
def yX9_keep : MethodName := ⟨RX9, "keep", "(I)I"⟩
abbrev cX9_back : ByteArray := prog_1_method_25_code
def yX9_back : MethodName := ⟨RX9, "back", "(I)I"⟩
abbrev cX9_count : ByteArray := prog_1_method_26_code
def yX9_count : MethodName := ⟨RX9, "count", "(I)I"⟩
abbrev cX9_trace : ByteArray := prog_1_method_27_code
def yX9_trace : MethodName := ⟨RX9, "trace", "()J"⟩
abbrev cX9_markAsStreet : ByteArray := prog_1_method_28_code
def yX9_markAsStreet : MethodName := ⟨RX9, "markAsStreet", "(I)I"⟩
abbrev cX9_markAsCross : ByteArray := prog_1_method_29_code
def yX9_markAsCross : MethodName := ⟨RX9, "markAsCross", "(I)I"⟩
abbrev cX9_markAsLane : ByteArray := prog_1_method_30_code
def yX9_markAsLane : MethodName := ⟨RX9, "markAsLane", "(I)I"⟩
abbrev cX9_markAsBoulevard : ByteArray := prog_1_method_31_code
def yX9_markAsBoulevard : MethodName := ⟨RX9, "markAsBoulevard", "(I)I"⟩
abbrev cX9_markAsCourt : ByteArray := prog_1_method_32_code
def yX9_markAsCourt : MethodName := ⟨RX9, "markAsCourt", "(I)I"⟩
abbrev cX9_markAsAlley : ByteArray := prog_1_method_33_code
def yX9_markAsAlley : MethodName := ⟨RX9, "markAsAlley", "(I)I"⟩
abbrev cX9_isWithin : ByteArray := prog_1_method_34_code
def yX9_isWithin : MethodName := ⟨RX9, "isWithin", "(III)Z"⟩
abbrev cX9_isStreet : ByteArray := prog_1_method_35_code
def yX9_isStreet : MethodName := ⟨RX9, "isStreet", "(I)Z"⟩
abbrev cX9_isCitizen : ByteArray := prog_1_method_36_code
def yX9_isCitizen : MethodName := ⟨RX9, "isCitizen", "(I)Z"⟩
abbrev cX9_areUnlikeYards : ByteArray := prog_1_method_37_code
def yX9_areUnlikeYards : MethodName := ⟨RX9, "areUnlikeYards", "(II)Z"⟩
abbrev cX9_waysNow : ByteArray := prog_1_method_38_code
def yX9_waysNow : MethodName := ⟨RX9, "waysNow", "()LKindStreets$Ways;"⟩
abbrev cX9_raise : ByteArray := prog_1_method_39_code
def yX9_raise : MethodName := ⟨RX9, "raise", "([III)V"⟩
abbrev cX9_streetsAt : ByteArray := prog_1_method_40_code
def yX9_streetsAt : MethodName := ⟨RX9, "streetsAt", "(I)I"⟩
abbrev cX9_livingIn : ByteArray := prog_1_method_41_code
def yX9_livingIn : MethodName := ⟨RX9, "livingIn", "(I)I"⟩
abbrev cX9_livingInAny : ByteArray := prog_1_method_42_code
def yX9_livingInAny : MethodName := ⟨RX9, "livingInAny", "(I)I"⟩
abbrev cX9_witnessesOf : ByteArray := prog_1_method_43_code
def yX9_witnessesOf : MethodName := ⟨RX9, "witnessesOf", "(I)I"⟩
abbrev cX9_widthsTogether : ByteArray := prog_1_method_44_code
def yX9_widthsTogether : MethodName := ⟨RX9, "widthsTogether", "()I"⟩
abbrev cX9_streetsWithHidden : ByteArray := prog_1_method_45_code
def yX9_streetsWithHidden : MethodName := ⟨RX9, "streetsWithHidden", "()I"⟩
def RX10 : String := "KindStreetsModel"
def TX10 : u_T := fun k => match k with
  | 0 => ("KindStreetsModel", "text", "[B", true)
  | 1 => ("KindStreetsModel", "typed", "I", false)
  | 2 => ("KindStreetsModel", "yards", "[I", true)
  | 3 => ("KindStreetsModel", "streets", "[I", true)
  | 4 => ("KindStreetsModel", "from", "[I", true)
  | 5 => ("KindStreetsModel", "to", "[I", true)
  | 6 => ("KindStreetsModel", "old", "[I", true)
  | 7 => ("KindStreetsModel", "people", "[I", true)
  | 8 => ("KindStreetsModel", "home", "[I", true)
  | 9 => ("KindStreetsModel", "wants", "[I", true)
  | 10 => ("KindStreetsModel", "at", "I", false)
  | 11 => ("KindStreetsModel", "place", "I", false)
  | 12 => ("KindStreetsModel", "sort", "I", false)
  | 13 => ("KindStreetsModel", "value", "I", false)
  | 14 => ("KindStreetsModel", "isWrong", "Z", false)
  | 15 => ("KindStreetsModel", "items", "I", false)
  | 16 => ("KindStreetsModel", "now", "[I", true)
  | 17 => ("KindStreetsModel", "known", "[I", true)
  | 18 => ("KindStreetsModel", "before", "[I", true)
  | 19 => ("KindStreetsModel", "store", "[I", true)
  | 20 => ("KindStreetsModel", "isKept", "[Z", true)
  | 21 => ("KindStreetsModel", "most", "[I", true)
  | 22 => ("KindStreetsModel", "factWidth", "[I", true)
  | 23 => ("KindStreetsModel", "factNight", "[I", true)
  | 24 => ("KindStreetsModel", "facts", "I", false)
  | _ => ("KindStreetsModel", "trace", "J", false)
def tyX10 : Nat → FieldType := fun k => match k with
  | 0 => .array .byte
  | 1 => .int
  | 2 => .array .int
  | 3 => .array .int
  | 4 => .array .int
  | 5 => .array .int
  | 6 => .array .int
  | 7 => .array .int
  | 8 => .array .int
  | 9 => .array .int
  | 10 => .int
  | 11 => .int
  | 12 => .int
  | 13 => .int
  | 14 => .boolean
  | 15 => .int
  | 16 => .array .int
  | 17 => .array .int
  | 18 => .array .int
  | 19 => .array .int
  | 20 => .array .boolean
  | 21 => .array .int
  | 22 => .array .int
  | 23 => .array .int
  | 24 => .int
  | _ => .long
abbrev wsX100 : List Cond := u_ws RX10 TX10 26
theorem nmX10 : ∀ a, a < 26 → ∀ b, b < 26 → a ≠ b → (TX10 a).2.1 ≠ (TX10 b).2.1 := by decide +kernel
theorem tyX10_ok : ∀ k, k < 26 → parseFieldDescriptor (TX10 k).2.2.1 = some (tyX10 k) := by decide +kernel
abbrev cX10_init : ByteArray := prog_12_method_1_code
def yX10_init : MethodName := ⟨RX10, "<init>", "()V"⟩
abbrev cX10_in : ByteArray := prog_12_method_3_code
def yX10_in : MethodName := ⟨RX10, "in", "(III)Z"⟩
abbrev cX10_has : ByteArray := prog_12_method_4_code
def yX10_has : MethodName := ⟨RX10, "has", "(II)Z"⟩
abbrev cX10_bitsOf : ByteArray := prog_12_method_5_code
def yX10_bitsOf : MethodName := ⟨RX10, "bitsOf", "(I)I"⟩
abbrev cX10_type : ByteArray := prog_12_method_6_code
def yX10_type : MethodName := ⟨RX10, "type", "(I)I"⟩
abbrev cX10_clear : ByteArray := prog_12_method_7_code
def yX10_clear : MethodName := ⟨RX10, "clear", "()I"⟩
abbrev cX10_here : ByteArray := prog_12_method_8_code
def yX10_here : MethodName := ⟨RX10, "here", "()I"⟩
abbrev cX10_step : ByteArray := prog_12_method_9_code
def yX10_step : MethodName := ⟨RX10, "step", "()V"⟩
abbrev cX10_due : ByteArray := prog_12_method_10_code
def yX10_due : MethodName := ⟨RX10, "due", "(Z)V"⟩
abbrev cX10_number : ByteArray := prog_12_method_11_code
def yX10_number : MethodName := ⟨RX10, "number", "(II)I"⟩
abbrev cX10_item : ByteArray := prog_12_method_12_code
def yX10_item : MethodName := ⟨RX10, "item", "(I)V"⟩
abbrev cX10_may : ByteArray := prog_12_method_13_code
def yX10_may : MethodName := ⟨RX10, "may", "(I)Z"⟩
abbrev cX10_read : ByteArray := prog_12_method_14_code
def yX10_read : MethodName := ⟨RX10, "read", "()V"⟩
abbrev cX10_town : ByteArray := prog_12_method_15_code
def yX10_town : MethodName := ⟨RX10, "town", "()I"⟩
abbrev cX10_isYard : ByteArray := prog_12_method_16_code
def yX10_isYard : MethodName := ⟨RX10, "isYard", "(I)Z"⟩
abbrev cX10_areTwo : ByteArray := prog_12_method_17_code
def yX10_areTwo : MethodName := ⟨RX10, "areTwo", "(II)Z"⟩
abbrev cX10_isStreet : ByteArray := prog_12_method_18_code
def yX10_isStreet : MethodName := ⟨RX10, "isStreet", "(I)Z"⟩
abbrev cX10_isPerson : ByteArray := prog_12_method_19_code
def yX10_isPerson : MethodName := ⟨RX10, "isPerson", "(I)Z"⟩
abbrev cX10_widthOf : ByteArray := prog_12_method_20_code
def yX10_widthOf : MethodName := ⟨RX10, "widthOf", "(I)I"⟩
abbrev cX10_allWidths : ByteArray := prog_12_method_21_code
def yX10_allWidths : MethodName := ⟨RX10, "allWidths", "()I"⟩
abbrev cX10_livingIn : ByteArray := prog_12_method_22_code
def yX10_livingIn : MethodName := ⟨RX10, "livingIn", "(I)I"⟩
abbrev cX10_doMeet : ByteArray := prog_12_method_23_code
def yX10_doMeet : MethodName := ⟨RX10, "doMeet", "(II)Z"⟩
abbrev cX10_witnesses : ByteArray := prog_12_method_24_code
def yX10_witnesses : MethodName := ⟨RX10, "witnesses", "(I)I"⟩
abbrev cX10_street : ByteArray := prog_12_method_25_code
def yX10_street : MethodName := ⟨RX10, "street", "(II)I"⟩
abbrev cX10_citizen : ByteArray := prog_12_method_26_code
def yX10_citizen : MethodName := ⟨RX10, "citizen", "(II)I"⟩
abbrev cX10_know : ByteArray := prog_12_method_27_code
def yX10_know : MethodName := ⟨RX10, "know", "()V"⟩
abbrev cX10_does : ByteArray := prog_12_method_28_code
def yX10_does : MethodName := ⟨RX10, "does", "(III)I"⟩
abbrev cX10_wills : ByteArray := prog_12_method_29_code
def yX10_wills : MethodName := ⟨RX10, "wills", "(I)I"⟩
abbrev cX10_moves : ByteArray := prog_12_method_30_code
def yX10_moves : MethodName := ⟨RX10, "moves", "(II)I"⟩
abbrev cX10_night : ByteArray := prog_12_method_31_code
def yX10_night : MethodName := ⟨RX10, "night", "(I)I"⟩
abbrev cX10_undo : ByteArray := prog_12_method_32_code
def yX10_undo : MethodName := ⟨RX10, "undo", "()I"⟩
abbrev cX10_now : ByteArray := prog_12_method_33_code
def yX10_now : MethodName := ⟨RX10, "now", "(I)I"⟩
abbrev cX10_openBy : ByteArray := prog_12_method_34_code
def yX10_openBy : MethodName := ⟨RX10, "openBy", "(I)I"⟩
abbrev cX10_wayBy : ByteArray := prog_12_method_35_code
def yX10_wayBy : MethodName := ⟨RX10, "wayBy", "(III)I"⟩
abbrev cX10_widest : ByteArray := prog_12_method_36_code
def yX10_widest : MethodName := ⟨RX10, "widest", "(II)I"⟩
abbrev cX10_way : ByteArray := prog_12_method_37_code
def yX10_way : MethodName := ⟨RX10, "way", "(III)I"⟩
abbrev cX10_widthsOf : ByteArray := prog_12_method_38_code
def yX10_widthsOf : MethodName := ⟨RX10, "widthsOf", "(I)I"⟩
abbrev cX10_flow : ByteArray := prog_12_method_39_code
def yX10_flow : MethodName := ⟨RX10, "flow", "(III)I"⟩
abbrev cX10_need : ByteArray := prog_12_method_40_code
def yX10_need : MethodName := ⟨RX10, "need", "(III)I"⟩
abbrev cX10_odds : ByteArray := prog_12_method_41_code
def yX10_odds : MethodName := ⟨RX10, "odds", "(IIII)I"⟩
abbrev cX10_canHave : ByteArray := prog_12_method_42_code
def yX10_canHave : MethodName := ⟨RX10, "canHave", "(II)Z"⟩
abbrev cX10_tellMost : ByteArray := prog_12_method_43_code
def yX10_tellMost : MethodName := ⟨RX10, "tellMost", "()V"⟩
abbrev cX10_carriage : ByteArray := prog_12_method_44_code
def yX10_carriage : MethodName := ⟨RX10, "carriage", "(I)I"⟩
abbrev cX10_measures : ByteArray := prog_12_method_45_code
def yX10_measures : MethodName := ⟨RX10, "measures", "(II)I"⟩
abbrev cX10_forget : ByteArray := prog_12_method_46_code
def yX10_forget : MethodName := ⟨RX10, "forget", "()I"⟩
abbrev cX10_widthBy : ByteArray := prog_12_method_47_code
def yX10_widthBy : MethodName := ⟨RX10, "widthBy", "(II)I"⟩
abbrev cX10_isSo : ByteArray := prog_12_method_48_code
def yX10_isSo : MethodName := ⟨RX10, "isSo", "(I)Z"⟩
abbrev cX10_deeds : ByteArray := prog_12_method_49_code
def yX10_deeds : MethodName := ⟨RX10, "deeds", "(I)I"⟩
abbrev cX10_greatest : ByteArray := prog_12_method_50_code
def yX10_greatest : MethodName := ⟨RX10, "greatest", "(I)I"⟩
abbrev cX10_when : ByteArray := prog_12_method_51_code
def yX10_when : MethodName := ⟨RX10, "when", "()I"⟩
abbrev cX10_bodiesOf : ByteArray := prog_12_method_52_code
def yX10_bodiesOf : MethodName := ⟨RX10, "bodiesOf", "(I)I"⟩
abbrev cX10_mark : ByteArray := prog_12_method_53_code
def yX10_mark : MethodName := ⟨RX10, "mark", "(II)I"⟩
abbrev cX10_trace : ByteArray := prog_12_method_54_code
def yX10_trace : MethodName := ⟨RX10, "trace", "()J"⟩
abbrev cX10_keep : ByteArray := prog_12_method_55_code
def yX10_keep : MethodName := ⟨RX10, "keep", "(I)I"⟩
abbrev cX10_back : ByteArray := prog_12_method_56_code
def yX10_back : MethodName := ⟨RX10, "back", "(I)I"⟩
abbrev cX10_count : ByteArray := prog_12_method_57_code
def yX10_count : MethodName := ⟨RX10, "count", "(I)I"⟩
def RJ6 : String := "java/lang/Integer"
def TJ6 : u_T := fun k => match k with
  | _ => ("", "", "", false)
def tyJ6 : Nat → FieldType := fun k => match k with
  | _ => .int
abbrev wsJ60 : List Cond := u_ws RJ6 TJ6 0
theorem nmJ6 : ∀ a, a < 0 → ∀ b, b < 0 → a ≠ b → (TJ6 a).2.1 ≠ (TJ6 b).2.1 := by decide +kernel
theorem tyJ6_ok : ∀ k, k < 0 → parseFieldDescriptor (TJ6 k).2.2.1 = some (tyJ6 k) := by decide +kernel
abbrev cJ6_bitCount_0f7a4 : ByteArray := prog_13_method_49_code
def yJ6_bitCount_0f7a4 : MethodName := ⟨RJ6, "bitCount", "(I)I"⟩
def RJ9 : String := "java/lang/Math"
def TJ9 : u_T := fun k => match k with
  | _ => ("", "", "", false)
def tyJ9 : Nat → FieldType := fun k => match k with
  | _ => .int
abbrev wsJ90 : List Cond := u_ws RJ9 TJ9 0
theorem nmJ9 : ∀ a, a < 0 → ∀ b, b < 0 → a ≠ b → (TJ9 a).2.1 ≠ (TJ9 b).2.1 := by decide +kernel
theorem tyJ9_ok : ∀ k, k < 0 → parseFieldDescriptor (TJ9 k).2.2.1 = some (tyJ9 k) := by decide +kernel
abbrev cJ9_max_7cf53 : ByteArray := prog_14_method_65_code
def yJ9_max_7cf53 : MethodName := ⟨RJ9, "max", "(II)I"⟩
abbrev cJ9_min_7cf53 : ByteArray := prog_14_method_69_code
def yJ9_min_7cf53 : MethodName := ⟨RJ9, "min", "(II)I"⟩
def RJ10 : String := "java/lang/System"
def TJ10 : u_T := fun k => match k with
  | _ => ("", "", "", false)
def tyJ10 : Nat → FieldType := fun k => match k with
  | _ => .int
abbrev wsJ100 : List Cond := u_ws RJ10 TJ10 0
theorem nmJ10 : ∀ a, a < 0 → ∀ b, b < 0 → a ≠ b → (TJ10 a).2.1 ≠ (TJ10 b).2.1 := by decide +kernel
theorem tyJ10_ok : ∀ k, k < 0 → parseFieldDescriptor (TJ10 k).2.2.1 = some (tyJ10 k) := by decide +kernel
def RJ7 : String := "java/util/Arrays"
def TJ7 : u_T := fun k => match k with
  | _ => ("", "", "", false)
def tyJ7 : Nat → FieldType := fun k => match k with
  | _ => .int
abbrev wsJ70 : List Cond := u_ws RJ7 TJ7 0
theorem nmJ7 : ∀ a, a < 0 → ∀ b, b < 0 → a ≠ b → (TJ7 a).2.1 ≠ (TJ7 b).2.1 := by decide +kernel
theorem tyJ7_ok : ∀ k, k < 0 → parseFieldDescriptor (TJ7 k).2.2.1 = some (tyJ7 k) := by decide +kernel
abbrev cJ7_fill_53178 : ByteArray := prog_16_method_103_code
def yJ7_fill_53178 : MethodName := ⟨RJ7, "fill", "([II)V"⟩
def RL : String := "KindStreetsLaw"
abbrev cL_law : ByteArray := code
def yL_law : MethodName := ⟨RL, "law", "([I)Z"⟩
noncomputable def wsX7_init : List Cond := .code yX7_init cX7_init 1 none :: ([.methodLink RX7 3 objectInit, .instanceMethod objectInit, .code objectInit ⟨#[0xb1]⟩ 1 none, .fieldLink RX7 9 "KindStreets$Town" "yards" "I", .arrayClass .int, .fieldLink RX7 15 "KindStreets$Town" "one" "[I", .fieldLink RX7 19 "KindStreets$Town" "other" "[I", .fieldLink RX7 22 "KindStreets$Town" "old" "[I", .fieldLink RX7 25 "KindStreets$Town" "home" "[I", .fieldLink RX7 28 "KindStreets$Town" "wants" "[I"] ++ wsX40 ++ wsX70)
noncomputable def wsX4_init : List Cond := .code yX4_init cX4_init 1 none :: ([.arrayClass .int, .fieldLink RX4 9 "KindStreets$Plan" "width" "[I", .methodLink RX4 3 yX7_init, .instanceMethod yX7_init, .initialized RX7, .code yX7_init cX7_init 1 none, .methodLink RX7 3 objectInit, .instanceMethod objectInit, .code objectInit ⟨#[0xb1]⟩ 1 none, .fieldLink RX7 9 "KindStreets$Town" "yards" "I", .fieldLink RX7 15 "KindStreets$Town" "one" "[I", .fieldLink RX7 19 "KindStreets$Town" "other" "[I", .fieldLink RX7 22 "KindStreets$Town" "old" "[I", .fieldLink RX7 25 "KindStreets$Town" "home" "[I", .fieldLink RX7 28 "KindStreets$Town" "wants" "[I"] ++ wsX40 ++ wsX70)
noncomputable def wsX0_init : List Cond := .code yX0_init cX0_init 1 none :: ([.methodLink RX0 3 objectInit, .instanceMethod objectInit, .code objectInit ⟨#[0xb1]⟩ 1 none, .arrayClass .int, .fieldLink RX0 9 "KindStreets$Carriages" "given" "[I", .classLink RX0 15 RX4, .instantiable RX4 9, .initialized RX4, .fieldLink RX0 18 "KindStreets$Carriages" "plan" "LKindStreets$Plan;", .methodLink RX0 17 yX4_init, .instanceMethod yX4_init, .code yX4_init cX4_init 1 none, .fieldLink RX4 9 "KindStreets$Plan" "width" "[I", .methodLink RX4 3 yX7_init, .instanceMethod yX7_init, .initialized RX7, .code yX7_init cX7_init 1 none, .methodLink RX7 3 objectInit, .fieldLink RX7 9 "KindStreets$Town" "yards" "I", .fieldLink RX7 15 "KindStreets$Town" "one" "[I", .fieldLink RX7 19 "KindStreets$Town" "other" "[I", .fieldLink RX7 22 "KindStreets$Town" "old" "[I", .fieldLink RX7 25 "KindStreets$Town" "home" "[I", .fieldLink RX7 28 "KindStreets$Town" "wants" "[I"] ++ wsX00 ++ wsX40 ++ wsX70)
noncomputable def wsX5_allOf : List Cond := .code yX5_allOf cX5_allOf 1 (some .int) :: ([])
noncomputable def wsX0_wantingFrom : List Cond := .code yX0_wantingFrom cX0_wantingFrom 5 (some .int) :: ([.fieldLink RX0 18 "KindStreets$Carriages" "plan" "LKindStreets$Plan;", .fieldLink RX0 36 "KindStreets$Plan" "citizens" "I", .sameField "KindStreets$Plan" "KindStreets$Town" "citizens" "I", .fieldLink RX0 53 "KindStreets$Plan" "wants" "[I", .sameField "KindStreets$Plan" "KindStreets$Town" "wants" "[I"] ++ wsX00 ++ wsX40 ++ wsX70)
noncomputable def wsX5_has : List Cond := .code yX5_has cX5_has 2 (some .boolean) :: ([])
noncomputable def wsX0_freeOf : List Cond := .code yX0_freeOf cX0_freeOf 5 (some .int) :: ([.fieldLink RX0 18 "KindStreets$Carriages" "plan" "LKindStreets$Plan;", .fieldLink RX0 22 "KindStreets$Plan" "streets" "I", .sameField "KindStreets$Plan" "KindStreets$Town" "streets" "I", .fieldLink RX0 50 "KindStreets$Plan" "width" "[I", .methodLink RX0 46 yX5_has, .static yX5_has, .initialized RX5, .code yX5_has cX5_has 2 (some .boolean)] ++ wsX00 ++ wsX40 ++ wsX70)
noncomputable def wsX0_mostFrom_r1 : List Cond := [Cond.methodLink RX0 62 Lib.Math.min.name, Cond.static Lib.Math.min.name, Cond.initialized "java/lang/Math", Cond.code Lib.Math.min.name Lib.Math.min.code 2 (some .int), Cond.methodLink RX0 56 yX0_wantingFrom, Cond.instanceMethod yX0_wantingFrom, Cond.selects RX0 yX0_wantingFrom yX0_wantingFrom, Cond.initialized RX0, Cond.code yX0_wantingFrom cX0_wantingFrom 5 (some .int), Cond.fieldLink RX0 18 "KindStreets$Carriages" "plan" "LKindStreets$Plan;", Cond.fieldLink RX0 36 "KindStreets$Plan" "citizens" "I", Cond.sameField "KindStreets$Plan" "KindStreets$Town" "citizens" "I", Cond.fieldLink RX0 53 "KindStreets$Plan" "wants" "[I", Cond.sameField "KindStreets$Plan" "KindStreets$Town" "wants" "[I", Cond.methodLink RX0 59 yX0_freeOf, Cond.instanceMethod yX0_freeOf, Cond.selects RX0 yX0_freeOf yX0_freeOf, Cond.code yX0_freeOf cX0_freeOf 5 (some .int), Cond.fieldLink RX0 22 "KindStreets$Plan" "streets" "I", Cond.sameField "KindStreets$Plan" "KindStreets$Town" "streets" "I", Cond.fieldLink RX0 50 "KindStreets$Plan" "width" "[I", Cond.methodLink RX0 46 yX5_has, Cond.static yX5_has, Cond.initialized RX5]
noncomputable def wsX0_mostFrom_r2 : List Cond := [Cond.code yX5_has cX5_has 2 (some .boolean)]
noncomputable def wsX0_mostFrom : List Cond := .code yX0_mostFrom cX0_mostFrom 7 (some .int) :: ((wsX0_mostFrom_r1 ++ wsX0_mostFrom_r2) ++ wsX00 ++ wsX40 ++ wsX70)
noncomputable def wsX5_without : List Cond := .code yX5_without cX5_without 2 (some .int) :: ([])
noncomputable def wsX0_lowestStreetFor_r1 : List Cond := [Cond.fieldLink RX0 18 "KindStreets$Carriages" "plan" "LKindStreets$Plan;", Cond.fieldLink RX0 22 "KindStreets$Plan" "streets" "I", Cond.sameField "KindStreets$Plan" "KindStreets$Town" "streets" "I", Cond.fieldLink RX0 50 "KindStreets$Plan" "width" "[I", Cond.fieldLink RX0 53 "KindStreets$Plan" "wants" "[I", Cond.sameField "KindStreets$Plan" "KindStreets$Town" "wants" "[I", Cond.methodLink RX0 46 yX5_has, Cond.static yX5_has, Cond.initialized RX5, Cond.code yX5_has cX5_has 2 (some .boolean), Cond.methodLink RX0 43 yX5_without, Cond.static yX5_without, Cond.code yX5_without cX5_without 2 (some .int), Cond.methodLink RX0 32 yX0_mostFrom, Cond.instanceMethod yX0_mostFrom, Cond.selects RX0 yX0_mostFrom yX0_mostFrom, Cond.initialized RX0, Cond.code yX0_mostFrom cX0_mostFrom 7 (some .int), Cond.methodLink RX0 62 Lib.Math.min.name, Cond.static Lib.Math.min.name, Cond.initialized "java/lang/Math", Cond.code Lib.Math.min.name Lib.Math.min.code 2 (some .int), Cond.methodLink RX0 56 yX0_wantingFrom, Cond.instanceMethod yX0_wantingFrom]
noncomputable def wsX0_lowestStreetFor_r2 : List Cond := [Cond.selects RX0 yX0_wantingFrom yX0_wantingFrom, Cond.code yX0_wantingFrom cX0_wantingFrom 5 (some .int), Cond.fieldLink RX0 36 "KindStreets$Plan" "citizens" "I", Cond.sameField "KindStreets$Plan" "KindStreets$Town" "citizens" "I", Cond.methodLink RX0 59 yX0_freeOf, Cond.instanceMethod yX0_freeOf, Cond.selects RX0 yX0_freeOf yX0_freeOf, Cond.code yX0_freeOf cX0_freeOf 5 (some .int)]
noncomputable def wsX0_lowestStreetFor : List Cond := .code yX0_lowestStreetFor cX0_lowestStreetFor 5 (some .int) :: ((wsX0_lowestStreetFor_r1 ++ wsX0_lowestStreetFor_r2) ++ wsX00 ++ wsX40 ++ wsX70)
noncomputable def wsX0_give_r1 : List Cond := [Cond.fieldLink RX0 18 "KindStreets$Carriages" "plan" "LKindStreets$Plan;", Cond.fieldLink RX0 22 "KindStreets$Plan" "streets" "I", Cond.sameField "KindStreets$Plan" "KindStreets$Town" "streets" "I", Cond.fieldLink RX0 36 "KindStreets$Plan" "citizens" "I", Cond.sameField "KindStreets$Plan" "KindStreets$Town" "citizens" "I", Cond.fieldLink RX0 9 "KindStreets$Carriages" "given" "[I", Cond.methodLink RX0 26 yX5_allOf, Cond.static yX5_allOf, Cond.initialized RX5, Cond.code yX5_allOf cX5_allOf 1 (some .int), Cond.methodLink RX0 32 yX0_mostFrom, Cond.instanceMethod yX0_mostFrom, Cond.selects RX0 yX0_mostFrom yX0_mostFrom, Cond.initialized RX0, Cond.code yX0_mostFrom cX0_mostFrom 7 (some .int), Cond.methodLink RX0 62 Lib.Math.min.name, Cond.static Lib.Math.min.name, Cond.initialized "java/lang/Math", Cond.code Lib.Math.min.name Lib.Math.min.code 2 (some .int), Cond.methodLink RX0 56 yX0_wantingFrom, Cond.instanceMethod yX0_wantingFrom, Cond.selects RX0 yX0_wantingFrom yX0_wantingFrom, Cond.code yX0_wantingFrom cX0_wantingFrom 5 (some .int), Cond.fieldLink RX0 53 "KindStreets$Plan" "wants" "[I"]
noncomputable def wsX0_give_r2 : List Cond := [Cond.sameField "KindStreets$Plan" "KindStreets$Town" "wants" "[I", Cond.methodLink RX0 59 yX0_freeOf, Cond.instanceMethod yX0_freeOf, Cond.selects RX0 yX0_freeOf yX0_freeOf, Cond.code yX0_freeOf cX0_freeOf 5 (some .int), Cond.fieldLink RX0 50 "KindStreets$Plan" "width" "[I", Cond.methodLink RX0 46 yX5_has, Cond.static yX5_has, Cond.code yX5_has cX5_has 2 (some .boolean), Cond.methodLink RX0 39 yX0_lowestStreetFor, Cond.instanceMethod yX0_lowestStreetFor, Cond.selects RX0 yX0_lowestStreetFor yX0_lowestStreetFor, Cond.code yX0_lowestStreetFor cX0_lowestStreetFor 5 (some .int), Cond.methodLink RX0 43 yX5_without, Cond.static yX5_without, Cond.code yX5_without cX5_without 2 (some .int)]
noncomputable def wsX0_give : List Cond := .code yX0_give cX0_give 5 (some .int) :: ((wsX0_give_r1 ++ wsX0_give_r2) ++ wsX00 ++ wsX40 ++ wsX70)
noncomputable def wsX1_init : List Cond := .code yX1_init cX1_init 1 none :: ([.methodLink RX1 3 objectInit, .instanceMethod objectInit, .code objectInit ⟨#[0xb1]⟩ 1 none, .arrayClass .int, .fieldLink RX1 9 "KindStreets$Measures" "width" "[I", .fieldLink RX1 15 "KindStreets$Measures" "night" "[I", .fieldLink RX1 18 "KindStreets$Measures" "alike" "[I"] ++ wsX10)
noncomputable def wsX1_add : List Cond := .code yX1_add cX1_add 3 none :: ([.fieldLink RX1 21 "KindStreets$Measures" "measured" "I", .fieldLink RX1 9 "KindStreets$Measures" "width" "[I", .fieldLink RX1 15 "KindStreets$Measures" "night" "[I"] ++ wsX10)
noncomputable def wsX2_widthBy : List Cond := .code yX2_widthBy cX2_widthBy 3 (some .int) :: ([.methodLink RX2 50 Lib.Math.max.name, .static Lib.Math.max.name, .initialized "java/lang/Math", .code Lib.Math.max.name Lib.Math.max.code 2 (some .int)])
noncomputable def wsX1_widthBy : List Cond := .code yX1_widthBy cX1_widthBy 2 (some .int) :: ([.methodLink RX1 44 yX2_widthBy, .static yX2_widthBy, .initialized RX2, .code yX2_widthBy cX2_widthBy 3 (some .int), .methodLink RX2 50 Lib.Math.max.name, .static Lib.Math.max.name, .initialized "java/lang/Math", .code Lib.Math.max.name Lib.Math.max.code 2 (some .int)])
noncomputable def wsX1_areSo : List Cond := .code yX1_areSo cX1_areSo 3 (some .boolean) :: ([.fieldLink RX1 21 "KindStreets$Measures" "measured" "I", .fieldLink RX1 15 "KindStreets$Measures" "night" "[I", .fieldLink RX1 9 "KindStreets$Measures" "width" "[I", .methodLink RX1 35 yX1_widthBy, .static yX1_widthBy, .initialized RX1, .code yX1_widthBy cX1_widthBy 2 (some .int), .methodLink RX1 44 yX2_widthBy, .static yX2_widthBy, .initialized RX2, .code yX2_widthBy cX2_widthBy 3 (some .int), .methodLink RX2 50 Lib.Math.max.name, .static Lib.Math.max.name, .initialized "java/lang/Math", .code Lib.Math.max.name Lib.Math.max.code 2 (some .int)] ++ wsX10)
noncomputable def wsX1_manyDeeds : List Cond := .code yX1_manyDeeds cX1_manyDeeds 3 (some .int) :: ([.methodLink RX1 25 yX1_areSo, .instanceMethod yX1_areSo, .selects RX1 yX1_areSo yX1_areSo, .initialized RX1, .code yX1_areSo cX1_areSo 3 (some .boolean), .fieldLink RX1 21 "KindStreets$Measures" "measured" "I", .fieldLink RX1 15 "KindStreets$Measures" "night" "[I", .fieldLink RX1 9 "KindStreets$Measures" "width" "[I", .methodLink RX1 35 yX1_widthBy, .static yX1_widthBy, .code yX1_widthBy cX1_widthBy 2 (some .int), .methodLink RX1 44 yX2_widthBy, .static yX2_widthBy, .initialized RX2, .code yX2_widthBy cX2_widthBy 3 (some .int), .methodLink RX2 50 Lib.Math.max.name, .static Lib.Math.max.name, .initialized "java/lang/Math", .code Lib.Math.max.name Lib.Math.max.code 2 (some .int)] ++ wsX10)
noncomputable def wsX1_firstDeeds : List Cond := .code yX1_firstDeeds cX1_firstDeeds 2 (some .int) :: ([.methodLink RX1 25 yX1_areSo, .instanceMethod yX1_areSo, .selects RX1 yX1_areSo yX1_areSo, .initialized RX1, .code yX1_areSo cX1_areSo 3 (some .boolean), .fieldLink RX1 21 "KindStreets$Measures" "measured" "I", .fieldLink RX1 15 "KindStreets$Measures" "night" "[I", .fieldLink RX1 9 "KindStreets$Measures" "width" "[I", .methodLink RX1 35 yX1_widthBy, .static yX1_widthBy, .code yX1_widthBy cX1_widthBy 2 (some .int), .methodLink RX1 44 yX2_widthBy, .static yX2_widthBy, .initialized RX2, .code yX2_widthBy cX2_widthBy 3 (some .int), .methodLink RX2 50 Lib.Math.max.name, .static Lib.Math.max.name, .initialized "java/lang/Math", .code Lib.Math.max.name Lib.Math.max.code 2 (some .int)] ++ wsX10)
noncomputable def wsJ7_fill_53178 : List Cond := .code yJ7_fill_53178 cJ7_fill_53178 4 none :: ([])
noncomputable def wsX1_mostAlike_r1 : List Cond := [Cond.fieldLink RX1 18 "KindStreets$Measures" "alike" "[I", Cond.methodLink RX1 39 Lib.Math.max.name, Cond.static Lib.Math.max.name, Cond.initialized "java/lang/Math", Cond.code Lib.Math.max.name Lib.Math.max.code 2 (some .int), Cond.methodLink RX1 29 yJ7_fill_53178, Cond.static yJ7_fill_53178, Cond.initialized RJ7, Cond.code yJ7_fill_53178 cJ7_fill_53178 4 none, Cond.methodLink RX1 25 yX1_areSo, Cond.instanceMethod yX1_areSo, Cond.selects RX1 yX1_areSo yX1_areSo, Cond.initialized RX1, Cond.code yX1_areSo cX1_areSo 3 (some .boolean), Cond.fieldLink RX1 21 "KindStreets$Measures" "measured" "I", Cond.fieldLink RX1 15 "KindStreets$Measures" "night" "[I", Cond.fieldLink RX1 9 "KindStreets$Measures" "width" "[I", Cond.methodLink RX1 35 yX1_widthBy, Cond.static yX1_widthBy, Cond.code yX1_widthBy cX1_widthBy 2 (some .int), Cond.methodLink RX1 44 yX2_widthBy, Cond.static yX2_widthBy, Cond.initialized RX2, Cond.code yX2_widthBy cX2_widthBy 3 (some .int)]
noncomputable def wsX1_mostAlike_r2 : List Cond := [Cond.methodLink RX2 50 Lib.Math.max.name]
noncomputable def wsX1_mostAlike : List Cond := .code yX1_mostAlike cX1_mostAlike 5 (some .int) :: ((wsX1_mostAlike_r1 ++ wsX1_mostAlike_r2) ++ wsX10)
noncomputable def wsX2_init : List Cond := .code yX2_init cX2_init 1 none :: ([.methodLink RX2 3 objectInit, .instanceMethod objectInit, .code objectInit ⟨#[0xb1]⟩ 1 none, .arrayClass .int, .fieldLink RX2 9 "KindStreets$Moment" "seen" "[I", .fieldLink RX2 15 "KindStreets$Moment" "hidden" "[I", .fieldLink RX2 18 "KindStreets$Moment" "pretended" "[I", .fieldLink RX2 21 "KindStreets$Moment" "home" "[I"] ++ wsX20)
noncomputable def wsX2_begin : List Cond := .code yX2_begin cX2_begin 2 none :: ([.fieldLink RX2 24 "KindStreets$Town" "old" "[I", .fieldLink RX2 9 "KindStreets$Moment" "seen" "[I", .methodLink RX2 29 arraycopyName, .native arraycopyName, .static arraycopyName, .initialized "java/lang/System", .fieldLink RX2 15 "KindStreets$Moment" "hidden" "[I", .fieldLink RX2 18 "KindStreets$Moment" "pretended" "[I", .fieldLink RX2 41 "KindStreets$Town" "home" "[I", .fieldLink RX2 21 "KindStreets$Moment" "home" "[I", .fieldLink RX2 42 "KindStreets$Moment" "night" "I", .methodLink RX2 35 yJ7_fill_53178, .static yJ7_fill_53178, .initialized RJ7, .code yJ7_fill_53178 cJ7_fill_53178 4 none] ++ wsX40 ++ wsX70 ++ wsX20)
noncomputable def wsX2_become : List Cond := .code yX2_become cX2_become 2 none :: ([.fieldLink RX2 9 "KindStreets$Moment" "seen" "[I", .methodLink RX2 29 arraycopyName, .native arraycopyName, .static arraycopyName, .initialized "java/lang/System", .fieldLink RX2 15 "KindStreets$Moment" "hidden" "[I", .fieldLink RX2 18 "KindStreets$Moment" "pretended" "[I", .fieldLink RX2 21 "KindStreets$Moment" "home" "[I", .fieldLink RX2 42 "KindStreets$Moment" "night" "I"] ++ wsX20)
noncomputable def wsX2_widthOf : List Cond := .code yX2_widthOf cX2_widthOf 2 (some .int) :: ([.fieldLink RX2 9 "KindStreets$Moment" "seen" "[I", .fieldLink RX2 18 "KindStreets$Moment" "pretended" "[I", .fieldLink RX2 42 "KindStreets$Moment" "night" "I", .methodLink RX2 46 yX2_widthBy, .static yX2_widthBy, .initialized RX2, .code yX2_widthBy cX2_widthBy 3 (some .int), .methodLink RX2 50 Lib.Math.max.name, .static Lib.Math.max.name, .initialized "java/lang/Math", .code Lib.Math.max.name Lib.Math.max.code 2 (some .int)] ++ wsX20)
noncomputable def wsX3_init : List Cond := .code yX3_init cX3_init 2 none :: ([.methodLink RX3 3 objectInit, .instanceMethod objectInit, .code objectInit ⟨#[0xb1]⟩ 1 none, .classLink RX3 9 RX2, .instantiable RX2 5, .initialized RX2, .fieldLink RX3 12 "KindStreets$Now" "moment" "LKindStreets$Moment;", .fieldLink RX3 18 "KindStreets$Now" "past" "[LKindStreets$Moment;", .methodLink RX3 11 yX2_init, .instanceMethod yX2_init, .code yX2_init cX2_init 1 none, .methodLink RX2 3 objectInit, .arrayClass .int, .fieldLink RX2 9 "KindStreets$Moment" "seen" "[I", .fieldLink RX2 15 "KindStreets$Moment" "hidden" "[I", .fieldLink RX2 18 "KindStreets$Moment" "pretended" "[I", .fieldLink RX2 21 "KindStreets$Moment" "home" "[I"] ++ wsX20 ++ wsX30)
noncomputable def wsX3_begin : List Cond := .code yX3_begin cX3_begin 2 none :: ([.fieldLink RX3 12 "KindStreets$Now" "moment" "LKindStreets$Moment;", .fieldLink RX3 26 "KindStreets$Now" "known" "I", .methodLink RX3 22 yX2_begin, .instanceMethod yX2_begin, .selects RX2 yX2_begin yX2_begin, .initialized RX2, .code yX2_begin cX2_begin 2 none, .fieldLink RX2 24 "KindStreets$Town" "old" "[I", .fieldLink RX2 9 "KindStreets$Moment" "seen" "[I", .methodLink RX2 29 arraycopyName, .native arraycopyName, .static arraycopyName, .initialized "java/lang/System", .fieldLink RX2 15 "KindStreets$Moment" "hidden" "[I", .fieldLink RX2 18 "KindStreets$Moment" "pretended" "[I", .fieldLink RX2 41 "KindStreets$Town" "home" "[I", .fieldLink RX2 21 "KindStreets$Moment" "home" "[I", .fieldLink RX2 42 "KindStreets$Moment" "night" "I", .methodLink RX2 35 yJ7_fill_53178, .static yJ7_fill_53178, .initialized RJ7, .code yJ7_fill_53178 cJ7_fill_53178 4 none] ++ wsX30 ++ wsX40 ++ wsX70 ++ wsX20)
noncomputable def wsX3_become : List Cond := .code yX3_become cX3_become 3 none :: ([.fieldLink RX3 12 "KindStreets$Now" "moment" "LKindStreets$Moment;", .fieldLink RX3 18 "KindStreets$Now" "past" "[LKindStreets$Moment;", .fieldLink RX3 26 "KindStreets$Now" "known" "I", .methodLink RX3 30 yX2_become, .instanceMethod yX2_become, .selects RX2 yX2_become yX2_become, .initialized RX2, .code yX2_become cX2_become 2 none, .fieldLink RX2 9 "KindStreets$Moment" "seen" "[I", .methodLink RX2 29 arraycopyName, .native arraycopyName, .static arraycopyName, .initialized "java/lang/System", .fieldLink RX2 15 "KindStreets$Moment" "hidden" "[I", .fieldLink RX2 18 "KindStreets$Moment" "pretended" "[I", .fieldLink RX2 21 "KindStreets$Moment" "home" "[I", .fieldLink RX2 42 "KindStreets$Moment" "night" "I"] ++ wsX30 ++ wsX20)
noncomputable def wsX3_loseOldest : List Cond := .code yX3_loseOldest cX3_loseOldest 3 none :: ([.fieldLink RX3 18 "KindStreets$Now" "past" "[LKindStreets$Moment;", .fieldLink RX3 26 "KindStreets$Now" "known" "I"] ++ wsX30)
noncomputable def wsX3_remember : List Cond := .code yX3_remember cX3_remember 1 none :: ([.fieldLink RX3 26 "KindStreets$Now" "known" "I", .fieldLink RX3 18 "KindStreets$Now" "past" "[LKindStreets$Moment;", .fieldLink RX3 12 "KindStreets$Now" "moment" "LKindStreets$Moment;", .methodLink RX3 34 yX3_loseOldest, .instanceMethod yX3_loseOldest, .selects RX3 yX3_loseOldest yX3_loseOldest, .initialized RX3, .code yX3_loseOldest cX3_loseOldest 3 none, .methodLink RX3 30 yX2_become, .instanceMethod yX2_become, .selects RX2 yX2_become yX2_become, .initialized RX2, .code yX2_become cX2_become 2 none, .fieldLink RX2 9 "KindStreets$Moment" "seen" "[I", .methodLink RX2 29 arraycopyName, .native arraycopyName, .static arraycopyName, .initialized "java/lang/System", .fieldLink RX2 15 "KindStreets$Moment" "hidden" "[I", .fieldLink RX2 18 "KindStreets$Moment" "pretended" "[I", .fieldLink RX2 21 "KindStreets$Moment" "home" "[I", .fieldLink RX2 42 "KindStreets$Moment" "night" "I"] ++ wsX30 ++ wsX20)
noncomputable def wsX3_recall : List Cond := .code yX3_recall cX3_recall 1 none :: ([.fieldLink RX3 26 "KindStreets$Now" "known" "I", .fieldLink RX3 12 "KindStreets$Now" "moment" "LKindStreets$Moment;", .fieldLink RX3 18 "KindStreets$Now" "past" "[LKindStreets$Moment;", .methodLink RX3 30 yX2_become, .instanceMethod yX2_become, .selects RX2 yX2_become yX2_become, .initialized RX2, .code yX2_become cX2_become 2 none, .fieldLink RX2 9 "KindStreets$Moment" "seen" "[I", .methodLink RX2 29 arraycopyName, .native arraycopyName, .static arraycopyName, .initialized "java/lang/System", .fieldLink RX2 15 "KindStreets$Moment" "hidden" "[I", .fieldLink RX2 18 "KindStreets$Moment" "pretended" "[I", .fieldLink RX2 21 "KindStreets$Moment" "home" "[I", .fieldLink RX2 42 "KindStreets$Moment" "night" "I"] ++ wsX30 ++ wsX20)
noncomputable def wsX7_become : List Cond := .code yX7_become cX7_become 2 none :: ([.fieldLink RX7 9 "KindStreets$Town" "yards" "I", .fieldLink RX7 31 "KindStreets$Town" "streets" "I", .fieldLink RX7 34 "KindStreets$Town" "citizens" "I", .fieldLink RX7 15 "KindStreets$Town" "one" "[I", .methodLink RX7 37 arraycopyName, .native arraycopyName, .static arraycopyName, .initialized "java/lang/System", .fieldLink RX7 19 "KindStreets$Town" "other" "[I", .fieldLink RX7 22 "KindStreets$Town" "old" "[I", .fieldLink RX7 25 "KindStreets$Town" "home" "[I", .fieldLink RX7 28 "KindStreets$Town" "wants" "[I"] ++ wsX40 ++ wsX70)
noncomputable def wsX4_draw_r1 : List Cond := [Cond.fieldLink RX4 19 "KindStreets$Town" "streets" "I", Cond.fieldLink RX4 9 "KindStreets$Plan" "width" "[I", Cond.methodLink RX4 15 ⟨"KindStreets$Plan", "become", "(LKindStreets$Town;)V"⟩, Cond.sameMethod "KindStreets$Plan" "KindStreets$Town" "become" "(LKindStreets$Town;)V", Cond.selects RX4 ⟨"KindStreets$Plan", "become", "(LKindStreets$Town;)V"⟩ yX7_become, Cond.instanceMethod yX7_become, Cond.initialized RX7, Cond.code yX7_become cX7_become 2 none, Cond.fieldLink RX7 9 "KindStreets$Town" "yards" "I", Cond.fieldLink RX7 31 "KindStreets$Town" "streets" "I", Cond.fieldLink RX7 34 "KindStreets$Town" "citizens" "I", Cond.fieldLink RX7 15 "KindStreets$Town" "one" "[I", Cond.methodLink RX7 37 arraycopyName, Cond.native arraycopyName, Cond.static arraycopyName, Cond.initialized "java/lang/System", Cond.fieldLink RX7 19 "KindStreets$Town" "other" "[I", Cond.fieldLink RX7 22 "KindStreets$Town" "old" "[I", Cond.fieldLink RX7 25 "KindStreets$Town" "home" "[I", Cond.fieldLink RX7 28 "KindStreets$Town" "wants" "[I", Cond.methodLink RX4 23 yX2_widthOf, Cond.instanceMethod yX2_widthOf, Cond.selects RX2 yX2_widthOf yX2_widthOf, Cond.initialized RX2]
noncomputable def wsX4_draw_r2 : List Cond := [Cond.code yX2_widthOf cX2_widthOf 2 (some .int), Cond.fieldLink RX2 9 "KindStreets$Moment" "seen" "[I", Cond.fieldLink RX2 18 "KindStreets$Moment" "pretended" "[I", Cond.fieldLink RX2 42 "KindStreets$Moment" "night" "I", Cond.methodLink RX2 46 yX2_widthBy, Cond.static yX2_widthBy, Cond.code yX2_widthBy cX2_widthBy 3 (some .int), Cond.methodLink RX2 50 Lib.Math.max.name, Cond.static Lib.Math.max.name, Cond.initialized "java/lang/Math", Cond.code Lib.Math.max.name Lib.Math.max.code 2 (some .int)]
noncomputable def wsX4_draw : List Cond := .code yX4_draw cX4_draw 4 none :: ((wsX4_draw_r1 ++ wsX4_draw_r2) ++ wsX40 ++ wsX70 ++ wsX20)
noncomputable def wsX4_leadsOut : List Cond := .code yX4_leadsOut cX4_leadsOut 3 (some .boolean) :: ([.fieldLink RX4 29 "KindStreets$Plan" "one" "[I", .sameField "KindStreets$Plan" "KindStreets$Town" "one" "[I", .fieldLink RX4 38 "KindStreets$Plan" "other" "[I", .sameField "KindStreets$Plan" "KindStreets$Town" "other" "[I", .methodLink RX4 32 yX5_has, .static yX5_has, .initialized RX5, .code yX5_has cX5_has 2 (some .boolean)] ++ wsX40 ++ wsX70)
noncomputable def wsX6_init : List Cond := .code yX6_init cX6_init 1 none :: ([.methodLink RX6 3 objectInit, .instanceMethod objectInit, .code objectInit ⟨#[0xb1]⟩ 1 none, .arrayClass .int, .fieldLink RX6 9 "KindStreets$Text" "bytes" "[I"] ++ wsX60)
noncomputable def wsX6_add : List Cond := .code yX6_add cX6_add 2 none :: ([.fieldLink RX6 15 "KindStreets$Text" "length" "I", .fieldLink RX6 9 "KindStreets$Text" "bytes" "[I"] ++ wsX60)
noncomputable def wsX7_begin : List Cond := .code yX7_begin cX7_begin 1 none :: ([.fieldLink RX7 9 "KindStreets$Town" "yards" "I", .fieldLink RX7 31 "KindStreets$Town" "streets" "I", .fieldLink RX7 34 "KindStreets$Town" "citizens" "I"] ++ wsX40 ++ wsX70)
noncomputable def wsX6_byteAt : List Cond := .code yX6_byteAt cX6_byteAt 2 (some .int) :: ([.fieldLink RX6 15 "KindStreets$Text" "length" "I", .fieldLink RX6 9 "KindStreets$Text" "bytes" "[I"] ++ wsX60)
noncomputable def wsX6_skipBlanks : List Cond := .code yX6_skipBlanks cX6_skipBlanks 1 none :: ([.fieldLink RX6 24 "KindStreets$Text" "place" "I", .fieldLink RX6 15 "KindStreets$Text" "length" "I", .methodLink RX6 80 yX6_byteAt, .instanceMethod yX6_byteAt, .selects RX6 yX6_byteAt yX6_byteAt, .initialized RX6, .code yX6_byteAt cX6_byteAt 2 (some .int), .fieldLink RX6 9 "KindStreets$Text" "bytes" "[I"] ++ wsX60)
noncomputable def wsX6_isLetter : List Cond := .code yX6_isLetter cX6_isLetter 1 (some .boolean) :: ([])
noncomputable def wsX6_loneLetter : List Cond := .code yX6_loneLetter cX6_loneLetter 1 (some .int) :: ([.fieldLink RX6 24 "KindStreets$Text" "place" "I", .methodLink RX6 80 yX6_byteAt, .instanceMethod yX6_byteAt, .selects RX6 yX6_byteAt yX6_byteAt, .initialized RX6, .code yX6_byteAt cX6_byteAt 2 (some .int), .fieldLink RX6 15 "KindStreets$Text" "length" "I", .fieldLink RX6 9 "KindStreets$Text" "bytes" "[I", .methodLink RX6 94 yX6_isLetter, .static yX6_isLetter, .code yX6_isLetter cX6_isLetter 1 (some .boolean)] ++ wsX60)
noncomputable def wsX6_isDigit : List Cond := .code yX6_isDigit cX6_isDigit 1 (some .boolean) :: ([])
noncomputable def wsX6_digitsHere : List Cond := .code yX6_digitsHere cX6_digitsHere 2 (some .int) :: ([.fieldLink RX6 24 "KindStreets$Text" "place" "I", .methodLink RX6 80 yX6_byteAt, .instanceMethod yX6_byteAt, .selects RX6 yX6_byteAt yX6_byteAt, .initialized RX6, .code yX6_byteAt cX6_byteAt 2 (some .int), .fieldLink RX6 15 "KindStreets$Text" "length" "I", .fieldLink RX6 9 "KindStreets$Text" "bytes" "[I", .methodLink RX6 90 yX6_isDigit, .static yX6_isDigit, .code yX6_isDigit cX6_isDigit 1 (some .boolean)] ++ wsX60)
noncomputable def wsX6_numberOf : List Cond := .code yX6_numberOf cX6_numberOf 2 (some .int) :: ([.fieldLink RX6 24 "KindStreets$Text" "place" "I", .methodLink RX6 80 yX6_byteAt, .instanceMethod yX6_byteAt, .selects RX6 yX6_byteAt yX6_byteAt, .initialized RX6, .code yX6_byteAt cX6_byteAt 2 (some .int), .fieldLink RX6 15 "KindStreets$Text" "length" "I", .fieldLink RX6 9 "KindStreets$Text" "bytes" "[I"] ++ wsX60)
noncomputable def wsX6_readNumber : List Cond := .code yX6_readNumber cX6_readNumber 6 (some .int) :: ([.fieldLink RX6 24 "KindStreets$Text" "place" "I", .methodLink RX6 27 yX6_skipBlanks, .instanceMethod yX6_skipBlanks, .selects RX6 yX6_skipBlanks yX6_skipBlanks, .initialized RX6, .code yX6_skipBlanks cX6_skipBlanks 1 none, .fieldLink RX6 15 "KindStreets$Text" "length" "I", .methodLink RX6 80 yX6_byteAt, .instanceMethod yX6_byteAt, .selects RX6 yX6_byteAt yX6_byteAt, .code yX6_byteAt cX6_byteAt 2 (some .int), .fieldLink RX6 9 "KindStreets$Text" "bytes" "[I", .methodLink RX6 84 yX6_digitsHere, .instanceMethod yX6_digitsHere, .selects RX6 yX6_digitsHere yX6_digitsHere, .code yX6_digitsHere cX6_digitsHere 2 (some .int), .methodLink RX6 90 yX6_isDigit, .static yX6_isDigit, .code yX6_isDigit cX6_isDigit 1 (some .boolean), .methodLink RX6 87 yX6_numberOf, .instanceMethod yX6_numberOf, .selects RX6 yX6_numberOf yX6_numberOf, .code yX6_numberOf cX6_numberOf 2 (some .int)] ++ wsX60)
noncomputable def wsX6_readYards_r1 : List Cond := [Cond.fieldLink RX6 62 "KindStreets$Town" "yards" "I", Cond.methodLink RX6 58 yX6_readNumber, Cond.instanceMethod yX6_readNumber, Cond.selects RX6 yX6_readNumber yX6_readNumber, Cond.initialized RX6, Cond.code yX6_readNumber cX6_readNumber 6 (some .int), Cond.fieldLink RX6 24 "KindStreets$Text" "place" "I", Cond.methodLink RX6 27 yX6_skipBlanks, Cond.instanceMethod yX6_skipBlanks, Cond.selects RX6 yX6_skipBlanks yX6_skipBlanks, Cond.code yX6_skipBlanks cX6_skipBlanks 1 none, Cond.fieldLink RX6 15 "KindStreets$Text" "length" "I", Cond.methodLink RX6 80 yX6_byteAt, Cond.instanceMethod yX6_byteAt, Cond.selects RX6 yX6_byteAt yX6_byteAt, Cond.code yX6_byteAt cX6_byteAt 2 (some .int), Cond.fieldLink RX6 9 "KindStreets$Text" "bytes" "[I", Cond.methodLink RX6 84 yX6_digitsHere, Cond.instanceMethod yX6_digitsHere, Cond.selects RX6 yX6_digitsHere yX6_digitsHere, Cond.code yX6_digitsHere cX6_digitsHere 2 (some .int), Cond.methodLink RX6 90 yX6_isDigit, Cond.static yX6_isDigit, Cond.code yX6_isDigit cX6_isDigit 1 (some .boolean)]
noncomputable def wsX6_readYards_r2 : List Cond := [Cond.methodLink RX6 87 yX6_numberOf, Cond.instanceMethod yX6_numberOf, Cond.selects RX6 yX6_numberOf yX6_numberOf, Cond.code yX6_numberOf cX6_numberOf 2 (some .int)]
noncomputable def wsX6_readYards : List Cond := .code yX6_readYards cX6_readYards 3 (some .boolean) :: ((wsX6_readYards_r1 ++ wsX6_readYards_r2) ++ wsX40 ++ wsX70 ++ wsX60)
noncomputable def wsX6_readStreet_r1 : List Cond := [Cond.fieldLink RX6 62 "KindStreets$Town" "yards" "I", Cond.fieldLink RX6 65 "KindStreets$Town" "one" "[I", Cond.fieldLink RX6 46 "KindStreets$Town" "streets" "I", Cond.fieldLink RX6 68 "KindStreets$Town" "other" "[I", Cond.fieldLink RX6 71 "KindStreets$Town" "old" "[I", Cond.methodLink RX6 58 yX6_readNumber, Cond.instanceMethod yX6_readNumber, Cond.selects RX6 yX6_readNumber yX6_readNumber, Cond.initialized RX6, Cond.code yX6_readNumber cX6_readNumber 6 (some .int), Cond.fieldLink RX6 24 "KindStreets$Text" "place" "I", Cond.methodLink RX6 27 yX6_skipBlanks, Cond.instanceMethod yX6_skipBlanks, Cond.selects RX6 yX6_skipBlanks yX6_skipBlanks, Cond.code yX6_skipBlanks cX6_skipBlanks 1 none, Cond.fieldLink RX6 15 "KindStreets$Text" "length" "I", Cond.methodLink RX6 80 yX6_byteAt, Cond.instanceMethod yX6_byteAt, Cond.selects RX6 yX6_byteAt yX6_byteAt, Cond.code yX6_byteAt cX6_byteAt 2 (some .int), Cond.fieldLink RX6 9 "KindStreets$Text" "bytes" "[I", Cond.methodLink RX6 84 yX6_digitsHere, Cond.instanceMethod yX6_digitsHere, Cond.selects RX6 yX6_digitsHere yX6_digitsHere]
noncomputable def wsX6_readStreet_r2 : List Cond := [Cond.code yX6_digitsHere cX6_digitsHere 2 (some .int), Cond.methodLink RX6 90 yX6_isDigit, Cond.static yX6_isDigit, Cond.code yX6_isDigit cX6_isDigit 1 (some .boolean), Cond.methodLink RX6 87 yX6_numberOf, Cond.instanceMethod yX6_numberOf, Cond.selects RX6 yX6_numberOf yX6_numberOf, Cond.code yX6_numberOf cX6_numberOf 2 (some .int)]
noncomputable def wsX6_readStreet : List Cond := .code yX6_readStreet cX6_readStreet 5 (some .boolean) :: ((wsX6_readStreet_r1 ++ wsX6_readStreet_r2) ++ wsX40 ++ wsX70 ++ wsX60)
noncomputable def wsX6_readCitizen_r1 : List Cond := [Cond.fieldLink RX6 46 "KindStreets$Town" "streets" "I", Cond.fieldLink RX6 74 "KindStreets$Town" "home" "[I", Cond.fieldLink RX6 52 "KindStreets$Town" "citizens" "I", Cond.fieldLink RX6 77 "KindStreets$Town" "wants" "[I", Cond.methodLink RX6 58 yX6_readNumber, Cond.instanceMethod yX6_readNumber, Cond.selects RX6 yX6_readNumber yX6_readNumber, Cond.initialized RX6, Cond.code yX6_readNumber cX6_readNumber 6 (some .int), Cond.fieldLink RX6 24 "KindStreets$Text" "place" "I", Cond.methodLink RX6 27 yX6_skipBlanks, Cond.instanceMethod yX6_skipBlanks, Cond.selects RX6 yX6_skipBlanks yX6_skipBlanks, Cond.code yX6_skipBlanks cX6_skipBlanks 1 none, Cond.fieldLink RX6 15 "KindStreets$Text" "length" "I", Cond.methodLink RX6 80 yX6_byteAt, Cond.instanceMethod yX6_byteAt, Cond.selects RX6 yX6_byteAt yX6_byteAt, Cond.code yX6_byteAt cX6_byteAt 2 (some .int), Cond.fieldLink RX6 9 "KindStreets$Text" "bytes" "[I", Cond.methodLink RX6 84 yX6_digitsHere, Cond.instanceMethod yX6_digitsHere, Cond.selects RX6 yX6_digitsHere yX6_digitsHere, Cond.code yX6_digitsHere cX6_digitsHere 2 (some .int)]
noncomputable def wsX6_readCitizen_r2 : List Cond := [Cond.methodLink RX6 90 yX6_isDigit, Cond.static yX6_isDigit, Cond.code yX6_isDigit cX6_isDigit 1 (some .boolean), Cond.methodLink RX6 87 yX6_numberOf, Cond.instanceMethod yX6_numberOf, Cond.selects RX6 yX6_numberOf yX6_numberOf, Cond.code yX6_numberOf cX6_numberOf 2 (some .int)]
noncomputable def wsX6_readCitizen : List Cond := .code yX6_readCitizen cX6_readCitizen 4 (some .boolean) :: ((wsX6_readCitizen_r1 ++ wsX6_readCitizen_r2) ++ wsX40 ++ wsX70 ++ wsX60)
noncomputable def wsX6_readItem_r1 : List Cond := [Cond.fieldLink RX6 24 "KindStreets$Text" "place" "I", Cond.fieldLink RX6 46 "KindStreets$Town" "streets" "I", Cond.fieldLink RX6 52 "KindStreets$Town" "citizens" "I", Cond.methodLink RX6 38 yX6_loneLetter, Cond.instanceMethod yX6_loneLetter, Cond.selects RX6 yX6_loneLetter yX6_loneLetter, Cond.initialized RX6, Cond.code yX6_loneLetter cX6_loneLetter 1 (some .int), Cond.methodLink RX6 80 yX6_byteAt, Cond.instanceMethod yX6_byteAt, Cond.selects RX6 yX6_byteAt yX6_byteAt, Cond.code yX6_byteAt cX6_byteAt 2 (some .int), Cond.fieldLink RX6 15 "KindStreets$Text" "length" "I", Cond.fieldLink RX6 9 "KindStreets$Text" "bytes" "[I", Cond.methodLink RX6 94 yX6_isLetter, Cond.static yX6_isLetter, Cond.code yX6_isLetter cX6_isLetter 1 (some .boolean), Cond.methodLink RX6 42 yX6_readYards, Cond.instanceMethod yX6_readYards, Cond.selects RX6 yX6_readYards yX6_readYards, Cond.code yX6_readYards cX6_readYards 3 (some .boolean), Cond.fieldLink RX6 62 "KindStreets$Town" "yards" "I", Cond.methodLink RX6 58 yX6_readNumber, Cond.instanceMethod yX6_readNumber]
noncomputable def wsX6_readItem_r2 : List Cond := [Cond.selects RX6 yX6_readNumber yX6_readNumber, Cond.code yX6_readNumber cX6_readNumber 6 (some .int), Cond.methodLink RX6 27 yX6_skipBlanks, Cond.instanceMethod yX6_skipBlanks, Cond.selects RX6 yX6_skipBlanks yX6_skipBlanks, Cond.code yX6_skipBlanks cX6_skipBlanks 1 none, Cond.methodLink RX6 84 yX6_digitsHere, Cond.instanceMethod yX6_digitsHere, Cond.selects RX6 yX6_digitsHere yX6_digitsHere, Cond.code yX6_digitsHere cX6_digitsHere 2 (some .int), Cond.methodLink RX6 90 yX6_isDigit, Cond.static yX6_isDigit, Cond.code yX6_isDigit cX6_isDigit 1 (some .boolean), Cond.methodLink RX6 87 yX6_numberOf, Cond.instanceMethod yX6_numberOf, Cond.selects RX6 yX6_numberOf yX6_numberOf, Cond.code yX6_numberOf cX6_numberOf 2 (some .int), Cond.methodLink RX6 49 yX6_readStreet, Cond.instanceMethod yX6_readStreet, Cond.selects RX6 yX6_readStreet yX6_readStreet, Cond.code yX6_readStreet cX6_readStreet 5 (some .boolean), Cond.fieldLink RX6 65 "KindStreets$Town" "one" "[I", Cond.fieldLink RX6 68 "KindStreets$Town" "other" "[I", Cond.fieldLink RX6 71 "KindStreets$Town" "old" "[I"]
noncomputable def wsX6_readItem_r3 : List Cond := [Cond.methodLink RX6 55 yX6_readCitizen, Cond.instanceMethod yX6_readCitizen, Cond.selects RX6 yX6_readCitizen yX6_readCitizen, Cond.code yX6_readCitizen cX6_readCitizen 4 (some .boolean), Cond.fieldLink RX6 74 "KindStreets$Town" "home" "[I", Cond.fieldLink RX6 77 "KindStreets$Town" "wants" "[I"]
noncomputable def wsX6_readItem : List Cond := .code yX6_readItem cX6_readItem 4 (some .boolean) :: ((wsX6_readItem_r1 ++ (wsX6_readItem_r2 ++ wsX6_readItem_r3)) ++ wsX60 ++ wsX40 ++ wsX70)
noncomputable def wsX6_readEnd : List Cond := .code yX6_readEnd cX6_readEnd 1 (some .boolean) :: ([.fieldLink RX6 24 "KindStreets$Text" "place" "I", .methodLink RX6 27 yX6_skipBlanks, .instanceMethod yX6_skipBlanks, .selects RX6 yX6_skipBlanks yX6_skipBlanks, .initialized RX6, .code yX6_skipBlanks cX6_skipBlanks 1 none, .fieldLink RX6 15 "KindStreets$Text" "length" "I", .methodLink RX6 80 yX6_byteAt, .instanceMethod yX6_byteAt, .selects RX6 yX6_byteAt yX6_byteAt, .code yX6_byteAt cX6_byteAt 2 (some .int), .fieldLink RX6 9 "KindStreets$Text" "bytes" "[I"] ++ wsX60)
noncomputable def wsX6_readInto_r1 : List Cond := [Cond.fieldLink RX6 24 "KindStreets$Text" "place" "I", Cond.fieldLink RX6 15 "KindStreets$Text" "length" "I", Cond.methodLink RX6 19 ⟨"KindStreets$Town", "begin", "()V"⟩, Cond.sameMethod "KindStreets$Town" "KindStreets$Town" "begin" "()V", Cond.selects RX4 ⟨"KindStreets$Town", "begin", "()V"⟩ yX7_begin, Cond.instanceMethod yX7_begin, Cond.initialized RX7, Cond.code yX7_begin cX7_begin 1 none, Cond.fieldLink RX7 9 "KindStreets$Town" "yards" "I", Cond.fieldLink RX7 31 "KindStreets$Town" "streets" "I", Cond.fieldLink RX7 34 "KindStreets$Town" "citizens" "I", Cond.methodLink RX6 19 yX7_begin, Cond.selects RX7 yX7_begin yX7_begin, Cond.methodLink RX6 27 yX6_skipBlanks, Cond.instanceMethod yX6_skipBlanks, Cond.selects RX6 yX6_skipBlanks yX6_skipBlanks, Cond.initialized RX6, Cond.code yX6_skipBlanks cX6_skipBlanks 1 none, Cond.methodLink RX6 80 yX6_byteAt, Cond.instanceMethod yX6_byteAt, Cond.selects RX6 yX6_byteAt yX6_byteAt, Cond.code yX6_byteAt cX6_byteAt 2 (some .int), Cond.fieldLink RX6 9 "KindStreets$Text" "bytes" "[I", Cond.methodLink RX6 30 yX6_readItem]
noncomputable def wsX6_readInto_r2 : List Cond := [Cond.instanceMethod yX6_readItem, Cond.selects RX6 yX6_readItem yX6_readItem, Cond.code yX6_readItem cX6_readItem 4 (some .boolean), Cond.fieldLink RX6 46 "KindStreets$Town" "streets" "I", Cond.fieldLink RX6 52 "KindStreets$Town" "citizens" "I", Cond.methodLink RX6 38 yX6_loneLetter, Cond.instanceMethod yX6_loneLetter, Cond.selects RX6 yX6_loneLetter yX6_loneLetter, Cond.code yX6_loneLetter cX6_loneLetter 1 (some .int), Cond.methodLink RX6 94 yX6_isLetter, Cond.static yX6_isLetter, Cond.code yX6_isLetter cX6_isLetter 1 (some .boolean), Cond.methodLink RX6 42 yX6_readYards, Cond.instanceMethod yX6_readYards, Cond.selects RX6 yX6_readYards yX6_readYards, Cond.code yX6_readYards cX6_readYards 3 (some .boolean), Cond.fieldLink RX6 62 "KindStreets$Town" "yards" "I", Cond.methodLink RX6 58 yX6_readNumber, Cond.instanceMethod yX6_readNumber, Cond.selects RX6 yX6_readNumber yX6_readNumber, Cond.code yX6_readNumber cX6_readNumber 6 (some .int), Cond.methodLink RX6 84 yX6_digitsHere, Cond.instanceMethod yX6_digitsHere, Cond.selects RX6 yX6_digitsHere yX6_digitsHere]
noncomputable def wsX6_readInto_r3 : List Cond := [Cond.code yX6_digitsHere cX6_digitsHere 2 (some .int), Cond.methodLink RX6 90 yX6_isDigit, Cond.static yX6_isDigit, Cond.code yX6_isDigit cX6_isDigit 1 (some .boolean), Cond.methodLink RX6 87 yX6_numberOf, Cond.instanceMethod yX6_numberOf, Cond.selects RX6 yX6_numberOf yX6_numberOf, Cond.code yX6_numberOf cX6_numberOf 2 (some .int), Cond.methodLink RX6 49 yX6_readStreet, Cond.instanceMethod yX6_readStreet, Cond.selects RX6 yX6_readStreet yX6_readStreet, Cond.code yX6_readStreet cX6_readStreet 5 (some .boolean), Cond.fieldLink RX6 65 "KindStreets$Town" "one" "[I", Cond.fieldLink RX6 68 "KindStreets$Town" "other" "[I", Cond.fieldLink RX6 71 "KindStreets$Town" "old" "[I", Cond.methodLink RX6 55 yX6_readCitizen, Cond.instanceMethod yX6_readCitizen, Cond.selects RX6 yX6_readCitizen yX6_readCitizen, Cond.code yX6_readCitizen cX6_readCitizen 4 (some .boolean), Cond.fieldLink RX6 74 "KindStreets$Town" "home" "[I", Cond.fieldLink RX6 77 "KindStreets$Town" "wants" "[I", Cond.methodLink RX6 34 yX6_readEnd, Cond.instanceMethod yX6_readEnd, Cond.selects RX6 yX6_readEnd yX6_readEnd]
noncomputable def wsX6_readInto_r4 : List Cond := [Cond.code yX6_readEnd cX6_readEnd 1 (some .boolean)]
noncomputable def wsX6_readInto : List Cond := .code yX6_readInto cX6_readInto 3 (some .int) :: ((wsX6_readInto_r1 ++ (wsX6_readInto_r2 ++ (wsX6_readInto_r3 ++ wsX6_readInto_r4))) ++ wsX60 ++ wsX40 ++ wsX70)
noncomputable def wsX7_endsOf : List Cond := .code yX7_endsOf cX7_endsOf 2 (some .int) :: ([.fieldLink RX7 15 "KindStreets$Town" "one" "[I", .fieldLink RX7 19 "KindStreets$Town" "other" "[I"] ++ wsX40 ++ wsX70)
noncomputable def wsX8_init : List Cond := .code yX8_init cX8_init 1 none :: ([.methodLink RX8 5 objectInit, .instanceMethod objectInit, .code objectInit ⟨#[0xb1]⟩ 1 none, .classLink RX8 11 RX4, .instantiable RX4 9, .initialized RX4, .fieldLink RX8 14 "KindStreets$Ways" "plan" "LKindStreets$Plan;", .arrayClass .int, .fieldLink RX8 18 "KindStreets$Ways" "price" "[I", .methodLink RX8 13 yX4_init, .instanceMethod yX4_init, .code yX4_init cX4_init 1 none, .fieldLink RX4 9 "KindStreets$Plan" "width" "[I", .methodLink RX4 3 yX7_init, .instanceMethod yX7_init, .initialized RX7, .code yX7_init cX7_init 1 none, .methodLink RX7 3 objectInit, .fieldLink RX7 9 "KindStreets$Town" "yards" "I", .fieldLink RX7 15 "KindStreets$Town" "one" "[I", .fieldLink RX7 19 "KindStreets$Town" "other" "[I", .fieldLink RX7 22 "KindStreets$Town" "old" "[I", .fieldLink RX7 25 "KindStreets$Town" "home" "[I", .fieldLink RX7 28 "KindStreets$Town" "wants" "[I"] ++ wsX40 ++ wsX80 ++ wsX70)
noncomputable def wsX8_widthIn : List Cond := .code yX8_widthIn cX8_widthIn 1 (some .int) :: ([])
noncomputable def wsX8_streetsIn : List Cond := .code yX8_streetsIn cX8_streetsIn 1 (some .int) :: ([])
noncomputable def wsX8_tenTo : List Cond := .code yX8_tenTo cX8_tenTo 3 (some .int) :: ([])
noncomputable def wsX8_oneStreetOn : List Cond := .code yX8_oneStreetOn cX8_oneStreetOn 5 (some .int) :: ([.fieldLink RX8 14 "KindStreets$Ways" "plan" "LKindStreets$Plan;", .fieldLink RX8 40 "KindStreets$Plan" "streets" "I", .sameField "KindStreets$Plan" "KindStreets$Town" "streets" "I", .fieldLink RX8 43 "KindStreets$Plan" "width" "[I", .methodLink RX8 46 ⟨"KindStreets$Plan", "endsOf", "(I)I"⟩, .sameMethod "KindStreets$Plan" "KindStreets$Town" "endsOf" "(I)I", .selects RX4 ⟨"KindStreets$Plan", "endsOf", "(I)I"⟩ yX7_endsOf, .instanceMethod yX7_endsOf, .initialized RX7, .code yX7_endsOf cX7_endsOf 2 (some .int), .fieldLink RX7 15 "KindStreets$Town" "one" "[I", .fieldLink RX7 19 "KindStreets$Town" "other" "[I"] ++ wsX80 ++ wsX40 ++ wsX70)
noncomputable def wsX8_fewestStreets : List Cond := .code yX8_fewestStreets cX8_fewestStreets 6 (some .int) :: ([.fieldLink RX8 14 "KindStreets$Ways" "plan" "LKindStreets$Plan;", .fieldLink RX8 26 "KindStreets$Plan" "yards" "I", .sameField "KindStreets$Plan" "KindStreets$Town" "yards" "I", .methodLink RX8 30 yX8_oneStreetOn, .instanceMethod yX8_oneStreetOn, .selects RX8 yX8_oneStreetOn yX8_oneStreetOn, .initialized RX8, .code yX8_oneStreetOn cX8_oneStreetOn 5 (some .int), .fieldLink RX8 40 "KindStreets$Plan" "streets" "I", .sameField "KindStreets$Plan" "KindStreets$Town" "streets" "I", .fieldLink RX8 43 "KindStreets$Plan" "width" "[I", .methodLink RX8 46 ⟨"KindStreets$Plan", "endsOf", "(I)I"⟩, .sameMethod "KindStreets$Plan" "KindStreets$Town" "endsOf" "(I)I", .selects RX4 ⟨"KindStreets$Plan", "endsOf", "(I)I"⟩ yX7_endsOf, .instanceMethod yX7_endsOf, .initialized RX7, .code yX7_endsOf cX7_endsOf 2 (some .int), .fieldLink RX7 15 "KindStreets$Town" "one" "[I", .fieldLink RX7 19 "KindStreets$Town" "other" "[I", .methodLink RX8 34 yX5_has, .static yX5_has, .initialized RX5, .code yX5_has cX5_has 2 (some .boolean)] ++ wsX80 ++ wsX40 ++ wsX70)
noncomputable def wsX8_widestWay_r1 : List Cond := [Cond.methodLink RX8 22 yX8_fewestStreets, Cond.instanceMethod yX8_fewestStreets, Cond.selects RX8 yX8_fewestStreets yX8_fewestStreets, Cond.initialized RX8, Cond.code yX8_fewestStreets cX8_fewestStreets 6 (some .int), Cond.fieldLink RX8 14 "KindStreets$Ways" "plan" "LKindStreets$Plan;", Cond.fieldLink RX8 26 "KindStreets$Plan" "yards" "I", Cond.sameField "KindStreets$Plan" "KindStreets$Town" "yards" "I", Cond.methodLink RX8 30 yX8_oneStreetOn, Cond.instanceMethod yX8_oneStreetOn, Cond.selects RX8 yX8_oneStreetOn yX8_oneStreetOn, Cond.code yX8_oneStreetOn cX8_oneStreetOn 5 (some .int), Cond.fieldLink RX8 40 "KindStreets$Plan" "streets" "I", Cond.sameField "KindStreets$Plan" "KindStreets$Town" "streets" "I", Cond.fieldLink RX8 43 "KindStreets$Plan" "width" "[I", Cond.methodLink RX8 46 ⟨"KindStreets$Plan", "endsOf", "(I)I"⟩, Cond.sameMethod "KindStreets$Plan" "KindStreets$Town" "endsOf" "(I)I", Cond.selects RX4 ⟨"KindStreets$Plan", "endsOf", "(I)I"⟩ yX7_endsOf, Cond.instanceMethod yX7_endsOf, Cond.initialized RX7, Cond.code yX7_endsOf cX7_endsOf 2 (some .int), Cond.fieldLink RX7 15 "KindStreets$Town" "one" "[I", Cond.fieldLink RX7 19 "KindStreets$Town" "other" "[I", Cond.methodLink RX8 34 yX5_has]
noncomputable def wsX8_widestWay_r2 : List Cond := [Cond.static yX5_has, Cond.initialized RX5, Cond.code yX5_has cX5_has 2 (some .boolean)]
noncomputable def wsX8_widestWay : List Cond := .code yX8_widestWay cX8_widestWay 4 (some .int) :: ((wsX8_widestWay_r1 ++ wsX8_widestWay_r2) ++ wsX80 ++ wsX40 ++ wsX70)
noncomputable def wsX8_cutAround : List Cond := .code yX8_cutAround cX8_cutAround 4 (some .int) :: ([.fieldLink RX8 14 "KindStreets$Ways" "plan" "LKindStreets$Plan;", .fieldLink RX8 40 "KindStreets$Plan" "streets" "I", .sameField "KindStreets$Plan" "KindStreets$Town" "streets" "I", .fieldLink RX8 43 "KindStreets$Plan" "width" "[I", .methodLink RX8 62 yX4_leadsOut, .instanceMethod yX4_leadsOut, .selects RX4 yX4_leadsOut yX4_leadsOut, .initialized RX4, .code yX4_leadsOut cX4_leadsOut 3 (some .boolean), .fieldLink RX4 29 "KindStreets$Plan" "one" "[I", .sameField "KindStreets$Plan" "KindStreets$Town" "one" "[I", .fieldLink RX4 38 "KindStreets$Plan" "other" "[I", .sameField "KindStreets$Plan" "KindStreets$Town" "other" "[I", .methodLink RX4 32 yX5_has, .static yX5_has, .initialized RX5, .code yX5_has cX5_has 2 (some .boolean)] ++ wsX80 ++ wsX40 ++ wsX70)
noncomputable def wsX8_leastCut_r1 : List Cond := [Cond.constant RX8 50 (1073741824), Cond.fieldLink RX8 14 "KindStreets$Ways" "plan" "LKindStreets$Plan;", Cond.fieldLink RX8 26 "KindStreets$Plan" "yards" "I", Cond.sameField "KindStreets$Plan" "KindStreets$Town" "yards" "I", Cond.methodLink RX8 57 Lib.Math.min.name, Cond.static Lib.Math.min.name, Cond.initialized "java/lang/Math", Cond.code Lib.Math.min.name Lib.Math.min.code 2 (some .int), Cond.methodLink RX8 51 yX5_allOf, Cond.static yX5_allOf, Cond.initialized RX5, Cond.code yX5_allOf cX5_allOf 1 (some .int), Cond.methodLink RX8 34 yX5_has, Cond.static yX5_has, Cond.code yX5_has cX5_has 2 (some .boolean), Cond.methodLink RX8 54 yX8_cutAround, Cond.instanceMethod yX8_cutAround, Cond.selects RX8 yX8_cutAround yX8_cutAround, Cond.initialized RX8, Cond.code yX8_cutAround cX8_cutAround 4 (some .int), Cond.fieldLink RX8 40 "KindStreets$Plan" "streets" "I", Cond.sameField "KindStreets$Plan" "KindStreets$Town" "streets" "I", Cond.fieldLink RX8 43 "KindStreets$Plan" "width" "[I", Cond.methodLink RX8 62 yX4_leadsOut]
noncomputable def wsX8_leastCut_r2 : List Cond := [Cond.instanceMethod yX4_leadsOut, Cond.selects RX4 yX4_leadsOut yX4_leadsOut, Cond.initialized RX4, Cond.code yX4_leadsOut cX4_leadsOut 3 (some .boolean), Cond.fieldLink RX4 29 "KindStreets$Plan" "one" "[I", Cond.sameField "KindStreets$Plan" "KindStreets$Town" "one" "[I", Cond.fieldLink RX4 38 "KindStreets$Plan" "other" "[I", Cond.sameField "KindStreets$Plan" "KindStreets$Town" "other" "[I", Cond.methodLink RX4 32 yX5_has]
noncomputable def wsX8_leastCut : List Cond := .code yX8_leastCut cX8_leastCut 5 (some .int) :: ((wsX8_leastCut_r1 ++ wsX8_leastCut_r2) ++ wsX80 ++ wsX40 ++ wsX70)
noncomputable def wsX8_goBothWays : List Cond := .code yX8_goBothWays cX8_goBothWays 5 none :: ([.fieldLink RX8 14 "KindStreets$Ways" "plan" "LKindStreets$Plan;", .fieldLink RX8 75 "KindStreets$Plan" "one" "[I", .sameField "KindStreets$Plan" "KindStreets$Town" "one" "[I", .fieldLink RX8 78 "KindStreets$Plan" "other" "[I", .sameField "KindStreets$Plan" "KindStreets$Town" "other" "[I", .fieldLink RX8 18 "KindStreets$Ways" "price" "[I", .methodLink RX8 57 Lib.Math.min.name, .static Lib.Math.min.name, .initialized "java/lang/Math", .code Lib.Math.min.name Lib.Math.min.code 2 (some .int)] ++ wsX80 ++ wsX40 ++ wsX70)
noncomputable def wsX8_leastPrice_r1 : List Cond := [Cond.fieldLink RX8 18 "KindStreets$Ways" "price" "[I", Cond.constant RX8 50 (1073741824), Cond.fieldLink RX8 14 "KindStreets$Ways" "plan" "LKindStreets$Plan;", Cond.fieldLink RX8 26 "KindStreets$Plan" "yards" "I", Cond.sameField "KindStreets$Plan" "KindStreets$Town" "yards" "I", Cond.fieldLink RX8 40 "KindStreets$Plan" "streets" "I", Cond.sameField "KindStreets$Plan" "KindStreets$Town" "streets" "I", Cond.fieldLink RX8 43 "KindStreets$Plan" "width" "[I", Cond.methodLink RX8 65 yJ7_fill_53178, Cond.static yJ7_fill_53178, Cond.initialized RJ7, Cond.code yJ7_fill_53178 cJ7_fill_53178 4 none, Cond.methodLink RX8 71 yX8_goBothWays, Cond.instanceMethod yX8_goBothWays, Cond.selects RX8 yX8_goBothWays yX8_goBothWays, Cond.initialized RX8, Cond.code yX8_goBothWays cX8_goBothWays 5 none, Cond.fieldLink RX8 75 "KindStreets$Plan" "one" "[I", Cond.sameField "KindStreets$Plan" "KindStreets$Town" "one" "[I", Cond.fieldLink RX8 78 "KindStreets$Plan" "other" "[I", Cond.sameField "KindStreets$Plan" "KindStreets$Town" "other" "[I", Cond.methodLink RX8 57 Lib.Math.min.name, Cond.static Lib.Math.min.name, Cond.initialized "java/lang/Math"]
noncomputable def wsX8_leastPrice_r2 : List Cond := [Cond.code Lib.Math.min.name Lib.Math.min.code 2 (some .int)]
noncomputable def wsX8_leastPrice : List Cond := .code yX8_leastPrice cX8_leastPrice 6 (some .int) :: ((wsX8_leastPrice_r1 ++ wsX8_leastPrice_r2) ++ wsX80 ++ wsX40 ++ wsX70)
noncomputable def wsJ6_bitCount_0f7a4 : List Cond := .code yJ6_bitCount_0f7a4 cJ6_bitCount_0f7a4 1 (some .int) :: ([.constant RJ6 265 (1431655765), .constant RJ6 266 (858993459), .constant RJ6 267 (252645135)])
noncomputable def wsX8_streetOut : List Cond := .code yX8_streetOut cX8_streetOut 4 (some .int) :: ([.fieldLink RX8 14 "KindStreets$Ways" "plan" "LKindStreets$Plan;", .fieldLink RX8 40 "KindStreets$Plan" "streets" "I", .sameField "KindStreets$Plan" "KindStreets$Town" "streets" "I", .methodLink RX8 34 yX5_has, .static yX5_has, .initialized RX5, .code yX5_has cX5_has 2 (some .boolean), .methodLink RX8 62 yX4_leadsOut, .instanceMethod yX4_leadsOut, .selects RX4 yX4_leadsOut yX4_leadsOut, .initialized RX4, .code yX4_leadsOut cX4_leadsOut 3 (some .boolean), .fieldLink RX4 29 "KindStreets$Plan" "one" "[I", .sameField "KindStreets$Plan" "KindStreets$Town" "one" "[I", .fieldLink RX4 38 "KindStreets$Plan" "other" "[I", .sameField "KindStreets$Plan" "KindStreets$Town" "other" "[I", .methodLink RX4 32 yX5_has] ++ wsX80 ++ wsX40 ++ wsX70)
noncomputable def wsX8_chances_r1 : List Cond := [Cond.fieldLink RX8 14 "KindStreets$Ways" "plan" "LKindStreets$Plan;", Cond.methodLink RX8 34 yX5_has, Cond.static yX5_has, Cond.initialized RX5, Cond.code yX5_has cX5_has 2 (some .boolean), Cond.methodLink RX8 81 yJ6_bitCount_0f7a4, Cond.static yJ6_bitCount_0f7a4, Cond.initialized RJ6, Cond.code yJ6_bitCount_0f7a4 cJ6_bitCount_0f7a4 1 (some .int), Cond.constant RJ6 265 (1431655765), Cond.constant RJ6 266 (858993459), Cond.constant RJ6 267 (252645135), Cond.methodLink RX8 86 yX8_tenTo, Cond.static yX8_tenTo, Cond.initialized RX8, Cond.code yX8_tenTo cX8_tenTo 3 (some .int), Cond.methodLink RX8 89 yX8_streetOut, Cond.instanceMethod yX8_streetOut, Cond.selects RX8 yX8_streetOut yX8_streetOut, Cond.code yX8_streetOut cX8_streetOut 4 (some .int), Cond.fieldLink RX8 40 "KindStreets$Plan" "streets" "I", Cond.sameField "KindStreets$Plan" "KindStreets$Town" "streets" "I", Cond.methodLink RX8 62 yX4_leadsOut, Cond.instanceMethod yX4_leadsOut]
noncomputable def wsX8_chances_r2 : List Cond := [Cond.selects RX4 yX4_leadsOut yX4_leadsOut, Cond.initialized RX4, Cond.code yX4_leadsOut cX4_leadsOut 3 (some .boolean), Cond.fieldLink RX4 29 "KindStreets$Plan" "one" "[I", Cond.sameField "KindStreets$Plan" "KindStreets$Town" "one" "[I", Cond.fieldLink RX4 38 "KindStreets$Plan" "other" "[I", Cond.sameField "KindStreets$Plan" "KindStreets$Town" "other" "[I", Cond.methodLink RX4 32 yX5_has, Cond.methodLink RX8 92 yX5_without, Cond.static yX5_without, Cond.code yX5_without cX5_without 2 (some .int), Cond.methodLink RX8 46 ⟨"KindStreets$Plan", "endsOf", "(I)I"⟩, Cond.sameMethod "KindStreets$Plan" "KindStreets$Town" "endsOf" "(I)I", Cond.selects RX4 ⟨"KindStreets$Plan", "endsOf", "(I)I"⟩ yX7_endsOf, Cond.instanceMethod yX7_endsOf, Cond.initialized RX7, Cond.code yX7_endsOf cX7_endsOf 2 (some .int), Cond.fieldLink RX7 15 "KindStreets$Town" "one" "[I", Cond.fieldLink RX7 19 "KindStreets$Town" "other" "[I", Cond.methodLink RX8 95 yX8_chances, Cond.instanceMethod yX8_chances, Cond.selects RX8 yX8_chances yX8_chances]
noncomputable def wsX8_chances : List Cond := .code yX8_chances cX8_chances 7 (some .int) :: ((wsX8_chances_r1 ++ wsX8_chances_r2) ++ wsX80 ++ wsX40 ++ wsX70)
noncomputable def wsX9_init_r1 : List Cond := [Cond.methodLink RX9 1 objectInit, Cond.instanceMethod objectInit, Cond.code objectInit ⟨#[0xb1]⟩ 1 none, Cond.classLink RX9 7 RX6, Cond.instantiable RX6 3, Cond.initialized RX6, Cond.fieldLink RX9 10 "KindStreets" "text" "LKindStreets$Text;", Cond.classLink RX9 16 RX7, Cond.instantiable RX7 8, Cond.initialized RX7, Cond.fieldLink RX9 19 "KindStreets" "draft" "LKindStreets$Town;", Cond.fieldLink RX9 23 "KindStreets" "town" "LKindStreets$Town;", Cond.classLink RX9 26 RX3, Cond.instantiable RX3 3, Cond.initialized RX3, Cond.fieldLink RX9 29 "KindStreets" "now" "LKindStreets$Now;", Cond.fieldLink RX9 33 "KindStreets" "images" "[LKindStreets$Now;", Cond.classLink RX9 37 RX8, Cond.instantiable RX8 2, Cond.initialized RX8, Cond.fieldLink RX9 40 "KindStreets" "ways" "LKindStreets$Ways;", Cond.classLink RX9 44 RX0, Cond.instantiable RX0 2, Cond.initialized RX0]
noncomputable def wsX9_init_r2 : List Cond := [Cond.fieldLink RX9 47 "KindStreets" "carriages" "LKindStreets$Carriages;", Cond.classLink RX9 51 RX1, Cond.instantiable RX1 4, Cond.initialized RX1, Cond.fieldLink RX9 54 "KindStreets" "measures" "LKindStreets$Measures;", Cond.methodLink RX9 9 yX6_init, Cond.instanceMethod yX6_init, Cond.code yX6_init cX6_init 1 none, Cond.methodLink RX6 3 objectInit, Cond.arrayClass .int, Cond.fieldLink RX6 9 "KindStreets$Text" "bytes" "[I", Cond.methodLink RX9 18 yX7_init, Cond.instanceMethod yX7_init, Cond.code yX7_init cX7_init 1 none, Cond.methodLink RX7 3 objectInit, Cond.fieldLink RX7 9 "KindStreets$Town" "yards" "I", Cond.fieldLink RX7 15 "KindStreets$Town" "one" "[I", Cond.fieldLink RX7 19 "KindStreets$Town" "other" "[I", Cond.fieldLink RX7 22 "KindStreets$Town" "old" "[I", Cond.fieldLink RX7 25 "KindStreets$Town" "home" "[I", Cond.fieldLink RX7 28 "KindStreets$Town" "wants" "[I", Cond.methodLink RX9 28 yX3_init, Cond.instanceMethod yX3_init, Cond.code yX3_init cX3_init 2 none]
noncomputable def wsX9_init_r3 : List Cond := [Cond.methodLink RX3 3 objectInit, Cond.classLink RX3 9 RX2, Cond.instantiable RX2 5, Cond.initialized RX2, Cond.fieldLink RX3 12 "KindStreets$Now" "moment" "LKindStreets$Moment;", Cond.fieldLink RX3 18 "KindStreets$Now" "past" "[LKindStreets$Moment;", Cond.methodLink RX3 11 yX2_init, Cond.instanceMethod yX2_init, Cond.code yX2_init cX2_init 1 none, Cond.methodLink RX2 3 objectInit, Cond.fieldLink RX2 9 "KindStreets$Moment" "seen" "[I", Cond.fieldLink RX2 15 "KindStreets$Moment" "hidden" "[I", Cond.fieldLink RX2 18 "KindStreets$Moment" "pretended" "[I", Cond.fieldLink RX2 21 "KindStreets$Moment" "home" "[I", Cond.methodLink RX9 39 yX8_init, Cond.instanceMethod yX8_init, Cond.code yX8_init cX8_init 1 none, Cond.methodLink RX8 5 objectInit, Cond.classLink RX8 11 RX4, Cond.instantiable RX4 9, Cond.initialized RX4, Cond.fieldLink RX8 14 "KindStreets$Ways" "plan" "LKindStreets$Plan;", Cond.fieldLink RX8 18 "KindStreets$Ways" "price" "[I", Cond.methodLink RX8 13 yX4_init]
noncomputable def wsX9_init_r4 : List Cond := [Cond.instanceMethod yX4_init, Cond.code yX4_init cX4_init 1 none, Cond.fieldLink RX4 9 "KindStreets$Plan" "width" "[I", Cond.methodLink RX4 3 yX7_init, Cond.methodLink RX9 46 yX0_init, Cond.instanceMethod yX0_init, Cond.code yX0_init cX0_init 1 none, Cond.methodLink RX0 3 objectInit, Cond.fieldLink RX0 9 "KindStreets$Carriages" "given" "[I", Cond.classLink RX0 15 RX4, Cond.fieldLink RX0 18 "KindStreets$Carriages" "plan" "LKindStreets$Plan;", Cond.methodLink RX0 17 yX4_init, Cond.methodLink RX9 53 yX1_init, Cond.instanceMethod yX1_init, Cond.code yX1_init cX1_init 1 none, Cond.methodLink RX1 3 objectInit, Cond.fieldLink RX1 9 "KindStreets$Measures" "width" "[I", Cond.fieldLink RX1 15 "KindStreets$Measures" "night" "[I", Cond.fieldLink RX1 18 "KindStreets$Measures" "alike" "[I"]
noncomputable def wsX9_init : List Cond := .code yX9_init cX9_init 1 none :: ((wsX9_init_r1 ++ (wsX9_init_r2 ++ (wsX9_init_r3 ++ wsX9_init_r4))) ++ wsX60 ++ wsX90 ++ wsX70 ++ wsX30 ++ wsX80 ++ wsX00 ++ wsX10 ++ wsX40 ++ wsX20)
noncomputable def wsX9_isWithin : List Cond := .code yX9_isWithin cX9_isWithin 3 (some .boolean) :: ([])
noncomputable def wsX9_type : List Cond := .code yX9_type cX9_type 2 (some .int) :: ([.fieldLink RX9 10 "KindStreets" "text" "LKindStreets$Text;", .fieldLink RX9 62 "KindStreets$Text" "length" "I", .methodLink RX9 58 yX9_isWithin, .static yX9_isWithin, .initialized RX9, .code yX9_isWithin cX9_isWithin 3 (some .boolean), .methodLink RX9 66 yX6_add, .instanceMethod yX6_add, .selects RX6 yX6_add yX6_add, .initialized RX6, .code yX6_add cX6_add 2 none, .fieldLink RX6 15 "KindStreets$Text" "length" "I", .fieldLink RX6 9 "KindStreets$Text" "bytes" "[I"] ++ wsX90 ++ wsX60)
noncomputable def wsX9_clear : List Cond := .code yX9_clear cX9_clear 2 (some .int) :: ([.fieldLink RX9 10 "KindStreets" "text" "LKindStreets$Text;", .fieldLink RX9 62 "KindStreets$Text" "length" "I"] ++ wsX90 ++ wsX60)
noncomputable def wsX9_town_r1 : List Cond := [Cond.fieldLink RX9 10 "KindStreets" "text" "LKindStreets$Text;", Cond.fieldLink RX9 19 "KindStreets" "draft" "LKindStreets$Town;", Cond.fieldLink RX9 23 "KindStreets" "town" "LKindStreets$Town;", Cond.fieldLink RX9 29 "KindStreets" "now" "LKindStreets$Now;", Cond.fieldLink RX9 81 "KindStreets" "kept" "I", Cond.fieldLink RX9 54 "KindStreets" "measures" "LKindStreets$Measures;", Cond.fieldLink RX9 84 "KindStreets$Measures" "measured" "I", Cond.fieldLink RX9 62 "KindStreets$Text" "length" "I", Cond.methodLink RX9 70 yX6_readInto, Cond.instanceMethod yX6_readInto, Cond.selects RX6 yX6_readInto yX6_readInto, Cond.initialized RX6, Cond.code yX6_readInto cX6_readInto 3 (some .int), Cond.fieldLink RX6 24 "KindStreets$Text" "place" "I", Cond.fieldLink RX6 15 "KindStreets$Text" "length" "I", Cond.methodLink RX6 19 ⟨"KindStreets$Town", "begin", "()V"⟩, Cond.sameMethod "KindStreets$Town" "KindStreets$Town" "begin" "()V", Cond.selects RX4 ⟨"KindStreets$Town", "begin", "()V"⟩ yX7_begin, Cond.instanceMethod yX7_begin, Cond.initialized RX7, Cond.code yX7_begin cX7_begin 1 none, Cond.fieldLink RX7 9 "KindStreets$Town" "yards" "I", Cond.fieldLink RX7 31 "KindStreets$Town" "streets" "I", Cond.fieldLink RX7 34 "KindStreets$Town" "citizens" "I"]
noncomputable def wsX9_town_r2 : List Cond := [Cond.methodLink RX6 19 yX7_begin, Cond.selects RX7 yX7_begin yX7_begin, Cond.methodLink RX6 27 yX6_skipBlanks, Cond.instanceMethod yX6_skipBlanks, Cond.selects RX6 yX6_skipBlanks yX6_skipBlanks, Cond.code yX6_skipBlanks cX6_skipBlanks 1 none, Cond.methodLink RX6 80 yX6_byteAt, Cond.instanceMethod yX6_byteAt, Cond.selects RX6 yX6_byteAt yX6_byteAt, Cond.code yX6_byteAt cX6_byteAt 2 (some .int), Cond.fieldLink RX6 9 "KindStreets$Text" "bytes" "[I", Cond.methodLink RX6 30 yX6_readItem, Cond.instanceMethod yX6_readItem, Cond.selects RX6 yX6_readItem yX6_readItem, Cond.code yX6_readItem cX6_readItem 4 (some .boolean), Cond.fieldLink RX6 46 "KindStreets$Town" "streets" "I", Cond.fieldLink RX6 52 "KindStreets$Town" "citizens" "I", Cond.methodLink RX6 38 yX6_loneLetter, Cond.instanceMethod yX6_loneLetter, Cond.selects RX6 yX6_loneLetter yX6_loneLetter, Cond.code yX6_loneLetter cX6_loneLetter 1 (some .int), Cond.methodLink RX6 94 yX6_isLetter, Cond.static yX6_isLetter, Cond.code yX6_isLetter cX6_isLetter 1 (some .boolean)]
noncomputable def wsX9_town_r3 : List Cond := [Cond.methodLink RX6 42 yX6_readYards, Cond.instanceMethod yX6_readYards, Cond.selects RX6 yX6_readYards yX6_readYards, Cond.code yX6_readYards cX6_readYards 3 (some .boolean), Cond.fieldLink RX6 62 "KindStreets$Town" "yards" "I", Cond.methodLink RX6 58 yX6_readNumber, Cond.instanceMethod yX6_readNumber, Cond.selects RX6 yX6_readNumber yX6_readNumber, Cond.code yX6_readNumber cX6_readNumber 6 (some .int), Cond.methodLink RX6 84 yX6_digitsHere, Cond.instanceMethod yX6_digitsHere, Cond.selects RX6 yX6_digitsHere yX6_digitsHere, Cond.code yX6_digitsHere cX6_digitsHere 2 (some .int), Cond.methodLink RX6 90 yX6_isDigit, Cond.static yX6_isDigit, Cond.code yX6_isDigit cX6_isDigit 1 (some .boolean), Cond.methodLink RX6 87 yX6_numberOf, Cond.instanceMethod yX6_numberOf, Cond.selects RX6 yX6_numberOf yX6_numberOf, Cond.code yX6_numberOf cX6_numberOf 2 (some .int), Cond.methodLink RX6 49 yX6_readStreet, Cond.instanceMethod yX6_readStreet, Cond.selects RX6 yX6_readStreet yX6_readStreet, Cond.code yX6_readStreet cX6_readStreet 5 (some .boolean)]
noncomputable def wsX9_town_r4 : List Cond := [Cond.fieldLink RX6 65 "KindStreets$Town" "one" "[I", Cond.fieldLink RX6 68 "KindStreets$Town" "other" "[I", Cond.fieldLink RX6 71 "KindStreets$Town" "old" "[I", Cond.methodLink RX6 55 yX6_readCitizen, Cond.instanceMethod yX6_readCitizen, Cond.selects RX6 yX6_readCitizen yX6_readCitizen, Cond.code yX6_readCitizen cX6_readCitizen 4 (some .boolean), Cond.fieldLink RX6 74 "KindStreets$Town" "home" "[I", Cond.fieldLink RX6 77 "KindStreets$Town" "wants" "[I", Cond.methodLink RX6 34 yX6_readEnd, Cond.instanceMethod yX6_readEnd, Cond.selects RX6 yX6_readEnd yX6_readEnd, Cond.code yX6_readEnd cX6_readEnd 1 (some .boolean), Cond.methodLink RX9 74 ⟨"KindStreets$Town", "become", "(LKindStreets$Town;)V"⟩, Cond.sameMethod "KindStreets$Town" "KindStreets$Town" "become" "(LKindStreets$Town;)V", Cond.selects RX4 ⟨"KindStreets$Town", "become", "(LKindStreets$Town;)V"⟩ yX7_become, Cond.instanceMethod yX7_become, Cond.code yX7_become cX7_become 2 none, Cond.fieldLink RX7 15 "KindStreets$Town" "one" "[I", Cond.methodLink RX7 37 arraycopyName, Cond.native arraycopyName, Cond.static arraycopyName, Cond.initialized "java/lang/System", Cond.fieldLink RX7 19 "KindStreets$Town" "other" "[I"]
noncomputable def wsX9_town_r5 : List Cond := [Cond.fieldLink RX7 22 "KindStreets$Town" "old" "[I", Cond.fieldLink RX7 25 "KindStreets$Town" "home" "[I", Cond.fieldLink RX7 28 "KindStreets$Town" "wants" "[I", Cond.methodLink RX9 74 yX7_become, Cond.selects RX7 yX7_become yX7_become, Cond.methodLink RX9 78 yX3_begin, Cond.instanceMethod yX3_begin, Cond.selects RX3 yX3_begin yX3_begin, Cond.initialized RX3, Cond.code yX3_begin cX3_begin 2 none, Cond.fieldLink RX3 12 "KindStreets$Now" "moment" "LKindStreets$Moment;", Cond.fieldLink RX3 26 "KindStreets$Now" "known" "I", Cond.methodLink RX3 22 yX2_begin, Cond.instanceMethod yX2_begin, Cond.selects RX2 yX2_begin yX2_begin, Cond.initialized RX2, Cond.code yX2_begin cX2_begin 2 none, Cond.fieldLink RX2 24 "KindStreets$Town" "old" "[I", Cond.fieldLink RX2 9 "KindStreets$Moment" "seen" "[I", Cond.methodLink RX2 29 arraycopyName, Cond.fieldLink RX2 15 "KindStreets$Moment" "hidden" "[I", Cond.fieldLink RX2 18 "KindStreets$Moment" "pretended" "[I", Cond.fieldLink RX2 41 "KindStreets$Town" "home" "[I", Cond.fieldLink RX2 21 "KindStreets$Moment" "home" "[I"]
noncomputable def wsX9_town_r6 : List Cond := [Cond.fieldLink RX2 42 "KindStreets$Moment" "night" "I", Cond.methodLink RX2 35 yJ7_fill_53178, Cond.static yJ7_fill_53178, Cond.initialized RJ7, Cond.code yJ7_fill_53178 cJ7_fill_53178 4 none]
noncomputable def wsX9_town : List Cond := .code yX9_town cX9_town 2 (some .int) :: ((wsX9_town_r1 ++ (wsX9_town_r2 ++ (wsX9_town_r3 ++ (wsX9_town_r4 ++ (wsX9_town_r5 ++ wsX9_town_r6))))) ++ wsX90 ++ wsX10 ++ wsX60 ++ wsX40 ++ wsX70 ++ wsX30 ++ wsX20)
noncomputable def wsX9_isStreet : List Cond := .code yX9_isStreet cX9_isStreet 2 (some .boolean) :: ([.fieldLink RX9 23 "KindStreets" "town" "LKindStreets$Town;", .fieldLink RX9 189 "KindStreets$Town" "streets" "I", .methodLink RX9 58 yX9_isWithin, .static yX9_isWithin, .initialized RX9, .code yX9_isWithin cX9_isWithin 3 (some .boolean)] ++ wsX90 ++ wsX40 ++ wsX70)
noncomputable def wsX9_livingInAny : List Cond := .code yX9_livingInAny cX9_livingInAny 4 (some .int) :: ([.fieldLink RX9 23 "KindStreets" "town" "LKindStreets$Town;", .fieldLink RX9 260 "KindStreets$Town" "citizens" "I", .fieldLink RX9 29 "KindStreets" "now" "LKindStreets$Now;", .fieldLink RX9 98 "KindStreets$Now" "moment" "LKindStreets$Moment;", .fieldLink RX9 123 "KindStreets$Moment" "home" "[I", .methodLink RX9 254 yX5_has, .static yX5_has, .initialized RX5, .code yX5_has cX5_has 2 (some .boolean)] ++ wsX90 ++ wsX40 ++ wsX70 ++ wsX30 ++ wsX20)
noncomputable def wsX9_livingIn : List Cond := .code yX9_livingIn cX9_livingIn 2 (some .int) :: ([.methodLink RX9 289 yX9_livingInAny, .instanceMethod yX9_livingInAny, .selects RX9 yX9_livingInAny yX9_livingInAny, .initialized RX9, .code yX9_livingInAny cX9_livingInAny 4 (some .int), .fieldLink RX9 23 "KindStreets" "town" "LKindStreets$Town;", .fieldLink RX9 260 "KindStreets$Town" "citizens" "I", .fieldLink RX9 29 "KindStreets" "now" "LKindStreets$Now;", .fieldLink RX9 98 "KindStreets$Now" "moment" "LKindStreets$Moment;", .fieldLink RX9 123 "KindStreets$Moment" "home" "[I", .methodLink RX9 254 yX5_has, .static yX5_has, .initialized RX5, .code yX5_has cX5_has 2 (some .boolean)] ++ wsX90 ++ wsX40 ++ wsX70 ++ wsX30 ++ wsX20)
noncomputable def wsX9_street_r1 : List Cond := [Cond.fieldLink RX9 23 "KindStreets" "town" "LKindStreets$Town;", Cond.fieldLink RX9 91 "KindStreets$Town" "one" "[I", Cond.fieldLink RX9 95 "KindStreets$Town" "other" "[I", Cond.fieldLink RX9 29 "KindStreets" "now" "LKindStreets$Now;", Cond.fieldLink RX9 98 "KindStreets$Now" "moment" "LKindStreets$Moment;", Cond.fieldLink RX9 102 "KindStreets$Moment" "seen" "[I", Cond.fieldLink RX9 107 "KindStreets$Moment" "hidden" "[I", Cond.fieldLink RX9 110 "KindStreets$Moment" "pretended" "[I", Cond.methodLink RX9 87 yX9_isStreet, Cond.instanceMethod yX9_isStreet, Cond.selects RX9 yX9_isStreet yX9_isStreet, Cond.initialized RX9, Cond.code yX9_isStreet cX9_isStreet 2 (some .boolean), Cond.fieldLink RX9 189 "KindStreets$Town" "streets" "I", Cond.methodLink RX9 58 yX9_isWithin, Cond.static yX9_isWithin, Cond.code yX9_isWithin cX9_isWithin 3 (some .boolean), Cond.methodLink RX9 113 yX2_widthOf, Cond.instanceMethod yX2_widthOf, Cond.selects RX2 yX2_widthOf yX2_widthOf, Cond.initialized RX2, Cond.code yX2_widthOf cX2_widthOf 2 (some .int), Cond.fieldLink RX2 9 "KindStreets$Moment" "seen" "[I", Cond.fieldLink RX2 18 "KindStreets$Moment" "pretended" "[I"]
noncomputable def wsX9_street_r2 : List Cond := [Cond.fieldLink RX2 42 "KindStreets$Moment" "night" "I", Cond.methodLink RX2 46 yX2_widthBy, Cond.static yX2_widthBy, Cond.code yX2_widthBy cX2_widthBy 3 (some .int), Cond.methodLink RX2 50 Lib.Math.max.name, Cond.static Lib.Math.max.name, Cond.initialized "java/lang/Math", Cond.code Lib.Math.max.name Lib.Math.max.code 2 (some .int), Cond.methodLink RX9 117 yX9_livingIn, Cond.instanceMethod yX9_livingIn, Cond.selects RX9 yX9_livingIn yX9_livingIn, Cond.code yX9_livingIn cX9_livingIn 2 (some .int), Cond.methodLink RX9 289 yX9_livingInAny, Cond.instanceMethod yX9_livingInAny, Cond.selects RX9 yX9_livingInAny yX9_livingInAny, Cond.code yX9_livingInAny cX9_livingInAny 4 (some .int), Cond.fieldLink RX9 260 "KindStreets$Town" "citizens" "I", Cond.fieldLink RX9 123 "KindStreets$Moment" "home" "[I", Cond.methodLink RX9 254 yX5_has, Cond.static yX5_has, Cond.initialized RX5, Cond.code yX5_has cX5_has 2 (some .boolean)]
noncomputable def wsX9_street : List Cond := .code yX9_street cX9_street 3 (some .int) :: ((wsX9_street_r1 ++ wsX9_street_r2) ++ wsX90 ++ wsX40 ++ wsX70 ++ wsX30 ++ wsX20)
noncomputable def wsX9_isCitizen : List Cond := .code yX9_isCitizen cX9_isCitizen 2 (some .boolean) :: ([.fieldLink RX9 23 "KindStreets" "town" "LKindStreets$Town;", .fieldLink RX9 260 "KindStreets$Town" "citizens" "I", .methodLink RX9 58 yX9_isWithin, .static yX9_isWithin, .initialized RX9, .code yX9_isWithin cX9_isWithin 3 (some .boolean)] ++ wsX90 ++ wsX40 ++ wsX70)
noncomputable def wsX9_streetsAt : List Cond := .code yX9_streetsAt cX9_streetsAt 4 (some .int) :: ([.fieldLink RX9 23 "KindStreets" "town" "LKindStreets$Town;", .fieldLink RX9 189 "KindStreets$Town" "streets" "I", .methodLink RX9 286 ⟨"KindStreets$Town", "endsOf", "(I)I"⟩, .sameMethod "KindStreets$Town" "KindStreets$Town" "endsOf" "(I)I", .selects RX4 ⟨"KindStreets$Town", "endsOf", "(I)I"⟩ yX7_endsOf, .instanceMethod yX7_endsOf, .initialized RX7, .code yX7_endsOf cX7_endsOf 2 (some .int), .fieldLink RX7 15 "KindStreets$Town" "one" "[I", .fieldLink RX7 19 "KindStreets$Town" "other" "[I", .methodLink RX9 286 yX7_endsOf, .selects RX7 yX7_endsOf yX7_endsOf] ++ wsX90 ++ wsX40 ++ wsX70)
noncomputable def wsX9_witnessesOf_r1 : List Cond := [Cond.fieldLink RX9 29 "KindStreets" "now" "LKindStreets$Now;", Cond.fieldLink RX9 98 "KindStreets$Now" "moment" "LKindStreets$Moment;", Cond.fieldLink RX9 123 "KindStreets$Moment" "home" "[I", Cond.methodLink RX9 277 yX9_streetsAt, Cond.instanceMethod yX9_streetsAt, Cond.selects RX9 yX9_streetsAt yX9_streetsAt, Cond.initialized RX9, Cond.code yX9_streetsAt cX9_streetsAt 4 (some .int), Cond.fieldLink RX9 23 "KindStreets" "town" "LKindStreets$Town;", Cond.fieldLink RX9 189 "KindStreets$Town" "streets" "I", Cond.methodLink RX9 286 ⟨"KindStreets$Town", "endsOf", "(I)I"⟩, Cond.sameMethod "KindStreets$Town" "KindStreets$Town" "endsOf" "(I)I", Cond.selects RX4 ⟨"KindStreets$Town", "endsOf", "(I)I"⟩ yX7_endsOf, Cond.instanceMethod yX7_endsOf, Cond.initialized RX7, Cond.code yX7_endsOf cX7_endsOf 2 (some .int), Cond.fieldLink RX7 15 "KindStreets$Town" "one" "[I", Cond.fieldLink RX7 19 "KindStreets$Town" "other" "[I", Cond.methodLink RX9 286 yX7_endsOf, Cond.selects RX7 yX7_endsOf yX7_endsOf, Cond.methodLink RX9 289 yX9_livingInAny, Cond.instanceMethod yX9_livingInAny, Cond.selects RX9 yX9_livingInAny yX9_livingInAny, Cond.code yX9_livingInAny cX9_livingInAny 4 (some .int)]
noncomputable def wsX9_witnessesOf_r2 : List Cond := [Cond.fieldLink RX9 260 "KindStreets$Town" "citizens" "I", Cond.methodLink RX9 254 yX5_has, Cond.static yX5_has, Cond.initialized RX5, Cond.code yX5_has cX5_has 2 (some .boolean), Cond.methodLink RX9 292 yX5_without, Cond.static yX5_without, Cond.code yX5_without cX5_without 2 (some .int)]
noncomputable def wsX9_witnessesOf : List Cond := .code yX9_witnessesOf cX9_witnessesOf 2 (some .int) :: ((wsX9_witnessesOf_r1 ++ wsX9_witnessesOf_r2) ++ wsX90 ++ wsX30 ++ wsX20 ++ wsX40 ++ wsX70)
noncomputable def wsX9_citizen_r1 : List Cond := [Cond.fieldLink RX9 29 "KindStreets" "now" "LKindStreets$Now;", Cond.fieldLink RX9 98 "KindStreets$Now" "moment" "LKindStreets$Moment;", Cond.fieldLink RX9 123 "KindStreets$Moment" "home" "[I", Cond.fieldLink RX9 23 "KindStreets" "town" "LKindStreets$Town;", Cond.fieldLink RX9 126 "KindStreets$Town" "wants" "[I", Cond.methodLink RX9 120 yX9_isCitizen, Cond.instanceMethod yX9_isCitizen, Cond.selects RX9 yX9_isCitizen yX9_isCitizen, Cond.initialized RX9, Cond.code yX9_isCitizen cX9_isCitizen 2 (some .boolean), Cond.fieldLink RX9 260 "KindStreets$Town" "citizens" "I", Cond.methodLink RX9 58 yX9_isWithin, Cond.static yX9_isWithin, Cond.code yX9_isWithin cX9_isWithin 3 (some .boolean), Cond.methodLink RX9 129 yX9_witnessesOf, Cond.instanceMethod yX9_witnessesOf, Cond.selects RX9 yX9_witnessesOf yX9_witnessesOf, Cond.code yX9_witnessesOf cX9_witnessesOf 2 (some .int), Cond.methodLink RX9 277 yX9_streetsAt, Cond.instanceMethod yX9_streetsAt, Cond.selects RX9 yX9_streetsAt yX9_streetsAt, Cond.code yX9_streetsAt cX9_streetsAt 4 (some .int), Cond.fieldLink RX9 189 "KindStreets$Town" "streets" "I", Cond.methodLink RX9 286 ⟨"KindStreets$Town", "endsOf", "(I)I"⟩]
noncomputable def wsX9_citizen_r2 : List Cond := [Cond.sameMethod "KindStreets$Town" "KindStreets$Town" "endsOf" "(I)I", Cond.selects RX4 ⟨"KindStreets$Town", "endsOf", "(I)I"⟩ yX7_endsOf, Cond.instanceMethod yX7_endsOf, Cond.initialized RX7, Cond.code yX7_endsOf cX7_endsOf 2 (some .int), Cond.fieldLink RX7 15 "KindStreets$Town" "one" "[I", Cond.fieldLink RX7 19 "KindStreets$Town" "other" "[I", Cond.methodLink RX9 286 yX7_endsOf, Cond.selects RX7 yX7_endsOf yX7_endsOf, Cond.methodLink RX9 289 yX9_livingInAny, Cond.instanceMethod yX9_livingInAny, Cond.selects RX9 yX9_livingInAny yX9_livingInAny, Cond.code yX9_livingInAny cX9_livingInAny 4 (some .int), Cond.methodLink RX9 254 yX5_has, Cond.static yX5_has, Cond.initialized RX5, Cond.code yX5_has cX5_has 2 (some .boolean), Cond.methodLink RX9 292 yX5_without, Cond.static yX5_without, Cond.code yX5_without cX5_without 2 (some .int)]
noncomputable def wsX9_citizen : List Cond := .code yX9_citizen cX9_citizen 3 (some .int) :: ((wsX9_citizen_r1 ++ wsX9_citizen_r2) ++ wsX90 ++ wsX30 ++ wsX20 ++ wsX40 ++ wsX70)
noncomputable def wsX9_raise : List Cond := .code yX9_raise cX9_raise 3 none :: ([.methodLink RX9 281 Lib.Math.max.name, .static Lib.Math.max.name, .initialized "java/lang/Math", .code Lib.Math.max.name Lib.Math.max.code 2 (some .int)])
noncomputable def wsX9_does_r1 : List Cond := [Cond.fieldLink RX9 29 "KindStreets" "now" "LKindStreets$Now;", Cond.fieldLink RX9 98 "KindStreets$Now" "moment" "LKindStreets$Moment;", Cond.fieldLink RX9 123 "KindStreets$Moment" "home" "[I", Cond.fieldLink RX9 102 "KindStreets$Moment" "seen" "[I", Cond.fieldLink RX9 110 "KindStreets$Moment" "pretended" "[I", Cond.fieldLink RX9 107 "KindStreets$Moment" "hidden" "[I", Cond.methodLink RX9 120 yX9_isCitizen, Cond.instanceMethod yX9_isCitizen, Cond.selects RX9 yX9_isCitizen yX9_isCitizen, Cond.initialized RX9, Cond.code yX9_isCitizen cX9_isCitizen 2 (some .boolean), Cond.fieldLink RX9 23 "KindStreets" "town" "LKindStreets$Town;", Cond.fieldLink RX9 260 "KindStreets$Town" "citizens" "I", Cond.methodLink RX9 58 yX9_isWithin, Cond.static yX9_isWithin, Cond.code yX9_isWithin cX9_isWithin 3 (some .boolean), Cond.methodLink RX9 132 yX3_remember, Cond.instanceMethod yX3_remember, Cond.selects RX3 yX3_remember yX3_remember, Cond.initialized RX3, Cond.code yX3_remember cX3_remember 1 none, Cond.fieldLink RX3 26 "KindStreets$Now" "known" "I", Cond.fieldLink RX3 18 "KindStreets$Now" "past" "[LKindStreets$Moment;", Cond.fieldLink RX3 12 "KindStreets$Now" "moment" "LKindStreets$Moment;"]
noncomputable def wsX9_does_r2 : List Cond := [Cond.methodLink RX3 34 yX3_loseOldest, Cond.instanceMethod yX3_loseOldest, Cond.selects RX3 yX3_loseOldest yX3_loseOldest, Cond.code yX3_loseOldest cX3_loseOldest 3 none, Cond.methodLink RX3 30 yX2_become, Cond.instanceMethod yX2_become, Cond.selects RX2 yX2_become yX2_become, Cond.initialized RX2, Cond.code yX2_become cX2_become 2 none, Cond.fieldLink RX2 9 "KindStreets$Moment" "seen" "[I", Cond.methodLink RX2 29 arraycopyName, Cond.native arraycopyName, Cond.static arraycopyName, Cond.initialized "java/lang/System", Cond.fieldLink RX2 15 "KindStreets$Moment" "hidden" "[I", Cond.fieldLink RX2 18 "KindStreets$Moment" "pretended" "[I", Cond.fieldLink RX2 21 "KindStreets$Moment" "home" "[I", Cond.fieldLink RX2 42 "KindStreets$Moment" "night" "I", Cond.methodLink RX9 129 yX9_witnessesOf, Cond.instanceMethod yX9_witnessesOf, Cond.selects RX9 yX9_witnessesOf yX9_witnessesOf, Cond.code yX9_witnessesOf cX9_witnessesOf 2 (some .int), Cond.methodLink RX9 277 yX9_streetsAt, Cond.instanceMethod yX9_streetsAt]
noncomputable def wsX9_does_r3 : List Cond := [Cond.selects RX9 yX9_streetsAt yX9_streetsAt, Cond.code yX9_streetsAt cX9_streetsAt 4 (some .int), Cond.fieldLink RX9 189 "KindStreets$Town" "streets" "I", Cond.methodLink RX9 286 ⟨"KindStreets$Town", "endsOf", "(I)I"⟩, Cond.sameMethod "KindStreets$Town" "KindStreets$Town" "endsOf" "(I)I", Cond.selects RX4 ⟨"KindStreets$Town", "endsOf", "(I)I"⟩ yX7_endsOf, Cond.instanceMethod yX7_endsOf, Cond.initialized RX7, Cond.code yX7_endsOf cX7_endsOf 2 (some .int), Cond.fieldLink RX7 15 "KindStreets$Town" "one" "[I", Cond.fieldLink RX7 19 "KindStreets$Town" "other" "[I", Cond.methodLink RX9 286 yX7_endsOf, Cond.selects RX7 yX7_endsOf yX7_endsOf, Cond.methodLink RX9 289 yX9_livingInAny, Cond.instanceMethod yX9_livingInAny, Cond.selects RX9 yX9_livingInAny yX9_livingInAny, Cond.code yX9_livingInAny cX9_livingInAny 4 (some .int), Cond.methodLink RX9 254 yX5_has, Cond.static yX5_has, Cond.initialized RX5, Cond.code yX5_has cX5_has 2 (some .boolean), Cond.methodLink RX9 292 yX5_without, Cond.static yX5_without, Cond.code yX5_without cX5_without 2 (some .int)]
noncomputable def wsX9_does_r4 : List Cond := [Cond.methodLink RX9 135 yJ6_bitCount_0f7a4, Cond.static yJ6_bitCount_0f7a4, Cond.initialized RJ6, Cond.code yJ6_bitCount_0f7a4 cJ6_bitCount_0f7a4 1 (some .int), Cond.constant RJ6 265 (1431655765), Cond.constant RJ6 266 (858993459), Cond.constant RJ6 267 (252645135), Cond.methodLink RX9 140 yX9_raise, Cond.static yX9_raise, Cond.code yX9_raise cX9_raise 3 none, Cond.methodLink RX9 281 Lib.Math.max.name, Cond.static Lib.Math.max.name, Cond.initialized "java/lang/Math", Cond.code Lib.Math.max.name Lib.Math.max.code 2 (some .int), Cond.methodLink RX9 113 yX2_widthOf, Cond.instanceMethod yX2_widthOf, Cond.selects RX2 yX2_widthOf yX2_widthOf, Cond.code yX2_widthOf cX2_widthOf 2 (some .int), Cond.methodLink RX2 46 yX2_widthBy, Cond.static yX2_widthBy, Cond.code yX2_widthBy cX2_widthBy 3 (some .int), Cond.methodLink RX2 50 Lib.Math.max.name]
noncomputable def wsX9_does : List Cond := .code yX9_does cX9_does 6 (some .int) :: ((wsX9_does_r1 ++ (wsX9_does_r2 ++ (wsX9_does_r3 ++ wsX9_does_r4))) ++ wsX90 ++ wsX30 ++ wsX20 ++ wsX40 ++ wsX70)
noncomputable def wsX9_wills_r1 : List Cond := [Cond.fieldLink RX9 29 "KindStreets" "now" "LKindStreets$Now;", Cond.fieldLink RX9 98 "KindStreets$Now" "moment" "LKindStreets$Moment;", Cond.fieldLink RX9 107 "KindStreets$Moment" "hidden" "[I", Cond.fieldLink RX9 102 "KindStreets$Moment" "seen" "[I", Cond.methodLink RX9 87 yX9_isStreet, Cond.instanceMethod yX9_isStreet, Cond.selects RX9 yX9_isStreet yX9_isStreet, Cond.initialized RX9, Cond.code yX9_isStreet cX9_isStreet 2 (some .boolean), Cond.fieldLink RX9 23 "KindStreets" "town" "LKindStreets$Town;", Cond.fieldLink RX9 189 "KindStreets$Town" "streets" "I", Cond.methodLink RX9 58 yX9_isWithin, Cond.static yX9_isWithin, Cond.code yX9_isWithin cX9_isWithin 3 (some .boolean), Cond.methodLink RX9 132 yX3_remember, Cond.instanceMethod yX3_remember, Cond.selects RX3 yX3_remember yX3_remember, Cond.initialized RX3, Cond.code yX3_remember cX3_remember 1 none, Cond.fieldLink RX3 26 "KindStreets$Now" "known" "I", Cond.fieldLink RX3 18 "KindStreets$Now" "past" "[LKindStreets$Moment;", Cond.fieldLink RX3 12 "KindStreets$Now" "moment" "LKindStreets$Moment;", Cond.methodLink RX3 34 yX3_loseOldest, Cond.instanceMethod yX3_loseOldest]
noncomputable def wsX9_wills_r2 : List Cond := [Cond.selects RX3 yX3_loseOldest yX3_loseOldest, Cond.code yX3_loseOldest cX3_loseOldest 3 none, Cond.methodLink RX3 30 yX2_become, Cond.instanceMethod yX2_become, Cond.selects RX2 yX2_become yX2_become, Cond.initialized RX2, Cond.code yX2_become cX2_become 2 none, Cond.fieldLink RX2 9 "KindStreets$Moment" "seen" "[I", Cond.methodLink RX2 29 arraycopyName, Cond.native arraycopyName, Cond.static arraycopyName, Cond.initialized "java/lang/System", Cond.fieldLink RX2 15 "KindStreets$Moment" "hidden" "[I", Cond.fieldLink RX2 18 "KindStreets$Moment" "pretended" "[I", Cond.fieldLink RX2 21 "KindStreets$Moment" "home" "[I", Cond.fieldLink RX2 42 "KindStreets$Moment" "night" "I", Cond.methodLink RX9 140 yX9_raise, Cond.static yX9_raise, Cond.code yX9_raise cX9_raise 3 none, Cond.methodLink RX9 281 Lib.Math.max.name, Cond.static Lib.Math.max.name, Cond.initialized "java/lang/Math", Cond.code Lib.Math.max.name Lib.Math.max.code 2 (some .int)]
noncomputable def wsX9_wills : List Cond := .code yX9_wills cX9_wills 3 (some .int) :: ((wsX9_wills_r1 ++ wsX9_wills_r2) ++ wsX90 ++ wsX30 ++ wsX20 ++ wsX40 ++ wsX70)
noncomputable def wsX9_moves_r1 : List Cond := [Cond.fieldLink RX9 29 "KindStreets" "now" "LKindStreets$Now;", Cond.fieldLink RX9 98 "KindStreets$Now" "moment" "LKindStreets$Moment;", Cond.fieldLink RX9 123 "KindStreets$Moment" "home" "[I", Cond.methodLink RX9 120 yX9_isCitizen, Cond.instanceMethod yX9_isCitizen, Cond.selects RX9 yX9_isCitizen yX9_isCitizen, Cond.initialized RX9, Cond.code yX9_isCitizen cX9_isCitizen 2 (some .boolean), Cond.fieldLink RX9 23 "KindStreets" "town" "LKindStreets$Town;", Cond.fieldLink RX9 260 "KindStreets$Town" "citizens" "I", Cond.methodLink RX9 58 yX9_isWithin, Cond.static yX9_isWithin, Cond.code yX9_isWithin cX9_isWithin 3 (some .boolean), Cond.methodLink RX9 87 yX9_isStreet, Cond.instanceMethod yX9_isStreet, Cond.selects RX9 yX9_isStreet yX9_isStreet, Cond.code yX9_isStreet cX9_isStreet 2 (some .boolean), Cond.fieldLink RX9 189 "KindStreets$Town" "streets" "I", Cond.methodLink RX9 132 yX3_remember, Cond.instanceMethod yX3_remember, Cond.selects RX3 yX3_remember yX3_remember, Cond.initialized RX3, Cond.code yX3_remember cX3_remember 1 none, Cond.fieldLink RX3 26 "KindStreets$Now" "known" "I"]
noncomputable def wsX9_moves_r2 : List Cond := [Cond.fieldLink RX3 18 "KindStreets$Now" "past" "[LKindStreets$Moment;", Cond.fieldLink RX3 12 "KindStreets$Now" "moment" "LKindStreets$Moment;", Cond.methodLink RX3 34 yX3_loseOldest, Cond.instanceMethod yX3_loseOldest, Cond.selects RX3 yX3_loseOldest yX3_loseOldest, Cond.code yX3_loseOldest cX3_loseOldest 3 none, Cond.methodLink RX3 30 yX2_become, Cond.instanceMethod yX2_become, Cond.selects RX2 yX2_become yX2_become, Cond.initialized RX2, Cond.code yX2_become cX2_become 2 none, Cond.fieldLink RX2 9 "KindStreets$Moment" "seen" "[I", Cond.methodLink RX2 29 arraycopyName, Cond.native arraycopyName, Cond.static arraycopyName, Cond.initialized "java/lang/System", Cond.fieldLink RX2 15 "KindStreets$Moment" "hidden" "[I", Cond.fieldLink RX2 18 "KindStreets$Moment" "pretended" "[I", Cond.fieldLink RX2 21 "KindStreets$Moment" "home" "[I", Cond.fieldLink RX2 42 "KindStreets$Moment" "night" "I"]
noncomputable def wsX9_moves : List Cond := .code yX9_moves cX9_moves 4 (some .int) :: ((wsX9_moves_r1 ++ wsX9_moves_r2) ++ wsX90 ++ wsX30 ++ wsX20 ++ wsX40 ++ wsX70)
noncomputable def wsX9_widthsTogether : List Cond := .code yX9_widthsTogether cX9_widthsTogether 3 (some .int) :: ([.fieldLink RX9 23 "KindStreets" "town" "LKindStreets$Town;", .fieldLink RX9 189 "KindStreets$Town" "streets" "I", .fieldLink RX9 29 "KindStreets" "now" "LKindStreets$Now;", .fieldLink RX9 98 "KindStreets$Now" "moment" "LKindStreets$Moment;", .methodLink RX9 113 yX2_widthOf, .instanceMethod yX2_widthOf, .selects RX2 yX2_widthOf yX2_widthOf, .initialized RX2, .code yX2_widthOf cX2_widthOf 2 (some .int), .fieldLink RX2 9 "KindStreets$Moment" "seen" "[I", .fieldLink RX2 18 "KindStreets$Moment" "pretended" "[I", .fieldLink RX2 42 "KindStreets$Moment" "night" "I", .methodLink RX2 46 yX2_widthBy, .static yX2_widthBy, .code yX2_widthBy cX2_widthBy 3 (some .int), .methodLink RX2 50 Lib.Math.max.name, .static Lib.Math.max.name, .initialized "java/lang/Math", .code Lib.Math.max.name Lib.Math.max.code 2 (some .int)] ++ wsX90 ++ wsX40 ++ wsX70 ++ wsX30 ++ wsX20)
noncomputable def wsX9_night_r1 : List Cond := [Cond.fieldLink RX9 29 "KindStreets" "now" "LKindStreets$Now;", Cond.fieldLink RX9 98 "KindStreets$Now" "moment" "LKindStreets$Moment;", Cond.fieldLink RX9 144 "KindStreets$Moment" "night" "I", Cond.methodLink RX9 58 yX9_isWithin, Cond.static yX9_isWithin, Cond.initialized RX9, Cond.code yX9_isWithin cX9_isWithin 3 (some .boolean), Cond.methodLink RX9 132 yX3_remember, Cond.instanceMethod yX3_remember, Cond.selects RX3 yX3_remember yX3_remember, Cond.initialized RX3, Cond.code yX3_remember cX3_remember 1 none, Cond.fieldLink RX3 26 "KindStreets$Now" "known" "I", Cond.fieldLink RX3 18 "KindStreets$Now" "past" "[LKindStreets$Moment;", Cond.fieldLink RX3 12 "KindStreets$Now" "moment" "LKindStreets$Moment;", Cond.methodLink RX3 34 yX3_loseOldest, Cond.instanceMethod yX3_loseOldest, Cond.selects RX3 yX3_loseOldest yX3_loseOldest, Cond.code yX3_loseOldest cX3_loseOldest 3 none, Cond.methodLink RX3 30 yX2_become, Cond.instanceMethod yX2_become, Cond.selects RX2 yX2_become yX2_become, Cond.initialized RX2, Cond.code yX2_become cX2_become 2 none]
noncomputable def wsX9_night_r2 : List Cond := [Cond.fieldLink RX2 9 "KindStreets$Moment" "seen" "[I", Cond.methodLink RX2 29 arraycopyName, Cond.native arraycopyName, Cond.static arraycopyName, Cond.initialized "java/lang/System", Cond.fieldLink RX2 15 "KindStreets$Moment" "hidden" "[I", Cond.fieldLink RX2 18 "KindStreets$Moment" "pretended" "[I", Cond.fieldLink RX2 21 "KindStreets$Moment" "home" "[I", Cond.fieldLink RX2 42 "KindStreets$Moment" "night" "I", Cond.methodLink RX9 147 yX9_widthsTogether, Cond.instanceMethod yX9_widthsTogether, Cond.selects RX9 yX9_widthsTogether yX9_widthsTogether, Cond.code yX9_widthsTogether cX9_widthsTogether 3 (some .int), Cond.fieldLink RX9 23 "KindStreets" "town" "LKindStreets$Town;", Cond.fieldLink RX9 189 "KindStreets$Town" "streets" "I", Cond.methodLink RX9 113 yX2_widthOf, Cond.instanceMethod yX2_widthOf, Cond.selects RX2 yX2_widthOf yX2_widthOf, Cond.code yX2_widthOf cX2_widthOf 2 (some .int), Cond.methodLink RX2 46 yX2_widthBy, Cond.static yX2_widthBy, Cond.code yX2_widthBy cX2_widthBy 3 (some .int), Cond.methodLink RX2 50 Lib.Math.max.name, Cond.static Lib.Math.max.name]
noncomputable def wsX9_night_r3 : List Cond := [Cond.initialized "java/lang/Math", Cond.code Lib.Math.max.name Lib.Math.max.code 2 (some .int)]
noncomputable def wsX9_night : List Cond := .code yX9_night cX9_night 2 (some .int) :: ((wsX9_night_r1 ++ (wsX9_night_r2 ++ wsX9_night_r3)) ++ wsX90 ++ wsX30 ++ wsX20 ++ wsX40 ++ wsX70)
noncomputable def wsX9_undo : List Cond := .code yX9_undo cX9_undo 1 (some .int) :: ([.fieldLink RX9 29 "KindStreets" "now" "LKindStreets$Now;", .fieldLink RX9 151 "KindStreets$Now" "known" "I", .methodLink RX9 154 yX3_recall, .instanceMethod yX3_recall, .selects RX3 yX3_recall yX3_recall, .initialized RX3, .code yX3_recall cX3_recall 1 none, .fieldLink RX3 26 "KindStreets$Now" "known" "I", .fieldLink RX3 12 "KindStreets$Now" "moment" "LKindStreets$Moment;", .fieldLink RX3 18 "KindStreets$Now" "past" "[LKindStreets$Moment;", .methodLink RX3 30 yX2_become, .instanceMethod yX2_become, .selects RX2 yX2_become yX2_become, .initialized RX2, .code yX2_become cX2_become 2 none, .fieldLink RX2 9 "KindStreets$Moment" "seen" "[I", .methodLink RX2 29 arraycopyName, .native arraycopyName, .static arraycopyName, .initialized "java/lang/System", .fieldLink RX2 15 "KindStreets$Moment" "hidden" "[I", .fieldLink RX2 18 "KindStreets$Moment" "pretended" "[I", .fieldLink RX2 21 "KindStreets$Moment" "home" "[I", .fieldLink RX2 42 "KindStreets$Moment" "night" "I"] ++ wsX90 ++ wsX30 ++ wsX20)
noncomputable def wsX9_streetsWithHidden : List Cond := .code yX9_streetsWithHidden cX9_streetsWithHidden 3 (some .int) :: ([.fieldLink RX9 23 "KindStreets" "town" "LKindStreets$Town;", .fieldLink RX9 189 "KindStreets$Town" "streets" "I", .fieldLink RX9 29 "KindStreets" "now" "LKindStreets$Now;", .fieldLink RX9 98 "KindStreets$Now" "moment" "LKindStreets$Moment;", .fieldLink RX9 107 "KindStreets$Moment" "hidden" "[I"] ++ wsX90 ++ wsX40 ++ wsX70 ++ wsX30 ++ wsX20)
noncomputable def wsX9_now_r1 : List Cond := [Cond.fieldLink RX9 29 "KindStreets" "now" "LKindStreets$Now;", Cond.fieldLink RX9 98 "KindStreets$Now" "moment" "LKindStreets$Moment;", Cond.fieldLink RX9 144 "KindStreets$Moment" "night" "I", Cond.methodLink RX9 147 yX9_widthsTogether, Cond.instanceMethod yX9_widthsTogether, Cond.selects RX9 yX9_widthsTogether yX9_widthsTogether, Cond.initialized RX9, Cond.code yX9_widthsTogether cX9_widthsTogether 3 (some .int), Cond.fieldLink RX9 23 "KindStreets" "town" "LKindStreets$Town;", Cond.fieldLink RX9 189 "KindStreets$Town" "streets" "I", Cond.methodLink RX9 113 yX2_widthOf, Cond.instanceMethod yX2_widthOf, Cond.selects RX2 yX2_widthOf yX2_widthOf, Cond.initialized RX2, Cond.code yX2_widthOf cX2_widthOf 2 (some .int), Cond.fieldLink RX2 9 "KindStreets$Moment" "seen" "[I", Cond.fieldLink RX2 18 "KindStreets$Moment" "pretended" "[I", Cond.fieldLink RX2 42 "KindStreets$Moment" "night" "I", Cond.methodLink RX2 46 yX2_widthBy, Cond.static yX2_widthBy, Cond.code yX2_widthBy cX2_widthBy 3 (some .int), Cond.methodLink RX2 50 Lib.Math.max.name, Cond.static Lib.Math.max.name, Cond.initialized "java/lang/Math"]
noncomputable def wsX9_now_r2 : List Cond := [Cond.code Lib.Math.max.name Lib.Math.max.code 2 (some .int), Cond.methodLink RX9 157 yX9_streetsWithHidden, Cond.instanceMethod yX9_streetsWithHidden, Cond.selects RX9 yX9_streetsWithHidden yX9_streetsWithHidden, Cond.code yX9_streetsWithHidden cX9_streetsWithHidden 3 (some .int), Cond.fieldLink RX9 107 "KindStreets$Moment" "hidden" "[I"]
noncomputable def wsX9_now : List Cond := .code yX9_now cX9_now 2 (some .int) :: ((wsX9_now_r1 ++ wsX9_now_r2) ++ wsX90 ++ wsX30 ++ wsX20 ++ wsX40 ++ wsX70)
noncomputable def wsX9_areUnlikeYards : List Cond := .code yX9_areUnlikeYards cX9_areUnlikeYards 3 (some .boolean) :: ([.fieldLink RX9 23 "KindStreets" "town" "LKindStreets$Town;", .fieldLink RX9 257 "KindStreets$Town" "yards" "I", .methodLink RX9 58 yX9_isWithin, .static yX9_isWithin, .initialized RX9, .code yX9_isWithin cX9_isWithin 3 (some .boolean)] ++ wsX90 ++ wsX40 ++ wsX70)
noncomputable def wsX9_waysNow_r1 : List Cond := [Cond.fieldLink RX9 40 "KindStreets" "ways" "LKindStreets$Ways;", Cond.fieldLink RX9 280 "KindStreets$Ways" "plan" "LKindStreets$Plan;", Cond.fieldLink RX9 23 "KindStreets" "town" "LKindStreets$Town;", Cond.fieldLink RX9 29 "KindStreets" "now" "LKindStreets$Now;", Cond.fieldLink RX9 98 "KindStreets$Now" "moment" "LKindStreets$Moment;", Cond.methodLink RX9 208 yX4_draw, Cond.instanceMethod yX4_draw, Cond.selects RX4 yX4_draw yX4_draw, Cond.initialized RX4, Cond.code yX4_draw cX4_draw 4 none, Cond.fieldLink RX4 19 "KindStreets$Town" "streets" "I", Cond.fieldLink RX4 9 "KindStreets$Plan" "width" "[I", Cond.methodLink RX4 15 ⟨"KindStreets$Plan", "become", "(LKindStreets$Town;)V"⟩, Cond.sameMethod "KindStreets$Plan" "KindStreets$Town" "become" "(LKindStreets$Town;)V", Cond.selects RX4 ⟨"KindStreets$Plan", "become", "(LKindStreets$Town;)V"⟩ yX7_become, Cond.instanceMethod yX7_become, Cond.initialized RX7, Cond.code yX7_become cX7_become 2 none, Cond.fieldLink RX7 9 "KindStreets$Town" "yards" "I", Cond.fieldLink RX7 31 "KindStreets$Town" "streets" "I", Cond.fieldLink RX7 34 "KindStreets$Town" "citizens" "I", Cond.fieldLink RX7 15 "KindStreets$Town" "one" "[I", Cond.methodLink RX7 37 arraycopyName, Cond.native arraycopyName]
noncomputable def wsX9_waysNow_r2 : List Cond := [Cond.static arraycopyName, Cond.initialized "java/lang/System", Cond.fieldLink RX7 19 "KindStreets$Town" "other" "[I", Cond.fieldLink RX7 22 "KindStreets$Town" "old" "[I", Cond.fieldLink RX7 25 "KindStreets$Town" "home" "[I", Cond.fieldLink RX7 28 "KindStreets$Town" "wants" "[I", Cond.methodLink RX4 23 yX2_widthOf, Cond.instanceMethod yX2_widthOf, Cond.selects RX2 yX2_widthOf yX2_widthOf, Cond.initialized RX2, Cond.code yX2_widthOf cX2_widthOf 2 (some .int), Cond.fieldLink RX2 9 "KindStreets$Moment" "seen" "[I", Cond.fieldLink RX2 18 "KindStreets$Moment" "pretended" "[I", Cond.fieldLink RX2 42 "KindStreets$Moment" "night" "I", Cond.methodLink RX2 46 yX2_widthBy, Cond.static yX2_widthBy, Cond.code yX2_widthBy cX2_widthBy 3 (some .int), Cond.methodLink RX2 50 Lib.Math.max.name, Cond.static Lib.Math.max.name, Cond.initialized "java/lang/Math", Cond.code Lib.Math.max.name Lib.Math.max.code 2 (some .int)]
noncomputable def wsX9_waysNow : List Cond := .code yX9_waysNow cX9_waysNow 1 (some (.object "KindStreets$Ways")) :: ((wsX9_waysNow_r1 ++ wsX9_waysNow_r2) ++ wsX90 ++ wsX80 ++ wsX30 ++ wsX40 ++ wsX70 ++ wsX20)
noncomputable def wsX9_widest_r1 : List Cond := [Cond.methodLink RX9 160 yX9_areUnlikeYards, Cond.instanceMethod yX9_areUnlikeYards, Cond.selects RX9 yX9_areUnlikeYards yX9_areUnlikeYards, Cond.initialized RX9, Cond.code yX9_areUnlikeYards cX9_areUnlikeYards 3 (some .boolean), Cond.fieldLink RX9 23 "KindStreets" "town" "LKindStreets$Town;", Cond.fieldLink RX9 257 "KindStreets$Town" "yards" "I", Cond.methodLink RX9 58 yX9_isWithin, Cond.static yX9_isWithin, Cond.code yX9_isWithin cX9_isWithin 3 (some .boolean), Cond.methodLink RX9 164 yX9_waysNow, Cond.instanceMethod yX9_waysNow, Cond.selects RX9 yX9_waysNow yX9_waysNow, Cond.code yX9_waysNow cX9_waysNow 1 (some (.object "KindStreets$Ways")), Cond.fieldLink RX9 40 "KindStreets" "ways" "LKindStreets$Ways;", Cond.fieldLink RX9 280 "KindStreets$Ways" "plan" "LKindStreets$Plan;", Cond.fieldLink RX9 29 "KindStreets" "now" "LKindStreets$Now;", Cond.fieldLink RX9 98 "KindStreets$Now" "moment" "LKindStreets$Moment;", Cond.methodLink RX9 208 yX4_draw, Cond.instanceMethod yX4_draw, Cond.selects RX4 yX4_draw yX4_draw, Cond.initialized RX4, Cond.code yX4_draw cX4_draw 4 none, Cond.fieldLink RX4 19 "KindStreets$Town" "streets" "I"]
noncomputable def wsX9_widest_r2 : List Cond := [Cond.fieldLink RX4 9 "KindStreets$Plan" "width" "[I", Cond.methodLink RX4 15 ⟨"KindStreets$Plan", "become", "(LKindStreets$Town;)V"⟩, Cond.sameMethod "KindStreets$Plan" "KindStreets$Town" "become" "(LKindStreets$Town;)V", Cond.selects RX4 ⟨"KindStreets$Plan", "become", "(LKindStreets$Town;)V"⟩ yX7_become, Cond.instanceMethod yX7_become, Cond.initialized RX7, Cond.code yX7_become cX7_become 2 none, Cond.fieldLink RX7 9 "KindStreets$Town" "yards" "I", Cond.fieldLink RX7 31 "KindStreets$Town" "streets" "I", Cond.fieldLink RX7 34 "KindStreets$Town" "citizens" "I", Cond.fieldLink RX7 15 "KindStreets$Town" "one" "[I", Cond.methodLink RX7 37 arraycopyName, Cond.native arraycopyName, Cond.static arraycopyName, Cond.initialized "java/lang/System", Cond.fieldLink RX7 19 "KindStreets$Town" "other" "[I", Cond.fieldLink RX7 22 "KindStreets$Town" "old" "[I", Cond.fieldLink RX7 25 "KindStreets$Town" "home" "[I", Cond.fieldLink RX7 28 "KindStreets$Town" "wants" "[I", Cond.methodLink RX4 23 yX2_widthOf, Cond.instanceMethod yX2_widthOf, Cond.selects RX2 yX2_widthOf yX2_widthOf, Cond.initialized RX2, Cond.code yX2_widthOf cX2_widthOf 2 (some .int)]
noncomputable def wsX9_widest_r3 : List Cond := [Cond.fieldLink RX2 9 "KindStreets$Moment" "seen" "[I", Cond.fieldLink RX2 18 "KindStreets$Moment" "pretended" "[I", Cond.fieldLink RX2 42 "KindStreets$Moment" "night" "I", Cond.methodLink RX2 46 yX2_widthBy, Cond.static yX2_widthBy, Cond.code yX2_widthBy cX2_widthBy 3 (some .int), Cond.methodLink RX2 50 Lib.Math.max.name, Cond.static Lib.Math.max.name, Cond.initialized "java/lang/Math", Cond.code Lib.Math.max.name Lib.Math.max.code 2 (some .int), Cond.methodLink RX9 168 yX8_widestWay, Cond.instanceMethod yX8_widestWay, Cond.selects RX8 yX8_widestWay yX8_widestWay, Cond.initialized RX8, Cond.code yX8_widestWay cX8_widestWay 4 (some .int), Cond.methodLink RX8 22 yX8_fewestStreets, Cond.instanceMethod yX8_fewestStreets, Cond.selects RX8 yX8_fewestStreets yX8_fewestStreets, Cond.code yX8_fewestStreets cX8_fewestStreets 6 (some .int), Cond.fieldLink RX8 14 "KindStreets$Ways" "plan" "LKindStreets$Plan;", Cond.fieldLink RX8 26 "KindStreets$Plan" "yards" "I", Cond.sameField "KindStreets$Plan" "KindStreets$Town" "yards" "I", Cond.methodLink RX8 30 yX8_oneStreetOn, Cond.instanceMethod yX8_oneStreetOn]
noncomputable def wsX9_widest_r4 : List Cond := [Cond.selects RX8 yX8_oneStreetOn yX8_oneStreetOn, Cond.code yX8_oneStreetOn cX8_oneStreetOn 5 (some .int), Cond.fieldLink RX8 40 "KindStreets$Plan" "streets" "I", Cond.sameField "KindStreets$Plan" "KindStreets$Town" "streets" "I", Cond.fieldLink RX8 43 "KindStreets$Plan" "width" "[I", Cond.methodLink RX8 46 ⟨"KindStreets$Plan", "endsOf", "(I)I"⟩, Cond.sameMethod "KindStreets$Plan" "KindStreets$Town" "endsOf" "(I)I", Cond.selects RX4 ⟨"KindStreets$Plan", "endsOf", "(I)I"⟩ yX7_endsOf, Cond.instanceMethod yX7_endsOf, Cond.code yX7_endsOf cX7_endsOf 2 (some .int), Cond.methodLink RX8 34 yX5_has, Cond.static yX5_has, Cond.initialized RX5, Cond.code yX5_has cX5_has 2 (some .boolean)]
noncomputable def wsX9_widest : List Cond := .code yX9_widest cX9_widest 3 (some .int) :: ((wsX9_widest_r1 ++ (wsX9_widest_r2 ++ (wsX9_widest_r3 ++ wsX9_widest_r4))) ++ wsX90 ++ wsX40 ++ wsX70 ++ wsX80 ++ wsX30 ++ wsX20)
noncomputable def wsX9_way_r1 : List Cond := [Cond.methodLink RX9 160 yX9_areUnlikeYards, Cond.instanceMethod yX9_areUnlikeYards, Cond.selects RX9 yX9_areUnlikeYards yX9_areUnlikeYards, Cond.initialized RX9, Cond.code yX9_areUnlikeYards cX9_areUnlikeYards 3 (some .boolean), Cond.fieldLink RX9 23 "KindStreets" "town" "LKindStreets$Town;", Cond.fieldLink RX9 257 "KindStreets$Town" "yards" "I", Cond.methodLink RX9 58 yX9_isWithin, Cond.static yX9_isWithin, Cond.code yX9_isWithin cX9_isWithin 3 (some .boolean), Cond.methodLink RX9 164 yX9_waysNow, Cond.instanceMethod yX9_waysNow, Cond.selects RX9 yX9_waysNow yX9_waysNow, Cond.code yX9_waysNow cX9_waysNow 1 (some (.object "KindStreets$Ways")), Cond.fieldLink RX9 40 "KindStreets" "ways" "LKindStreets$Ways;", Cond.fieldLink RX9 280 "KindStreets$Ways" "plan" "LKindStreets$Plan;", Cond.fieldLink RX9 29 "KindStreets" "now" "LKindStreets$Now;", Cond.fieldLink RX9 98 "KindStreets$Now" "moment" "LKindStreets$Moment;", Cond.methodLink RX9 208 yX4_draw, Cond.instanceMethod yX4_draw, Cond.selects RX4 yX4_draw yX4_draw, Cond.initialized RX4, Cond.code yX4_draw cX4_draw 4 none, Cond.fieldLink RX4 19 "KindStreets$Town" "streets" "I"]
noncomputable def wsX9_way_r2 : List Cond := [Cond.fieldLink RX4 9 "KindStreets$Plan" "width" "[I", Cond.methodLink RX4 15 ⟨"KindStreets$Plan", "become", "(LKindStreets$Town;)V"⟩, Cond.sameMethod "KindStreets$Plan" "KindStreets$Town" "become" "(LKindStreets$Town;)V", Cond.selects RX4 ⟨"KindStreets$Plan", "become", "(LKindStreets$Town;)V"⟩ yX7_become, Cond.instanceMethod yX7_become, Cond.initialized RX7, Cond.code yX7_become cX7_become 2 none, Cond.fieldLink RX7 9 "KindStreets$Town" "yards" "I", Cond.fieldLink RX7 31 "KindStreets$Town" "streets" "I", Cond.fieldLink RX7 34 "KindStreets$Town" "citizens" "I", Cond.fieldLink RX7 15 "KindStreets$Town" "one" "[I", Cond.methodLink RX7 37 arraycopyName, Cond.native arraycopyName, Cond.static arraycopyName, Cond.initialized "java/lang/System", Cond.fieldLink RX7 19 "KindStreets$Town" "other" "[I", Cond.fieldLink RX7 22 "KindStreets$Town" "old" "[I", Cond.fieldLink RX7 25 "KindStreets$Town" "home" "[I", Cond.fieldLink RX7 28 "KindStreets$Town" "wants" "[I", Cond.methodLink RX4 23 yX2_widthOf, Cond.instanceMethod yX2_widthOf, Cond.selects RX2 yX2_widthOf yX2_widthOf, Cond.initialized RX2, Cond.code yX2_widthOf cX2_widthOf 2 (some .int)]
noncomputable def wsX9_way_r3 : List Cond := [Cond.fieldLink RX2 9 "KindStreets$Moment" "seen" "[I", Cond.fieldLink RX2 18 "KindStreets$Moment" "pretended" "[I", Cond.fieldLink RX2 42 "KindStreets$Moment" "night" "I", Cond.methodLink RX2 46 yX2_widthBy, Cond.static yX2_widthBy, Cond.code yX2_widthBy cX2_widthBy 3 (some .int), Cond.methodLink RX2 50 Lib.Math.max.name, Cond.static Lib.Math.max.name, Cond.initialized "java/lang/Math", Cond.code Lib.Math.max.name Lib.Math.max.code 2 (some .int), Cond.methodLink RX9 172 yX8_fewestStreets, Cond.instanceMethod yX8_fewestStreets, Cond.selects RX8 yX8_fewestStreets yX8_fewestStreets, Cond.initialized RX8, Cond.code yX8_fewestStreets cX8_fewestStreets 6 (some .int), Cond.fieldLink RX8 14 "KindStreets$Ways" "plan" "LKindStreets$Plan;", Cond.fieldLink RX8 26 "KindStreets$Plan" "yards" "I", Cond.sameField "KindStreets$Plan" "KindStreets$Town" "yards" "I", Cond.methodLink RX8 30 yX8_oneStreetOn, Cond.instanceMethod yX8_oneStreetOn, Cond.selects RX8 yX8_oneStreetOn yX8_oneStreetOn, Cond.code yX8_oneStreetOn cX8_oneStreetOn 5 (some .int), Cond.fieldLink RX8 40 "KindStreets$Plan" "streets" "I", Cond.sameField "KindStreets$Plan" "KindStreets$Town" "streets" "I"]
noncomputable def wsX9_way_r4 : List Cond := [Cond.fieldLink RX8 43 "KindStreets$Plan" "width" "[I", Cond.methodLink RX8 46 ⟨"KindStreets$Plan", "endsOf", "(I)I"⟩, Cond.sameMethod "KindStreets$Plan" "KindStreets$Town" "endsOf" "(I)I", Cond.selects RX4 ⟨"KindStreets$Plan", "endsOf", "(I)I"⟩ yX7_endsOf, Cond.instanceMethod yX7_endsOf, Cond.code yX7_endsOf cX7_endsOf 2 (some .int), Cond.methodLink RX8 34 yX5_has, Cond.static yX5_has, Cond.initialized RX5, Cond.code yX5_has cX5_has 2 (some .boolean)]
noncomputable def wsX9_way : List Cond := .code yX9_way cX9_way 4 (some .int) :: ((wsX9_way_r1 ++ (wsX9_way_r2 ++ (wsX9_way_r3 ++ wsX9_way_r4))) ++ wsX90 ++ wsX40 ++ wsX70 ++ wsX80 ++ wsX30 ++ wsX20)
noncomputable def wsX9_flow_r1 : List Cond := [Cond.methodLink RX9 160 yX9_areUnlikeYards, Cond.instanceMethod yX9_areUnlikeYards, Cond.selects RX9 yX9_areUnlikeYards yX9_areUnlikeYards, Cond.initialized RX9, Cond.code yX9_areUnlikeYards cX9_areUnlikeYards 3 (some .boolean), Cond.fieldLink RX9 23 "KindStreets" "town" "LKindStreets$Town;", Cond.fieldLink RX9 257 "KindStreets$Town" "yards" "I", Cond.methodLink RX9 58 yX9_isWithin, Cond.static yX9_isWithin, Cond.code yX9_isWithin cX9_isWithin 3 (some .boolean), Cond.methodLink RX9 164 yX9_waysNow, Cond.instanceMethod yX9_waysNow, Cond.selects RX9 yX9_waysNow yX9_waysNow, Cond.code yX9_waysNow cX9_waysNow 1 (some (.object "KindStreets$Ways")), Cond.fieldLink RX9 40 "KindStreets" "ways" "LKindStreets$Ways;", Cond.fieldLink RX9 280 "KindStreets$Ways" "plan" "LKindStreets$Plan;", Cond.fieldLink RX9 29 "KindStreets" "now" "LKindStreets$Now;", Cond.fieldLink RX9 98 "KindStreets$Now" "moment" "LKindStreets$Moment;", Cond.methodLink RX9 208 yX4_draw, Cond.instanceMethod yX4_draw, Cond.selects RX4 yX4_draw yX4_draw, Cond.initialized RX4, Cond.code yX4_draw cX4_draw 4 none, Cond.fieldLink RX4 19 "KindStreets$Town" "streets" "I"]
noncomputable def wsX9_flow_r2 : List Cond := [Cond.fieldLink RX4 9 "KindStreets$Plan" "width" "[I", Cond.methodLink RX4 15 ⟨"KindStreets$Plan", "become", "(LKindStreets$Town;)V"⟩, Cond.sameMethod "KindStreets$Plan" "KindStreets$Town" "become" "(LKindStreets$Town;)V", Cond.selects RX4 ⟨"KindStreets$Plan", "become", "(LKindStreets$Town;)V"⟩ yX7_become, Cond.instanceMethod yX7_become, Cond.initialized RX7, Cond.code yX7_become cX7_become 2 none, Cond.fieldLink RX7 9 "KindStreets$Town" "yards" "I", Cond.fieldLink RX7 31 "KindStreets$Town" "streets" "I", Cond.fieldLink RX7 34 "KindStreets$Town" "citizens" "I", Cond.fieldLink RX7 15 "KindStreets$Town" "one" "[I", Cond.methodLink RX7 37 arraycopyName, Cond.native arraycopyName, Cond.static arraycopyName, Cond.initialized "java/lang/System", Cond.fieldLink RX7 19 "KindStreets$Town" "other" "[I", Cond.fieldLink RX7 22 "KindStreets$Town" "old" "[I", Cond.fieldLink RX7 25 "KindStreets$Town" "home" "[I", Cond.fieldLink RX7 28 "KindStreets$Town" "wants" "[I", Cond.methodLink RX4 23 yX2_widthOf, Cond.instanceMethod yX2_widthOf, Cond.selects RX2 yX2_widthOf yX2_widthOf, Cond.initialized RX2, Cond.code yX2_widthOf cX2_widthOf 2 (some .int)]
noncomputable def wsX9_flow_r3 : List Cond := [Cond.fieldLink RX2 9 "KindStreets$Moment" "seen" "[I", Cond.fieldLink RX2 18 "KindStreets$Moment" "pretended" "[I", Cond.fieldLink RX2 42 "KindStreets$Moment" "night" "I", Cond.methodLink RX2 46 yX2_widthBy, Cond.static yX2_widthBy, Cond.code yX2_widthBy cX2_widthBy 3 (some .int), Cond.methodLink RX2 50 Lib.Math.max.name, Cond.static Lib.Math.max.name, Cond.initialized "java/lang/Math", Cond.code Lib.Math.max.name Lib.Math.max.code 2 (some .int), Cond.methodLink RX9 176 yX8_leastCut, Cond.instanceMethod yX8_leastCut, Cond.selects RX8 yX8_leastCut yX8_leastCut, Cond.initialized RX8, Cond.code yX8_leastCut cX8_leastCut 5 (some .int), Cond.constant RX8 50 (1073741824), Cond.fieldLink RX8 14 "KindStreets$Ways" "plan" "LKindStreets$Plan;", Cond.fieldLink RX8 26 "KindStreets$Plan" "yards" "I", Cond.sameField "KindStreets$Plan" "KindStreets$Town" "yards" "I", Cond.methodLink RX8 57 Lib.Math.min.name, Cond.static Lib.Math.min.name, Cond.code Lib.Math.min.name Lib.Math.min.code 2 (some .int), Cond.methodLink RX8 51 yX5_allOf, Cond.static yX5_allOf]
noncomputable def wsX9_flow_r4 : List Cond := [Cond.initialized RX5, Cond.code yX5_allOf cX5_allOf 1 (some .int), Cond.methodLink RX8 34 yX5_has, Cond.static yX5_has, Cond.code yX5_has cX5_has 2 (some .boolean), Cond.methodLink RX8 54 yX8_cutAround, Cond.instanceMethod yX8_cutAround, Cond.selects RX8 yX8_cutAround yX8_cutAround, Cond.code yX8_cutAround cX8_cutAround 4 (some .int), Cond.fieldLink RX8 40 "KindStreets$Plan" "streets" "I", Cond.sameField "KindStreets$Plan" "KindStreets$Town" "streets" "I", Cond.fieldLink RX8 43 "KindStreets$Plan" "width" "[I", Cond.methodLink RX8 62 yX4_leadsOut, Cond.instanceMethod yX4_leadsOut, Cond.selects RX4 yX4_leadsOut yX4_leadsOut, Cond.code yX4_leadsOut cX4_leadsOut 3 (some .boolean), Cond.fieldLink RX4 29 "KindStreets$Plan" "one" "[I", Cond.sameField "KindStreets$Plan" "KindStreets$Town" "one" "[I", Cond.fieldLink RX4 38 "KindStreets$Plan" "other" "[I", Cond.sameField "KindStreets$Plan" "KindStreets$Town" "other" "[I", Cond.methodLink RX4 32 yX5_has, Cond.methodLink RX9 179 yX8_widthIn, Cond.static yX8_widthIn, Cond.code yX8_widthIn cX8_widthIn 1 (some .int)]
noncomputable def wsX9_flow_r5 : List Cond := [Cond.methodLink RX9 182 yX8_streetsIn, Cond.static yX8_streetsIn, Cond.code yX8_streetsIn cX8_streetsIn 1 (some .int)]
noncomputable def wsX9_flow : List Cond := .code yX9_flow cX9_flow 5 (some .int) :: ((wsX9_flow_r1 ++ (wsX9_flow_r2 ++ (wsX9_flow_r3 ++ (wsX9_flow_r4 ++ wsX9_flow_r5)))) ++ wsX90 ++ wsX40 ++ wsX70 ++ wsX80 ++ wsX30 ++ wsX20)
noncomputable def wsX9_need_r1 : List Cond := [Cond.constant RX9 188 (1073741824), Cond.methodLink RX9 160 yX9_areUnlikeYards, Cond.instanceMethod yX9_areUnlikeYards, Cond.selects RX9 yX9_areUnlikeYards yX9_areUnlikeYards, Cond.initialized RX9, Cond.code yX9_areUnlikeYards cX9_areUnlikeYards 3 (some .boolean), Cond.fieldLink RX9 23 "KindStreets" "town" "LKindStreets$Town;", Cond.fieldLink RX9 257 "KindStreets$Town" "yards" "I", Cond.methodLink RX9 58 yX9_isWithin, Cond.static yX9_isWithin, Cond.code yX9_isWithin cX9_isWithin 3 (some .boolean), Cond.methodLink RX9 164 yX9_waysNow, Cond.instanceMethod yX9_waysNow, Cond.selects RX9 yX9_waysNow yX9_waysNow, Cond.code yX9_waysNow cX9_waysNow 1 (some (.object "KindStreets$Ways")), Cond.fieldLink RX9 40 "KindStreets" "ways" "LKindStreets$Ways;", Cond.fieldLink RX9 280 "KindStreets$Ways" "plan" "LKindStreets$Plan;", Cond.fieldLink RX9 29 "KindStreets" "now" "LKindStreets$Now;", Cond.fieldLink RX9 98 "KindStreets$Now" "moment" "LKindStreets$Moment;", Cond.methodLink RX9 208 yX4_draw, Cond.instanceMethod yX4_draw, Cond.selects RX4 yX4_draw yX4_draw, Cond.initialized RX4, Cond.code yX4_draw cX4_draw 4 none]
noncomputable def wsX9_need_r2 : List Cond := [Cond.fieldLink RX4 19 "KindStreets$Town" "streets" "I", Cond.fieldLink RX4 9 "KindStreets$Plan" "width" "[I", Cond.methodLink RX4 15 ⟨"KindStreets$Plan", "become", "(LKindStreets$Town;)V"⟩, Cond.sameMethod "KindStreets$Plan" "KindStreets$Town" "become" "(LKindStreets$Town;)V", Cond.selects RX4 ⟨"KindStreets$Plan", "become", "(LKindStreets$Town;)V"⟩ yX7_become, Cond.instanceMethod yX7_become, Cond.initialized RX7, Cond.code yX7_become cX7_become 2 none, Cond.fieldLink RX7 9 "KindStreets$Town" "yards" "I", Cond.fieldLink RX7 31 "KindStreets$Town" "streets" "I", Cond.fieldLink RX7 34 "KindStreets$Town" "citizens" "I", Cond.fieldLink RX7 15 "KindStreets$Town" "one" "[I", Cond.methodLink RX7 37 arraycopyName, Cond.native arraycopyName, Cond.static arraycopyName, Cond.initialized "java/lang/System", Cond.fieldLink RX7 19 "KindStreets$Town" "other" "[I", Cond.fieldLink RX7 22 "KindStreets$Town" "old" "[I", Cond.fieldLink RX7 25 "KindStreets$Town" "home" "[I", Cond.fieldLink RX7 28 "KindStreets$Town" "wants" "[I", Cond.methodLink RX4 23 yX2_widthOf, Cond.instanceMethod yX2_widthOf, Cond.selects RX2 yX2_widthOf yX2_widthOf, Cond.initialized RX2]
noncomputable def wsX9_need_r3 : List Cond := [Cond.code yX2_widthOf cX2_widthOf 2 (some .int), Cond.fieldLink RX2 9 "KindStreets$Moment" "seen" "[I", Cond.fieldLink RX2 18 "KindStreets$Moment" "pretended" "[I", Cond.fieldLink RX2 42 "KindStreets$Moment" "night" "I", Cond.methodLink RX2 46 yX2_widthBy, Cond.static yX2_widthBy, Cond.code yX2_widthBy cX2_widthBy 3 (some .int), Cond.methodLink RX2 50 Lib.Math.max.name, Cond.static Lib.Math.max.name, Cond.initialized "java/lang/Math", Cond.code Lib.Math.max.name Lib.Math.max.code 2 (some .int), Cond.methodLink RX9 185 yX8_leastPrice, Cond.instanceMethod yX8_leastPrice, Cond.selects RX8 yX8_leastPrice yX8_leastPrice, Cond.initialized RX8, Cond.code yX8_leastPrice cX8_leastPrice 6 (some .int), Cond.fieldLink RX8 18 "KindStreets$Ways" "price" "[I", Cond.constant RX8 50 (1073741824), Cond.fieldLink RX8 14 "KindStreets$Ways" "plan" "LKindStreets$Plan;", Cond.fieldLink RX8 26 "KindStreets$Plan" "yards" "I", Cond.sameField "KindStreets$Plan" "KindStreets$Town" "yards" "I", Cond.fieldLink RX8 40 "KindStreets$Plan" "streets" "I", Cond.sameField "KindStreets$Plan" "KindStreets$Town" "streets" "I", Cond.fieldLink RX8 43 "KindStreets$Plan" "width" "[I"]
noncomputable def wsX9_need_r4 : List Cond := [Cond.methodLink RX8 65 yJ7_fill_53178, Cond.static yJ7_fill_53178, Cond.initialized RJ7, Cond.code yJ7_fill_53178 cJ7_fill_53178 4 none, Cond.methodLink RX8 71 yX8_goBothWays, Cond.instanceMethod yX8_goBothWays, Cond.selects RX8 yX8_goBothWays yX8_goBothWays, Cond.code yX8_goBothWays cX8_goBothWays 5 none, Cond.fieldLink RX8 75 "KindStreets$Plan" "one" "[I", Cond.sameField "KindStreets$Plan" "KindStreets$Town" "one" "[I", Cond.fieldLink RX8 78 "KindStreets$Plan" "other" "[I", Cond.sameField "KindStreets$Plan" "KindStreets$Town" "other" "[I", Cond.methodLink RX8 57 Lib.Math.min.name, Cond.static Lib.Math.min.name, Cond.code Lib.Math.min.name Lib.Math.min.code 2 (some .int), Cond.methodLink RX9 182 yX8_streetsIn, Cond.static yX8_streetsIn, Cond.code yX8_streetsIn cX8_streetsIn 1 (some .int)]
noncomputable def wsX9_need : List Cond := .code yX9_need cX9_need 5 (some .int) :: ((wsX9_need_r1 ++ (wsX9_need_r2 ++ (wsX9_need_r3 ++ wsX9_need_r4))) ++ wsX90 ++ wsX40 ++ wsX70 ++ wsX80 ++ wsX30 ++ wsX20)
noncomputable def wsX9_odds_r1 : List Cond := [Cond.fieldLink RX9 23 "KindStreets" "town" "LKindStreets$Town;", Cond.fieldLink RX9 189 "KindStreets$Town" "streets" "I", Cond.methodLink RX9 160 yX9_areUnlikeYards, Cond.instanceMethod yX9_areUnlikeYards, Cond.selects RX9 yX9_areUnlikeYards yX9_areUnlikeYards, Cond.initialized RX9, Cond.code yX9_areUnlikeYards cX9_areUnlikeYards 3 (some .boolean), Cond.fieldLink RX9 257 "KindStreets$Town" "yards" "I", Cond.methodLink RX9 58 yX9_isWithin, Cond.static yX9_isWithin, Cond.code yX9_isWithin cX9_isWithin 3 (some .boolean), Cond.methodLink RX9 192 yX8_tenTo, Cond.static yX8_tenTo, Cond.initialized RX8, Cond.code yX8_tenTo cX8_tenTo 3 (some .int), Cond.methodLink RX9 164 yX9_waysNow, Cond.instanceMethod yX9_waysNow, Cond.selects RX9 yX9_waysNow yX9_waysNow, Cond.code yX9_waysNow cX9_waysNow 1 (some (.object "KindStreets$Ways")), Cond.fieldLink RX9 40 "KindStreets" "ways" "LKindStreets$Ways;", Cond.fieldLink RX9 280 "KindStreets$Ways" "plan" "LKindStreets$Plan;", Cond.fieldLink RX9 29 "KindStreets" "now" "LKindStreets$Now;", Cond.fieldLink RX9 98 "KindStreets$Now" "moment" "LKindStreets$Moment;", Cond.methodLink RX9 208 yX4_draw]
noncomputable def wsX9_odds_r2 : List Cond := [Cond.instanceMethod yX4_draw, Cond.selects RX4 yX4_draw yX4_draw, Cond.initialized RX4, Cond.code yX4_draw cX4_draw 4 none, Cond.fieldLink RX4 19 "KindStreets$Town" "streets" "I", Cond.fieldLink RX4 9 "KindStreets$Plan" "width" "[I", Cond.methodLink RX4 15 ⟨"KindStreets$Plan", "become", "(LKindStreets$Town;)V"⟩, Cond.sameMethod "KindStreets$Plan" "KindStreets$Town" "become" "(LKindStreets$Town;)V", Cond.selects RX4 ⟨"KindStreets$Plan", "become", "(LKindStreets$Town;)V"⟩ yX7_become, Cond.instanceMethod yX7_become, Cond.initialized RX7, Cond.code yX7_become cX7_become 2 none, Cond.fieldLink RX7 9 "KindStreets$Town" "yards" "I", Cond.fieldLink RX7 31 "KindStreets$Town" "streets" "I", Cond.fieldLink RX7 34 "KindStreets$Town" "citizens" "I", Cond.fieldLink RX7 15 "KindStreets$Town" "one" "[I", Cond.methodLink RX7 37 arraycopyName, Cond.native arraycopyName, Cond.static arraycopyName, Cond.initialized "java/lang/System", Cond.fieldLink RX7 19 "KindStreets$Town" "other" "[I", Cond.fieldLink RX7 22 "KindStreets$Town" "old" "[I", Cond.fieldLink RX7 25 "KindStreets$Town" "home" "[I", Cond.fieldLink RX7 28 "KindStreets$Town" "wants" "[I"]
noncomputable def wsX9_odds_r3 : List Cond := [Cond.methodLink RX4 23 yX2_widthOf, Cond.instanceMethod yX2_widthOf, Cond.selects RX2 yX2_widthOf yX2_widthOf, Cond.initialized RX2, Cond.code yX2_widthOf cX2_widthOf 2 (some .int), Cond.fieldLink RX2 9 "KindStreets$Moment" "seen" "[I", Cond.fieldLink RX2 18 "KindStreets$Moment" "pretended" "[I", Cond.fieldLink RX2 42 "KindStreets$Moment" "night" "I", Cond.methodLink RX2 46 yX2_widthBy, Cond.static yX2_widthBy, Cond.code yX2_widthBy cX2_widthBy 3 (some .int), Cond.methodLink RX2 50 Lib.Math.max.name, Cond.static Lib.Math.max.name, Cond.initialized "java/lang/Math", Cond.code Lib.Math.max.name Lib.Math.max.code 2 (some .int), Cond.methodLink RX9 195 yX5_allOf, Cond.static yX5_allOf, Cond.initialized RX5, Cond.code yX5_allOf cX5_allOf 1 (some .int), Cond.methodLink RX9 200 yX8_chances, Cond.instanceMethod yX8_chances, Cond.selects RX8 yX8_chances yX8_chances, Cond.code yX8_chances cX8_chances 7 (some .int), Cond.fieldLink RX8 14 "KindStreets$Ways" "plan" "LKindStreets$Plan;"]
noncomputable def wsX9_odds_r4 : List Cond := [Cond.methodLink RX8 34 yX5_has, Cond.static yX5_has, Cond.code yX5_has cX5_has 2 (some .boolean), Cond.methodLink RX8 81 yJ6_bitCount_0f7a4, Cond.static yJ6_bitCount_0f7a4, Cond.initialized RJ6, Cond.code yJ6_bitCount_0f7a4 cJ6_bitCount_0f7a4 1 (some .int), Cond.constant RJ6 265 (1431655765), Cond.constant RJ6 266 (858993459), Cond.constant RJ6 267 (252645135), Cond.methodLink RX8 86 yX8_tenTo, Cond.methodLink RX8 89 yX8_streetOut, Cond.instanceMethod yX8_streetOut, Cond.selects RX8 yX8_streetOut yX8_streetOut, Cond.code yX8_streetOut cX8_streetOut 4 (some .int), Cond.fieldLink RX8 40 "KindStreets$Plan" "streets" "I", Cond.sameField "KindStreets$Plan" "KindStreets$Town" "streets" "I", Cond.methodLink RX8 62 yX4_leadsOut, Cond.instanceMethod yX4_leadsOut, Cond.selects RX4 yX4_leadsOut yX4_leadsOut, Cond.code yX4_leadsOut cX4_leadsOut 3 (some .boolean), Cond.fieldLink RX4 29 "KindStreets$Plan" "one" "[I", Cond.sameField "KindStreets$Plan" "KindStreets$Town" "one" "[I", Cond.fieldLink RX4 38 "KindStreets$Plan" "other" "[I"]
noncomputable def wsX9_odds_r5 : List Cond := [Cond.sameField "KindStreets$Plan" "KindStreets$Town" "other" "[I", Cond.methodLink RX4 32 yX5_has, Cond.methodLink RX8 92 yX5_without, Cond.static yX5_without, Cond.code yX5_without cX5_without 2 (some .int), Cond.methodLink RX8 46 ⟨"KindStreets$Plan", "endsOf", "(I)I"⟩, Cond.sameMethod "KindStreets$Plan" "KindStreets$Town" "endsOf" "(I)I", Cond.selects RX4 ⟨"KindStreets$Plan", "endsOf", "(I)I"⟩ yX7_endsOf, Cond.instanceMethod yX7_endsOf, Cond.code yX7_endsOf cX7_endsOf 2 (some .int), Cond.methodLink RX8 95 yX8_chances]
noncomputable def wsX9_odds : List Cond := .code yX9_odds cX9_odds 8 (some .int) :: ((wsX9_odds_r1 ++ (wsX9_odds_r2 ++ (wsX9_odds_r3 ++ (wsX9_odds_r4 ++ wsX9_odds_r5)))) ++ wsX90 ++ wsX40 ++ wsX70 ++ wsX80 ++ wsX30 ++ wsX20)
noncomputable def wsX9_carriage_r1 : List Cond := [Cond.fieldLink RX9 47 "KindStreets" "carriages" "LKindStreets$Carriages;", Cond.fieldLink RX9 204 "KindStreets$Carriages" "plan" "LKindStreets$Plan;", Cond.fieldLink RX9 23 "KindStreets" "town" "LKindStreets$Town;", Cond.fieldLink RX9 29 "KindStreets" "now" "LKindStreets$Now;", Cond.fieldLink RX9 98 "KindStreets$Now" "moment" "LKindStreets$Moment;", Cond.fieldLink RX9 217 "KindStreets$Carriages" "given" "[I", Cond.methodLink RX9 120 yX9_isCitizen, Cond.instanceMethod yX9_isCitizen, Cond.selects RX9 yX9_isCitizen yX9_isCitizen, Cond.initialized RX9, Cond.code yX9_isCitizen cX9_isCitizen 2 (some .boolean), Cond.fieldLink RX9 260 "KindStreets$Town" "citizens" "I", Cond.methodLink RX9 58 yX9_isWithin, Cond.static yX9_isWithin, Cond.code yX9_isWithin cX9_isWithin 3 (some .boolean), Cond.methodLink RX9 208 yX4_draw, Cond.instanceMethod yX4_draw, Cond.selects RX4 yX4_draw yX4_draw, Cond.initialized RX4, Cond.code yX4_draw cX4_draw 4 none, Cond.fieldLink RX4 19 "KindStreets$Town" "streets" "I", Cond.fieldLink RX4 9 "KindStreets$Plan" "width" "[I", Cond.methodLink RX4 15 ⟨"KindStreets$Plan", "become", "(LKindStreets$Town;)V"⟩, Cond.sameMethod "KindStreets$Plan" "KindStreets$Town" "become" "(LKindStreets$Town;)V"]
noncomputable def wsX9_carriage_r2 : List Cond := [Cond.selects RX4 ⟨"KindStreets$Plan", "become", "(LKindStreets$Town;)V"⟩ yX7_become, Cond.instanceMethod yX7_become, Cond.initialized RX7, Cond.code yX7_become cX7_become 2 none, Cond.fieldLink RX7 9 "KindStreets$Town" "yards" "I", Cond.fieldLink RX7 31 "KindStreets$Town" "streets" "I", Cond.fieldLink RX7 34 "KindStreets$Town" "citizens" "I", Cond.fieldLink RX7 15 "KindStreets$Town" "one" "[I", Cond.methodLink RX7 37 arraycopyName, Cond.native arraycopyName, Cond.static arraycopyName, Cond.initialized "java/lang/System", Cond.fieldLink RX7 19 "KindStreets$Town" "other" "[I", Cond.fieldLink RX7 22 "KindStreets$Town" "old" "[I", Cond.fieldLink RX7 25 "KindStreets$Town" "home" "[I", Cond.fieldLink RX7 28 "KindStreets$Town" "wants" "[I", Cond.methodLink RX4 23 yX2_widthOf, Cond.instanceMethod yX2_widthOf, Cond.selects RX2 yX2_widthOf yX2_widthOf, Cond.initialized RX2, Cond.code yX2_widthOf cX2_widthOf 2 (some .int), Cond.fieldLink RX2 9 "KindStreets$Moment" "seen" "[I", Cond.fieldLink RX2 18 "KindStreets$Moment" "pretended" "[I", Cond.fieldLink RX2 42 "KindStreets$Moment" "night" "I"]
noncomputable def wsX9_carriage_r3 : List Cond := [Cond.methodLink RX2 46 yX2_widthBy, Cond.static yX2_widthBy, Cond.code yX2_widthBy cX2_widthBy 3 (some .int), Cond.methodLink RX2 50 Lib.Math.max.name, Cond.static Lib.Math.max.name, Cond.initialized "java/lang/Math", Cond.code Lib.Math.max.name Lib.Math.max.code 2 (some .int), Cond.methodLink RX9 214 yX0_give, Cond.instanceMethod yX0_give, Cond.selects RX0 yX0_give yX0_give, Cond.initialized RX0, Cond.code yX0_give cX0_give 5 (some .int), Cond.fieldLink RX0 18 "KindStreets$Carriages" "plan" "LKindStreets$Plan;", Cond.fieldLink RX0 22 "KindStreets$Plan" "streets" "I", Cond.sameField "KindStreets$Plan" "KindStreets$Town" "streets" "I", Cond.fieldLink RX0 36 "KindStreets$Plan" "citizens" "I", Cond.sameField "KindStreets$Plan" "KindStreets$Town" "citizens" "I", Cond.fieldLink RX0 9 "KindStreets$Carriages" "given" "[I", Cond.methodLink RX0 26 yX5_allOf, Cond.static yX5_allOf, Cond.initialized RX5, Cond.code yX5_allOf cX5_allOf 1 (some .int), Cond.methodLink RX0 32 yX0_mostFrom, Cond.instanceMethod yX0_mostFrom]
noncomputable def wsX9_carriage_r4 : List Cond := [Cond.selects RX0 yX0_mostFrom yX0_mostFrom, Cond.code yX0_mostFrom cX0_mostFrom 7 (some .int), Cond.methodLink RX0 62 Lib.Math.min.name, Cond.static Lib.Math.min.name, Cond.code Lib.Math.min.name Lib.Math.min.code 2 (some .int), Cond.methodLink RX0 56 yX0_wantingFrom, Cond.instanceMethod yX0_wantingFrom, Cond.selects RX0 yX0_wantingFrom yX0_wantingFrom, Cond.code yX0_wantingFrom cX0_wantingFrom 5 (some .int), Cond.fieldLink RX0 53 "KindStreets$Plan" "wants" "[I", Cond.sameField "KindStreets$Plan" "KindStreets$Town" "wants" "[I", Cond.methodLink RX0 59 yX0_freeOf, Cond.instanceMethod yX0_freeOf, Cond.selects RX0 yX0_freeOf yX0_freeOf, Cond.code yX0_freeOf cX0_freeOf 5 (some .int), Cond.fieldLink RX0 50 "KindStreets$Plan" "width" "[I", Cond.methodLink RX0 46 yX5_has, Cond.static yX5_has, Cond.code yX5_has cX5_has 2 (some .boolean), Cond.methodLink RX0 39 yX0_lowestStreetFor, Cond.instanceMethod yX0_lowestStreetFor, Cond.selects RX0 yX0_lowestStreetFor yX0_lowestStreetFor, Cond.code yX0_lowestStreetFor cX0_lowestStreetFor 5 (some .int), Cond.methodLink RX0 43 yX5_without]
noncomputable def wsX9_carriage_r5 : List Cond := [Cond.static yX5_without, Cond.code yX5_without cX5_without 2 (some .int)]
noncomputable def wsX9_carriage : List Cond := .code yX9_carriage cX9_carriage 3 (some .int) :: ((wsX9_carriage_r1 ++ (wsX9_carriage_r2 ++ (wsX9_carriage_r3 ++ (wsX9_carriage_r4 ++ wsX9_carriage_r5)))) ++ wsX90 ++ wsX00 ++ wsX30 ++ wsX40 ++ wsX70 ++ wsX20)
noncomputable def wsX9_measures : List Cond := .code yX9_measures cX9_measures 3 (some .int) :: ([.fieldLink RX9 54 "KindStreets" "measures" "LKindStreets$Measures;", .fieldLink RX9 84 "KindStreets$Measures" "measured" "I", .methodLink RX9 58 yX9_isWithin, .static yX9_isWithin, .initialized RX9, .code yX9_isWithin cX9_isWithin 3 (some .boolean), .methodLink RX9 220 yX1_add, .instanceMethod yX1_add, .selects RX1 yX1_add yX1_add, .initialized RX1, .code yX1_add cX1_add 3 none, .fieldLink RX1 21 "KindStreets$Measures" "measured" "I", .fieldLink RX1 9 "KindStreets$Measures" "width" "[I", .fieldLink RX1 15 "KindStreets$Measures" "night" "[I"] ++ wsX90 ++ wsX10)
noncomputable def wsX9_forget : List Cond := .code yX9_forget cX9_forget 2 (some .int) :: ([.fieldLink RX9 54 "KindStreets" "measures" "LKindStreets$Measures;", .fieldLink RX9 84 "KindStreets$Measures" "measured" "I"] ++ wsX90 ++ wsX10)
noncomputable def wsX9_deeds_r1 : List Cond := [Cond.fieldLink RX9 54 "KindStreets" "measures" "LKindStreets$Measures;", Cond.methodLink RX9 223 yX1_manyDeeds, Cond.instanceMethod yX1_manyDeeds, Cond.selects RX1 yX1_manyDeeds yX1_manyDeeds, Cond.initialized RX1, Cond.code yX1_manyDeeds cX1_manyDeeds 3 (some .int), Cond.methodLink RX1 25 yX1_areSo, Cond.instanceMethod yX1_areSo, Cond.selects RX1 yX1_areSo yX1_areSo, Cond.code yX1_areSo cX1_areSo 3 (some .boolean), Cond.fieldLink RX1 21 "KindStreets$Measures" "measured" "I", Cond.fieldLink RX1 15 "KindStreets$Measures" "night" "[I", Cond.fieldLink RX1 9 "KindStreets$Measures" "width" "[I", Cond.methodLink RX1 35 yX1_widthBy, Cond.static yX1_widthBy, Cond.code yX1_widthBy cX1_widthBy 2 (some .int), Cond.methodLink RX1 44 yX2_widthBy, Cond.static yX2_widthBy, Cond.initialized RX2, Cond.code yX2_widthBy cX2_widthBy 3 (some .int), Cond.methodLink RX2 50 Lib.Math.max.name, Cond.static Lib.Math.max.name, Cond.initialized "java/lang/Math", Cond.code Lib.Math.max.name Lib.Math.max.code 2 (some .int)]
noncomputable def wsX9_deeds_r2 : List Cond := [Cond.methodLink RX9 226 yX1_firstDeeds, Cond.instanceMethod yX1_firstDeeds, Cond.selects RX1 yX1_firstDeeds yX1_firstDeeds, Cond.code yX1_firstDeeds cX1_firstDeeds 2 (some .int)]
noncomputable def wsX9_deeds : List Cond := .code yX9_deeds cX9_deeds 2 (some .int) :: ((wsX9_deeds_r1 ++ wsX9_deeds_r2) ++ wsX90 ++ wsX10)
noncomputable def wsX9_when_r1 : List Cond := [Cond.fieldLink RX9 54 "KindStreets" "measures" "LKindStreets$Measures;", Cond.methodLink RX9 229 yX1_mostAlike, Cond.instanceMethod yX1_mostAlike, Cond.selects RX1 yX1_mostAlike yX1_mostAlike, Cond.initialized RX1, Cond.code yX1_mostAlike cX1_mostAlike 5 (some .int), Cond.fieldLink RX1 18 "KindStreets$Measures" "alike" "[I", Cond.methodLink RX1 39 Lib.Math.max.name, Cond.static Lib.Math.max.name, Cond.initialized "java/lang/Math", Cond.code Lib.Math.max.name Lib.Math.max.code 2 (some .int), Cond.methodLink RX1 29 yJ7_fill_53178, Cond.static yJ7_fill_53178, Cond.initialized RJ7, Cond.code yJ7_fill_53178 cJ7_fill_53178 4 none, Cond.methodLink RX1 25 yX1_areSo, Cond.instanceMethod yX1_areSo, Cond.selects RX1 yX1_areSo yX1_areSo, Cond.code yX1_areSo cX1_areSo 3 (some .boolean), Cond.fieldLink RX1 21 "KindStreets$Measures" "measured" "I", Cond.fieldLink RX1 15 "KindStreets$Measures" "night" "[I", Cond.fieldLink RX1 9 "KindStreets$Measures" "width" "[I", Cond.methodLink RX1 35 yX1_widthBy, Cond.static yX1_widthBy]
noncomputable def wsX9_when_r2 : List Cond := [Cond.code yX1_widthBy cX1_widthBy 2 (some .int), Cond.methodLink RX1 44 yX2_widthBy, Cond.static yX2_widthBy, Cond.initialized RX2, Cond.code yX2_widthBy cX2_widthBy 3 (some .int), Cond.methodLink RX2 50 Lib.Math.max.name]
noncomputable def wsX9_when : List Cond := .code yX9_when cX9_when 2 (some .int) :: ((wsX9_when_r1 ++ wsX9_when_r2) ++ wsX90 ++ wsX10)
noncomputable def wsX9_markAsStreet : List Cond := .code yX9_markAsStreet cX9_markAsStreet 2 (some .int) :: ([.fieldLink RX9 263 "KindStreets" "trace" "J", .fieldLink RX9 29 "KindStreets" "now" "LKindStreets$Now;", .fieldLink RX9 98 "KindStreets$Now" "moment" "LKindStreets$Moment;", .methodLink RX9 113 yX2_widthOf, .instanceMethod yX2_widthOf, .selects RX2 yX2_widthOf yX2_widthOf, .initialized RX2, .code yX2_widthOf cX2_widthOf 2 (some .int), .fieldLink RX2 9 "KindStreets$Moment" "seen" "[I", .fieldLink RX2 18 "KindStreets$Moment" "pretended" "[I", .fieldLink RX2 42 "KindStreets$Moment" "night" "I", .methodLink RX2 46 yX2_widthBy, .static yX2_widthBy, .code yX2_widthBy cX2_widthBy 3 (some .int), .methodLink RX2 50 Lib.Math.max.name, .static Lib.Math.max.name, .initialized "java/lang/Math", .code Lib.Math.max.name Lib.Math.max.code 2 (some .int)] ++ wsX90 ++ wsX30 ++ wsX20)
noncomputable def wsX9_markAsCross_r1 : List Cond := [Cond.fieldLink RX9 263 "KindStreets" "trace" "J", Cond.constantLong RX9 267 (10), Cond.methodLink RX9 233 yX9_markAsStreet, Cond.instanceMethod yX9_markAsStreet, Cond.selects RX9 yX9_markAsStreet yX9_markAsStreet, Cond.initialized RX9, Cond.code yX9_markAsStreet cX9_markAsStreet 2 (some .int), Cond.fieldLink RX9 29 "KindStreets" "now" "LKindStreets$Now;", Cond.fieldLink RX9 98 "KindStreets$Now" "moment" "LKindStreets$Moment;", Cond.methodLink RX9 113 yX2_widthOf, Cond.instanceMethod yX2_widthOf, Cond.selects RX2 yX2_widthOf yX2_widthOf, Cond.initialized RX2, Cond.code yX2_widthOf cX2_widthOf 2 (some .int), Cond.fieldLink RX2 9 "KindStreets$Moment" "seen" "[I", Cond.fieldLink RX2 18 "KindStreets$Moment" "pretended" "[I", Cond.fieldLink RX2 42 "KindStreets$Moment" "night" "I", Cond.methodLink RX2 46 yX2_widthBy, Cond.static yX2_widthBy, Cond.code yX2_widthBy cX2_widthBy 3 (some .int), Cond.methodLink RX2 50 Lib.Math.max.name, Cond.static Lib.Math.max.name, Cond.initialized "java/lang/Math", Cond.code Lib.Math.max.name Lib.Math.max.code 2 (some .int)]
noncomputable def wsX9_markAsCross_r2 : List Cond := [Cond.methodLink RX9 117 yX9_livingIn, Cond.instanceMethod yX9_livingIn, Cond.selects RX9 yX9_livingIn yX9_livingIn, Cond.code yX9_livingIn cX9_livingIn 2 (some .int), Cond.methodLink RX9 289 yX9_livingInAny, Cond.instanceMethod yX9_livingInAny, Cond.selects RX9 yX9_livingInAny yX9_livingInAny, Cond.code yX9_livingInAny cX9_livingInAny 4 (some .int), Cond.fieldLink RX9 23 "KindStreets" "town" "LKindStreets$Town;", Cond.fieldLink RX9 260 "KindStreets$Town" "citizens" "I", Cond.fieldLink RX9 123 "KindStreets$Moment" "home" "[I", Cond.methodLink RX9 254 yX5_has, Cond.static yX5_has, Cond.initialized RX5, Cond.code yX5_has cX5_has 2 (some .boolean), Cond.methodLink RX9 135 yJ6_bitCount_0f7a4, Cond.static yJ6_bitCount_0f7a4, Cond.initialized RJ6, Cond.code yJ6_bitCount_0f7a4 cJ6_bitCount_0f7a4 1 (some .int), Cond.constant RJ6 265 (1431655765), Cond.constant RJ6 266 (858993459), Cond.constant RJ6 267 (252645135)]
noncomputable def wsX9_markAsCross : List Cond := .code yX9_markAsCross cX9_markAsCross 2 (some .int) :: ((wsX9_markAsCross_r1 ++ wsX9_markAsCross_r2) ++ wsX90 ++ wsX30 ++ wsX20 ++ wsX40 ++ wsX70)
noncomputable def wsX9_markAsLane_r1 : List Cond := [Cond.fieldLink RX9 263 "KindStreets" "trace" "J", Cond.constantLong RX9 269 (100), Cond.fieldLink RX9 29 "KindStreets" "now" "LKindStreets$Now;", Cond.fieldLink RX9 98 "KindStreets$Now" "moment" "LKindStreets$Moment;", Cond.fieldLink RX9 107 "KindStreets$Moment" "hidden" "[I", Cond.methodLink RX9 233 yX9_markAsStreet, Cond.instanceMethod yX9_markAsStreet, Cond.selects RX9 yX9_markAsStreet yX9_markAsStreet, Cond.initialized RX9, Cond.code yX9_markAsStreet cX9_markAsStreet 2 (some .int), Cond.methodLink RX9 113 yX2_widthOf, Cond.instanceMethod yX2_widthOf, Cond.selects RX2 yX2_widthOf yX2_widthOf, Cond.initialized RX2, Cond.code yX2_widthOf cX2_widthOf 2 (some .int), Cond.fieldLink RX2 9 "KindStreets$Moment" "seen" "[I", Cond.fieldLink RX2 18 "KindStreets$Moment" "pretended" "[I", Cond.fieldLink RX2 42 "KindStreets$Moment" "night" "I", Cond.methodLink RX2 46 yX2_widthBy, Cond.static yX2_widthBy, Cond.code yX2_widthBy cX2_widthBy 3 (some .int), Cond.methodLink RX2 50 Lib.Math.max.name, Cond.static Lib.Math.max.name, Cond.initialized "java/lang/Math"]
noncomputable def wsX9_markAsLane_r2 : List Cond := [Cond.code Lib.Math.max.name Lib.Math.max.code 2 (some .int)]
noncomputable def wsX9_markAsLane : List Cond := .code yX9_markAsLane cX9_markAsLane 2 (some .int) :: ((wsX9_markAsLane_r1 ++ wsX9_markAsLane_r2) ++ wsX90 ++ wsX30 ++ wsX20)
noncomputable def wsX9_markAsBoulevard_r1 : List Cond := [Cond.fieldLink RX9 263 "KindStreets" "trace" "J", Cond.constantLong RX9 271 (1000), Cond.methodLink RX9 236 yX9_markAsCross, Cond.instanceMethod yX9_markAsCross, Cond.selects RX9 yX9_markAsCross yX9_markAsCross, Cond.initialized RX9, Cond.code yX9_markAsCross cX9_markAsCross 2 (some .int), Cond.constantLong RX9 267 (10), Cond.methodLink RX9 233 yX9_markAsStreet, Cond.instanceMethod yX9_markAsStreet, Cond.selects RX9 yX9_markAsStreet yX9_markAsStreet, Cond.code yX9_markAsStreet cX9_markAsStreet 2 (some .int), Cond.fieldLink RX9 29 "KindStreets" "now" "LKindStreets$Now;", Cond.fieldLink RX9 98 "KindStreets$Now" "moment" "LKindStreets$Moment;", Cond.methodLink RX9 113 yX2_widthOf, Cond.instanceMethod yX2_widthOf, Cond.selects RX2 yX2_widthOf yX2_widthOf, Cond.initialized RX2, Cond.code yX2_widthOf cX2_widthOf 2 (some .int), Cond.fieldLink RX2 9 "KindStreets$Moment" "seen" "[I", Cond.fieldLink RX2 18 "KindStreets$Moment" "pretended" "[I", Cond.fieldLink RX2 42 "KindStreets$Moment" "night" "I", Cond.methodLink RX2 46 yX2_widthBy, Cond.static yX2_widthBy]
noncomputable def wsX9_markAsBoulevard_r2 : List Cond := [Cond.code yX2_widthBy cX2_widthBy 3 (some .int), Cond.methodLink RX2 50 Lib.Math.max.name, Cond.static Lib.Math.max.name, Cond.initialized "java/lang/Math", Cond.code Lib.Math.max.name Lib.Math.max.code 2 (some .int), Cond.methodLink RX9 117 yX9_livingIn, Cond.instanceMethod yX9_livingIn, Cond.selects RX9 yX9_livingIn yX9_livingIn, Cond.code yX9_livingIn cX9_livingIn 2 (some .int), Cond.methodLink RX9 289 yX9_livingInAny, Cond.instanceMethod yX9_livingInAny, Cond.selects RX9 yX9_livingInAny yX9_livingInAny, Cond.code yX9_livingInAny cX9_livingInAny 4 (some .int), Cond.fieldLink RX9 23 "KindStreets" "town" "LKindStreets$Town;", Cond.fieldLink RX9 260 "KindStreets$Town" "citizens" "I", Cond.fieldLink RX9 123 "KindStreets$Moment" "home" "[I", Cond.methodLink RX9 254 yX5_has, Cond.static yX5_has, Cond.initialized RX5, Cond.code yX5_has cX5_has 2 (some .boolean), Cond.methodLink RX9 135 yJ6_bitCount_0f7a4, Cond.static yJ6_bitCount_0f7a4, Cond.initialized RJ6, Cond.code yJ6_bitCount_0f7a4 cJ6_bitCount_0f7a4 1 (some .int)]
noncomputable def wsX9_markAsBoulevard_r3 : List Cond := [Cond.constant RJ6 265 (1431655765), Cond.constant RJ6 266 (858993459), Cond.constant RJ6 267 (252645135)]
noncomputable def wsX9_markAsBoulevard : List Cond := .code yX9_markAsBoulevard cX9_markAsBoulevard 2 (some .int) :: ((wsX9_markAsBoulevard_r1 ++ (wsX9_markAsBoulevard_r2 ++ wsX9_markAsBoulevard_r3)) ++ wsX90 ++ wsX30 ++ wsX20 ++ wsX40 ++ wsX70)
noncomputable def wsX9_markAsCourt_r1 : List Cond := [Cond.fieldLink RX9 263 "KindStreets" "trace" "J", Cond.constantLong RX9 273 (10000), Cond.methodLink RX9 239 yX9_markAsLane, Cond.instanceMethod yX9_markAsLane, Cond.selects RX9 yX9_markAsLane yX9_markAsLane, Cond.initialized RX9, Cond.code yX9_markAsLane cX9_markAsLane 2 (some .int), Cond.constantLong RX9 269 (100), Cond.fieldLink RX9 29 "KindStreets" "now" "LKindStreets$Now;", Cond.fieldLink RX9 98 "KindStreets$Now" "moment" "LKindStreets$Moment;", Cond.fieldLink RX9 107 "KindStreets$Moment" "hidden" "[I", Cond.methodLink RX9 233 yX9_markAsStreet, Cond.instanceMethod yX9_markAsStreet, Cond.selects RX9 yX9_markAsStreet yX9_markAsStreet, Cond.code yX9_markAsStreet cX9_markAsStreet 2 (some .int), Cond.methodLink RX9 113 yX2_widthOf, Cond.instanceMethod yX2_widthOf, Cond.selects RX2 yX2_widthOf yX2_widthOf, Cond.initialized RX2, Cond.code yX2_widthOf cX2_widthOf 2 (some .int), Cond.fieldLink RX2 9 "KindStreets$Moment" "seen" "[I", Cond.fieldLink RX2 18 "KindStreets$Moment" "pretended" "[I", Cond.fieldLink RX2 42 "KindStreets$Moment" "night" "I", Cond.methodLink RX2 46 yX2_widthBy]
noncomputable def wsX9_markAsCourt_r2 : List Cond := [Cond.static yX2_widthBy, Cond.code yX2_widthBy cX2_widthBy 3 (some .int), Cond.methodLink RX2 50 Lib.Math.max.name, Cond.static Lib.Math.max.name, Cond.initialized "java/lang/Math", Cond.code Lib.Math.max.name Lib.Math.max.code 2 (some .int)]
noncomputable def wsX9_markAsCourt : List Cond := .code yX9_markAsCourt cX9_markAsCourt 2 (some .int) :: ((wsX9_markAsCourt_r1 ++ wsX9_markAsCourt_r2) ++ wsX90 ++ wsX30 ++ wsX20)
noncomputable def wsX9_markAsAlley_r1 : List Cond := [Cond.fieldLink RX9 263 "KindStreets" "trace" "J", Cond.constantLong RX9 275 (100000), Cond.methodLink RX9 233 yX9_markAsStreet, Cond.instanceMethod yX9_markAsStreet, Cond.selects RX9 yX9_markAsStreet yX9_markAsStreet, Cond.initialized RX9, Cond.code yX9_markAsStreet cX9_markAsStreet 2 (some .int), Cond.fieldLink RX9 29 "KindStreets" "now" "LKindStreets$Now;", Cond.fieldLink RX9 98 "KindStreets$Now" "moment" "LKindStreets$Moment;", Cond.methodLink RX9 113 yX2_widthOf, Cond.instanceMethod yX2_widthOf, Cond.selects RX2 yX2_widthOf yX2_widthOf, Cond.initialized RX2, Cond.code yX2_widthOf cX2_widthOf 2 (some .int), Cond.fieldLink RX2 9 "KindStreets$Moment" "seen" "[I", Cond.fieldLink RX2 18 "KindStreets$Moment" "pretended" "[I", Cond.fieldLink RX2 42 "KindStreets$Moment" "night" "I", Cond.methodLink RX2 46 yX2_widthBy, Cond.static yX2_widthBy, Cond.code yX2_widthBy cX2_widthBy 3 (some .int), Cond.methodLink RX2 50 Lib.Math.max.name, Cond.static Lib.Math.max.name, Cond.initialized "java/lang/Math", Cond.code Lib.Math.max.name Lib.Math.max.code 2 (some .int)]
noncomputable def wsX9_markAsAlley_r2 : List Cond := [Cond.methodLink RX9 277 yX9_streetsAt, Cond.instanceMethod yX9_streetsAt, Cond.selects RX9 yX9_streetsAt yX9_streetsAt, Cond.code yX9_streetsAt cX9_streetsAt 4 (some .int), Cond.fieldLink RX9 23 "KindStreets" "town" "LKindStreets$Town;", Cond.fieldLink RX9 189 "KindStreets$Town" "streets" "I", Cond.methodLink RX9 286 ⟨"KindStreets$Town", "endsOf", "(I)I"⟩, Cond.sameMethod "KindStreets$Town" "KindStreets$Town" "endsOf" "(I)I", Cond.selects RX4 ⟨"KindStreets$Town", "endsOf", "(I)I"⟩ yX7_endsOf, Cond.instanceMethod yX7_endsOf, Cond.initialized RX7, Cond.code yX7_endsOf cX7_endsOf 2 (some .int), Cond.fieldLink RX7 15 "KindStreets$Town" "one" "[I", Cond.fieldLink RX7 19 "KindStreets$Town" "other" "[I", Cond.methodLink RX9 286 yX7_endsOf, Cond.selects RX7 yX7_endsOf yX7_endsOf, Cond.methodLink RX9 135 yJ6_bitCount_0f7a4, Cond.static yJ6_bitCount_0f7a4, Cond.initialized RJ6, Cond.code yJ6_bitCount_0f7a4 cJ6_bitCount_0f7a4 1 (some .int), Cond.constant RJ6 265 (1431655765), Cond.constant RJ6 266 (858993459), Cond.constant RJ6 267 (252645135)]
noncomputable def wsX9_markAsAlley : List Cond := .code yX9_markAsAlley cX9_markAsAlley 2 (some .int) :: ((wsX9_markAsAlley_r1 ++ wsX9_markAsAlley_r2) ++ wsX90 ++ wsX30 ++ wsX20 ++ wsX40 ++ wsX70)
noncomputable def wsX9_mark_r1 : List Cond := [Cond.constant RX9 232 (-1000000), Cond.methodLink RX9 87 yX9_isStreet, Cond.instanceMethod yX9_isStreet, Cond.selects RX9 yX9_isStreet yX9_isStreet, Cond.initialized RX9, Cond.code yX9_isStreet cX9_isStreet 2 (some .boolean), Cond.fieldLink RX9 23 "KindStreets" "town" "LKindStreets$Town;", Cond.fieldLink RX9 189 "KindStreets$Town" "streets" "I", Cond.methodLink RX9 58 yX9_isWithin, Cond.static yX9_isWithin, Cond.code yX9_isWithin cX9_isWithin 3 (some .boolean), Cond.methodLink RX9 233 yX9_markAsStreet, Cond.instanceMethod yX9_markAsStreet, Cond.selects RX9 yX9_markAsStreet yX9_markAsStreet, Cond.code yX9_markAsStreet cX9_markAsStreet 2 (some .int), Cond.fieldLink RX9 263 "KindStreets" "trace" "J", Cond.fieldLink RX9 29 "KindStreets" "now" "LKindStreets$Now;", Cond.fieldLink RX9 98 "KindStreets$Now" "moment" "LKindStreets$Moment;", Cond.methodLink RX9 113 yX2_widthOf, Cond.instanceMethod yX2_widthOf, Cond.selects RX2 yX2_widthOf yX2_widthOf, Cond.initialized RX2, Cond.code yX2_widthOf cX2_widthOf 2 (some .int), Cond.fieldLink RX2 9 "KindStreets$Moment" "seen" "[I"]
noncomputable def wsX9_mark_r2 : List Cond := [Cond.fieldLink RX2 18 "KindStreets$Moment" "pretended" "[I", Cond.fieldLink RX2 42 "KindStreets$Moment" "night" "I", Cond.methodLink RX2 46 yX2_widthBy, Cond.static yX2_widthBy, Cond.code yX2_widthBy cX2_widthBy 3 (some .int), Cond.methodLink RX2 50 Lib.Math.max.name, Cond.static Lib.Math.max.name, Cond.initialized "java/lang/Math", Cond.code Lib.Math.max.name Lib.Math.max.code 2 (some .int), Cond.methodLink RX9 236 yX9_markAsCross, Cond.instanceMethod yX9_markAsCross, Cond.selects RX9 yX9_markAsCross yX9_markAsCross, Cond.code yX9_markAsCross cX9_markAsCross 2 (some .int), Cond.constantLong RX9 267 (10), Cond.methodLink RX9 117 yX9_livingIn, Cond.instanceMethod yX9_livingIn, Cond.selects RX9 yX9_livingIn yX9_livingIn, Cond.code yX9_livingIn cX9_livingIn 2 (some .int), Cond.methodLink RX9 289 yX9_livingInAny, Cond.instanceMethod yX9_livingInAny, Cond.selects RX9 yX9_livingInAny yX9_livingInAny, Cond.code yX9_livingInAny cX9_livingInAny 4 (some .int), Cond.fieldLink RX9 260 "KindStreets$Town" "citizens" "I", Cond.fieldLink RX9 123 "KindStreets$Moment" "home" "[I"]
noncomputable def wsX9_mark_r3 : List Cond := [Cond.methodLink RX9 254 yX5_has, Cond.static yX5_has, Cond.initialized RX5, Cond.code yX5_has cX5_has 2 (some .boolean), Cond.methodLink RX9 135 yJ6_bitCount_0f7a4, Cond.static yJ6_bitCount_0f7a4, Cond.initialized RJ6, Cond.code yJ6_bitCount_0f7a4 cJ6_bitCount_0f7a4 1 (some .int), Cond.constant RJ6 265 (1431655765), Cond.constant RJ6 266 (858993459), Cond.constant RJ6 267 (252645135), Cond.methodLink RX9 239 yX9_markAsLane, Cond.instanceMethod yX9_markAsLane, Cond.selects RX9 yX9_markAsLane yX9_markAsLane, Cond.code yX9_markAsLane cX9_markAsLane 2 (some .int), Cond.constantLong RX9 269 (100), Cond.fieldLink RX9 107 "KindStreets$Moment" "hidden" "[I", Cond.methodLink RX9 242 yX9_markAsBoulevard, Cond.instanceMethod yX9_markAsBoulevard, Cond.selects RX9 yX9_markAsBoulevard yX9_markAsBoulevard, Cond.code yX9_markAsBoulevard cX9_markAsBoulevard 2 (some .int), Cond.constantLong RX9 271 (1000), Cond.methodLink RX9 245 yX9_markAsCourt, Cond.instanceMethod yX9_markAsCourt]
noncomputable def wsX9_mark_r4 : List Cond := [Cond.selects RX9 yX9_markAsCourt yX9_markAsCourt, Cond.code yX9_markAsCourt cX9_markAsCourt 2 (some .int), Cond.constantLong RX9 273 (10000), Cond.methodLink RX9 248 yX9_markAsAlley, Cond.instanceMethod yX9_markAsAlley, Cond.selects RX9 yX9_markAsAlley yX9_markAsAlley, Cond.code yX9_markAsAlley cX9_markAsAlley 2 (some .int), Cond.constantLong RX9 275 (100000), Cond.methodLink RX9 277 yX9_streetsAt, Cond.instanceMethod yX9_streetsAt, Cond.selects RX9 yX9_streetsAt yX9_streetsAt, Cond.code yX9_streetsAt cX9_streetsAt 4 (some .int), Cond.methodLink RX9 286 ⟨"KindStreets$Town", "endsOf", "(I)I"⟩, Cond.sameMethod "KindStreets$Town" "KindStreets$Town" "endsOf" "(I)I", Cond.selects RX4 ⟨"KindStreets$Town", "endsOf", "(I)I"⟩ yX7_endsOf, Cond.instanceMethod yX7_endsOf, Cond.initialized RX7, Cond.code yX7_endsOf cX7_endsOf 2 (some .int), Cond.fieldLink RX7 15 "KindStreets$Town" "one" "[I", Cond.fieldLink RX7 19 "KindStreets$Town" "other" "[I", Cond.methodLink RX9 286 yX7_endsOf, Cond.selects RX7 yX7_endsOf yX7_endsOf]
noncomputable def wsX9_mark : List Cond := .code yX9_mark cX9_mark 3 (some .int) :: ((wsX9_mark_r1 ++ (wsX9_mark_r2 ++ (wsX9_mark_r3 ++ wsX9_mark_r4))) ++ wsX90 ++ wsX40 ++ wsX70 ++ wsX30 ++ wsX20)
noncomputable def wsX9_keep_r1 : List Cond := [Cond.fieldLink RX9 33 "KindStreets" "images" "[LKindStreets$Now;", Cond.fieldLink RX9 29 "KindStreets" "now" "LKindStreets$Now;", Cond.fieldLink RX9 81 "KindStreets" "kept" "I", Cond.fieldLink RX9 98 "KindStreets$Now" "moment" "LKindStreets$Moment;", Cond.fieldLink RX9 144 "KindStreets$Moment" "night" "I", Cond.methodLink RX9 58 yX9_isWithin, Cond.static yX9_isWithin, Cond.initialized RX9, Cond.code yX9_isWithin cX9_isWithin 3 (some .boolean), Cond.methodLink RX9 251 yX3_become, Cond.instanceMethod yX3_become, Cond.selects RX3 yX3_become yX3_become, Cond.initialized RX3, Cond.code yX3_become cX3_become 3 none, Cond.fieldLink RX3 12 "KindStreets$Now" "moment" "LKindStreets$Moment;", Cond.fieldLink RX3 18 "KindStreets$Now" "past" "[LKindStreets$Moment;", Cond.fieldLink RX3 26 "KindStreets$Now" "known" "I", Cond.methodLink RX3 30 yX2_become, Cond.instanceMethod yX2_become, Cond.selects RX2 yX2_become yX2_become, Cond.initialized RX2, Cond.code yX2_become cX2_become 2 none, Cond.fieldLink RX2 9 "KindStreets$Moment" "seen" "[I", Cond.methodLink RX2 29 arraycopyName]
noncomputable def wsX9_keep_r2 : List Cond := [Cond.native arraycopyName, Cond.static arraycopyName, Cond.initialized "java/lang/System", Cond.fieldLink RX2 15 "KindStreets$Moment" "hidden" "[I", Cond.fieldLink RX2 18 "KindStreets$Moment" "pretended" "[I", Cond.fieldLink RX2 21 "KindStreets$Moment" "home" "[I", Cond.fieldLink RX2 42 "KindStreets$Moment" "night" "I"]
noncomputable def wsX9_keep : List Cond := .code yX9_keep cX9_keep 2 (some .int) :: ((wsX9_keep_r1 ++ wsX9_keep_r2) ++ wsX90 ++ wsX30 ++ wsX20)
noncomputable def wsX9_back_r1 : List Cond := [Cond.fieldLink RX9 81 "KindStreets" "kept" "I", Cond.fieldLink RX9 29 "KindStreets" "now" "LKindStreets$Now;", Cond.fieldLink RX9 33 "KindStreets" "images" "[LKindStreets$Now;", Cond.fieldLink RX9 98 "KindStreets$Now" "moment" "LKindStreets$Moment;", Cond.fieldLink RX9 144 "KindStreets$Moment" "night" "I", Cond.methodLink RX9 58 yX9_isWithin, Cond.static yX9_isWithin, Cond.initialized RX9, Cond.code yX9_isWithin cX9_isWithin 3 (some .boolean), Cond.methodLink RX9 254 yX5_has, Cond.static yX5_has, Cond.initialized RX5, Cond.code yX5_has cX5_has 2 (some .boolean), Cond.methodLink RX9 251 yX3_become, Cond.instanceMethod yX3_become, Cond.selects RX3 yX3_become yX3_become, Cond.initialized RX3, Cond.code yX3_become cX3_become 3 none, Cond.fieldLink RX3 12 "KindStreets$Now" "moment" "LKindStreets$Moment;", Cond.fieldLink RX3 18 "KindStreets$Now" "past" "[LKindStreets$Moment;", Cond.fieldLink RX3 26 "KindStreets$Now" "known" "I", Cond.methodLink RX3 30 yX2_become, Cond.instanceMethod yX2_become, Cond.selects RX2 yX2_become yX2_become]
noncomputable def wsX9_back_r2 : List Cond := [Cond.initialized RX2, Cond.code yX2_become cX2_become 2 none, Cond.fieldLink RX2 9 "KindStreets$Moment" "seen" "[I", Cond.methodLink RX2 29 arraycopyName, Cond.native arraycopyName, Cond.static arraycopyName, Cond.initialized "java/lang/System", Cond.fieldLink RX2 15 "KindStreets$Moment" "hidden" "[I", Cond.fieldLink RX2 18 "KindStreets$Moment" "pretended" "[I", Cond.fieldLink RX2 21 "KindStreets$Moment" "home" "[I", Cond.fieldLink RX2 42 "KindStreets$Moment" "night" "I"]
noncomputable def wsX9_back : List Cond := .code yX9_back cX9_back 2 (some .int) :: ((wsX9_back_r1 ++ wsX9_back_r2) ++ wsX90 ++ wsX30 ++ wsX20)
noncomputable def wsX9_count : List Cond := .code yX9_count cX9_count 2 (some .int) :: ([.fieldLink RX9 23 "KindStreets" "town" "LKindStreets$Town;", .fieldLink RX9 257 "KindStreets$Town" "yards" "I", .fieldLink RX9 189 "KindStreets$Town" "streets" "I", .fieldLink RX9 260 "KindStreets$Town" "citizens" "I", .fieldLink RX9 54 "KindStreets" "measures" "LKindStreets$Measures;", .fieldLink RX9 84 "KindStreets$Measures" "measured" "I", .fieldLink RX9 29 "KindStreets" "now" "LKindStreets$Now;", .fieldLink RX9 151 "KindStreets$Now" "known" "I", .fieldLink RX9 10 "KindStreets" "text" "LKindStreets$Text;", .fieldLink RX9 62 "KindStreets$Text" "length" "I"] ++ wsX90 ++ wsX40 ++ wsX70 ++ wsX10 ++ wsX30 ++ wsX60)
noncomputable def wsX9_trace : List Cond := .code yX9_trace cX9_trace 1 (some .long) :: ([.fieldLink RX9 263 "KindStreets" "trace" "J"] ++ wsX90)
noncomputable def wsX10_init : List Cond := .code yX10_init cX10_init 1 none :: ([.methodLink RX10 1 objectInit, .instanceMethod objectInit, .code objectInit ⟨#[0xb1]⟩ 1 none, .arrayClass .byte, .fieldLink RX10 7 "KindStreetsModel" "text" "[B", .arrayClass .int, .fieldLink RX10 13 "KindStreetsModel" "yards" "[I", .fieldLink RX10 17 "KindStreetsModel" "streets" "[I", .fieldLink RX10 20 "KindStreetsModel" "from" "[I", .fieldLink RX10 23 "KindStreetsModel" "to" "[I", .fieldLink RX10 26 "KindStreetsModel" "old" "[I", .fieldLink RX10 29 "KindStreetsModel" "people" "[I", .fieldLink RX10 32 "KindStreetsModel" "home" "[I", .fieldLink RX10 35 "KindStreetsModel" "wants" "[I", .fieldLink RX10 38 "KindStreetsModel" "now" "[I", .fieldLink RX10 41 "KindStreetsModel" "known" "[I", .fieldLink RX10 44 "KindStreetsModel" "before" "[I", .fieldLink RX10 47 "KindStreetsModel" "store" "[I", .arrayClass .boolean, .fieldLink RX10 50 "KindStreetsModel" "isKept" "[Z", .fieldLink RX10 54 "KindStreetsModel" "most" "[I", .fieldLink RX10 57 "KindStreetsModel" "factWidth" "[I", .fieldLink RX10 60 "KindStreetsModel" "factNight" "[I"] ++ wsX100)
noncomputable def wsX10_in : List Cond := .code yX10_in cX10_in 3 (some .boolean) :: ([])
noncomputable def wsX10_has : List Cond := .code yX10_has cX10_has 2 (some .boolean) :: ([])
noncomputable def wsX10_bitsOf : List Cond := .code yX10_bitsOf cX10_bitsOf 3 (some .int) :: ([])
noncomputable def wsX10_type : List Cond := .code yX10_type cX10_type 2 (some .int) :: ([.fieldLink RX10 67 "KindStreetsModel" "typed" "I", .fieldLink RX10 7 "KindStreetsModel" "text" "[B", .methodLink RX10 63 yX10_in, .static yX10_in, .initialized RX10, .code yX10_in cX10_in 3 (some .boolean)] ++ wsX100)
noncomputable def wsX10_clear : List Cond := .code yX10_clear cX10_clear 2 (some .int) :: ([.fieldLink RX10 67 "KindStreetsModel" "typed" "I"] ++ wsX100)
noncomputable def wsX10_here : List Cond := .code yX10_here cX10_here 1 (some .int) :: ([.fieldLink RX10 71 "KindStreetsModel" "at" "I", .fieldLink RX10 67 "KindStreetsModel" "typed" "I", .fieldLink RX10 7 "KindStreetsModel" "text" "[B"] ++ wsX100)
noncomputable def wsX10_step : List Cond := .code yX10_step cX10_step 2 none :: ([.fieldLink RX10 71 "KindStreetsModel" "at" "I", .fieldLink RX10 78 "KindStreetsModel" "place" "I", .fieldLink RX10 81 "KindStreetsModel" "value" "I", .fieldLink RX10 84 "KindStreetsModel" "sort" "I", .methodLink RX10 74 yX10_here, .instanceMethod yX10_here, .selects RX10 yX10_here yX10_here, .initialized RX10, .code yX10_here cX10_here 1 (some .int), .fieldLink RX10 67 "KindStreetsModel" "typed" "I", .fieldLink RX10 7 "KindStreetsModel" "text" "[B", .methodLink RX10 63 yX10_in, .static yX10_in, .code yX10_in cX10_in 3 (some .boolean)] ++ wsX100)
noncomputable def wsX10_due : List Cond := .code yX10_due cX10_due 2 none :: ([.fieldLink RX10 87 "KindStreetsModel" "isWrong" "Z", .methodLink RX10 91 yX10_step, .instanceMethod yX10_step, .selects RX10 yX10_step yX10_step, .initialized RX10, .code yX10_step cX10_step 2 none, .fieldLink RX10 71 "KindStreetsModel" "at" "I", .fieldLink RX10 78 "KindStreetsModel" "place" "I", .fieldLink RX10 81 "KindStreetsModel" "value" "I", .fieldLink RX10 84 "KindStreetsModel" "sort" "I", .methodLink RX10 74 yX10_here, .instanceMethod yX10_here, .selects RX10 yX10_here yX10_here, .code yX10_here cX10_here 1 (some .int), .fieldLink RX10 67 "KindStreetsModel" "typed" "I", .fieldLink RX10 7 "KindStreetsModel" "text" "[B", .methodLink RX10 63 yX10_in, .static yX10_in, .code yX10_in cX10_in 3 (some .boolean)] ++ wsX100)
noncomputable def wsX10_number : List Cond := .code yX10_number cX10_number 4 (some .int) :: ([.fieldLink RX10 81 "KindStreetsModel" "value" "I", .fieldLink RX10 84 "KindStreetsModel" "sort" "I", .methodLink RX10 63 yX10_in, .static yX10_in, .initialized RX10, .code yX10_in cX10_in 3 (some .boolean), .methodLink RX10 94 yX10_due, .instanceMethod yX10_due, .selects RX10 yX10_due yX10_due, .code yX10_due cX10_due 2 none, .fieldLink RX10 87 "KindStreetsModel" "isWrong" "Z", .methodLink RX10 91 yX10_step, .instanceMethod yX10_step, .selects RX10 yX10_step yX10_step, .code yX10_step cX10_step 2 none, .fieldLink RX10 71 "KindStreetsModel" "at" "I", .fieldLink RX10 78 "KindStreetsModel" "place" "I", .methodLink RX10 74 yX10_here, .instanceMethod yX10_here, .selects RX10 yX10_here yX10_here, .code yX10_here cX10_here 1 (some .int), .fieldLink RX10 67 "KindStreetsModel" "typed" "I", .fieldLink RX10 7 "KindStreetsModel" "text" "[B"] ++ wsX100)
noncomputable def wsX10_item_r1 : List Cond := [Cond.fieldLink RX10 13 "KindStreetsModel" "yards" "[I", Cond.fieldLink RX10 87 "KindStreetsModel" "isWrong" "Z", Cond.fieldLink RX10 17 "KindStreetsModel" "streets" "[I", Cond.fieldLink RX10 20 "KindStreetsModel" "from" "[I", Cond.fieldLink RX10 23 "KindStreetsModel" "to" "[I", Cond.fieldLink RX10 81 "KindStreetsModel" "value" "I", Cond.fieldLink RX10 84 "KindStreetsModel" "sort" "I", Cond.fieldLink RX10 26 "KindStreetsModel" "old" "[I", Cond.fieldLink RX10 32 "KindStreetsModel" "home" "[I", Cond.fieldLink RX10 29 "KindStreetsModel" "people" "[I", Cond.fieldLink RX10 35 "KindStreetsModel" "wants" "[I", Cond.methodLink RX10 98 yX10_number, Cond.instanceMethod yX10_number, Cond.selects RX10 yX10_number yX10_number, Cond.initialized RX10, Cond.code yX10_number cX10_number 4 (some .int), Cond.methodLink RX10 63 yX10_in, Cond.static yX10_in, Cond.code yX10_in cX10_in 3 (some .boolean), Cond.methodLink RX10 94 yX10_due, Cond.instanceMethod yX10_due, Cond.selects RX10 yX10_due yX10_due, Cond.code yX10_due cX10_due 2 none, Cond.methodLink RX10 91 yX10_step]
noncomputable def wsX10_item_r2 : List Cond := [Cond.instanceMethod yX10_step, Cond.selects RX10 yX10_step yX10_step, Cond.code yX10_step cX10_step 2 none, Cond.fieldLink RX10 71 "KindStreetsModel" "at" "I", Cond.fieldLink RX10 78 "KindStreetsModel" "place" "I", Cond.methodLink RX10 74 yX10_here, Cond.instanceMethod yX10_here, Cond.selects RX10 yX10_here yX10_here, Cond.code yX10_here cX10_here 1 (some .int), Cond.fieldLink RX10 67 "KindStreetsModel" "typed" "I", Cond.fieldLink RX10 7 "KindStreetsModel" "text" "[B"]
noncomputable def wsX10_item : List Cond := .code yX10_item cX10_item 4 none :: ((wsX10_item_r1 ++ wsX10_item_r2) ++ wsX100)
noncomputable def wsX10_may : List Cond := .code yX10_may cX10_may 2 (some .boolean) :: ([.fieldLink RX10 102 "KindStreetsModel" "items" "I", .fieldLink RX10 17 "KindStreetsModel" "streets" "[I", .fieldLink RX10 29 "KindStreetsModel" "people" "[I"] ++ wsX100)
noncomputable def wsX10_read_r1 : List Cond := [Cond.fieldLink RX10 71 "KindStreetsModel" "at" "I", Cond.fieldLink RX10 87 "KindStreetsModel" "isWrong" "Z", Cond.fieldLink RX10 102 "KindStreetsModel" "items" "I", Cond.fieldLink RX10 13 "KindStreetsModel" "yards" "[I", Cond.fieldLink RX10 17 "KindStreetsModel" "streets" "[I", Cond.fieldLink RX10 29 "KindStreetsModel" "people" "[I", Cond.fieldLink RX10 84 "KindStreetsModel" "sort" "I", Cond.fieldLink RX10 81 "KindStreetsModel" "value" "I", Cond.methodLink RX10 91 yX10_step, Cond.instanceMethod yX10_step, Cond.selects RX10 yX10_step yX10_step, Cond.initialized RX10, Cond.code yX10_step cX10_step 2 none, Cond.fieldLink RX10 78 "KindStreetsModel" "place" "I", Cond.methodLink RX10 74 yX10_here, Cond.instanceMethod yX10_here, Cond.selects RX10 yX10_here yX10_here, Cond.code yX10_here cX10_here 1 (some .int), Cond.fieldLink RX10 67 "KindStreetsModel" "typed" "I", Cond.fieldLink RX10 7 "KindStreetsModel" "text" "[B", Cond.methodLink RX10 63 yX10_in, Cond.static yX10_in, Cond.code yX10_in cX10_in 3 (some .boolean), Cond.methodLink RX10 105 yX10_may]
noncomputable def wsX10_read_r2 : List Cond := [Cond.instanceMethod yX10_may, Cond.selects RX10 yX10_may yX10_may, Cond.code yX10_may cX10_may 2 (some .boolean), Cond.methodLink RX10 94 yX10_due, Cond.instanceMethod yX10_due, Cond.selects RX10 yX10_due yX10_due, Cond.code yX10_due cX10_due 2 none, Cond.methodLink RX10 109 yX10_item, Cond.instanceMethod yX10_item, Cond.selects RX10 yX10_item yX10_item, Cond.code yX10_item cX10_item 4 none, Cond.fieldLink RX10 20 "KindStreetsModel" "from" "[I", Cond.fieldLink RX10 23 "KindStreetsModel" "to" "[I", Cond.fieldLink RX10 26 "KindStreetsModel" "old" "[I", Cond.fieldLink RX10 32 "KindStreetsModel" "home" "[I", Cond.fieldLink RX10 35 "KindStreetsModel" "wants" "[I", Cond.methodLink RX10 98 yX10_number, Cond.instanceMethod yX10_number, Cond.selects RX10 yX10_number yX10_number, Cond.code yX10_number cX10_number 4 (some .int)]
noncomputable def wsX10_read : List Cond := .code yX10_read cX10_read 2 none :: ((wsX10_read_r1 ++ wsX10_read_r2) ++ wsX100)
noncomputable def wsX10_town_r1 : List Cond := [Cond.fieldLink RX10 87 "KindStreetsModel" "isWrong" "Z", Cond.fieldLink RX10 78 "KindStreetsModel" "place" "I", Cond.fieldLink RX10 13 "KindStreetsModel" "yards" "[I", Cond.fieldLink RX10 17 "KindStreetsModel" "streets" "[I", Cond.fieldLink RX10 29 "KindStreetsModel" "people" "[I", Cond.fieldLink RX10 38 "KindStreetsModel" "now" "[I", Cond.fieldLink RX10 20 "KindStreetsModel" "from" "[I", Cond.fieldLink RX10 23 "KindStreetsModel" "to" "[I", Cond.fieldLink RX10 26 "KindStreetsModel" "old" "[I", Cond.fieldLink RX10 32 "KindStreetsModel" "home" "[I", Cond.fieldLink RX10 35 "KindStreetsModel" "wants" "[I", Cond.fieldLink RX10 41 "KindStreetsModel" "known" "[I", Cond.fieldLink RX10 50 "KindStreetsModel" "isKept" "[Z", Cond.fieldLink RX10 116 "KindStreetsModel" "facts" "I", Cond.fieldLink RX10 67 "KindStreetsModel" "typed" "I", Cond.fieldLink RX10 102 "KindStreetsModel" "items" "I", Cond.methodLink RX10 113 yX10_read, Cond.instanceMethod yX10_read, Cond.selects RX10 yX10_read yX10_read, Cond.initialized RX10, Cond.code yX10_read cX10_read 2 none, Cond.fieldLink RX10 71 "KindStreetsModel" "at" "I", Cond.fieldLink RX10 84 "KindStreetsModel" "sort" "I", Cond.fieldLink RX10 81 "KindStreetsModel" "value" "I"]
noncomputable def wsX10_town_r2 : List Cond := [Cond.methodLink RX10 91 yX10_step, Cond.instanceMethod yX10_step, Cond.selects RX10 yX10_step yX10_step, Cond.code yX10_step cX10_step 2 none, Cond.methodLink RX10 74 yX10_here, Cond.instanceMethod yX10_here, Cond.selects RX10 yX10_here yX10_here, Cond.code yX10_here cX10_here 1 (some .int), Cond.fieldLink RX10 7 "KindStreetsModel" "text" "[B", Cond.methodLink RX10 63 yX10_in, Cond.static yX10_in, Cond.code yX10_in cX10_in 3 (some .boolean), Cond.methodLink RX10 105 yX10_may, Cond.instanceMethod yX10_may, Cond.selects RX10 yX10_may yX10_may, Cond.code yX10_may cX10_may 2 (some .boolean), Cond.methodLink RX10 94 yX10_due, Cond.instanceMethod yX10_due, Cond.selects RX10 yX10_due yX10_due, Cond.code yX10_due cX10_due 2 none, Cond.methodLink RX10 109 yX10_item, Cond.instanceMethod yX10_item, Cond.selects RX10 yX10_item yX10_item, Cond.code yX10_item cX10_item 4 none]
noncomputable def wsX10_town_r3 : List Cond := [Cond.methodLink RX10 98 yX10_number, Cond.instanceMethod yX10_number, Cond.selects RX10 yX10_number yX10_number, Cond.code yX10_number cX10_number 4 (some .int)]
noncomputable def wsX10_town : List Cond := .code yX10_town cX10_town 2 (some .int) :: ((wsX10_town_r1 ++ (wsX10_town_r2 ++ wsX10_town_r3)) ++ wsX100)
noncomputable def wsX10_isYard : List Cond := .code yX10_isYard cX10_isYard 2 (some .boolean) :: ([.fieldLink RX10 13 "KindStreetsModel" "yards" "[I", .methodLink RX10 63 yX10_in, .static yX10_in, .initialized RX10, .code yX10_in cX10_in 3 (some .boolean)] ++ wsX100)
noncomputable def wsX10_areTwo : List Cond := .code yX10_areTwo cX10_areTwo 3 (some .boolean) :: ([.methodLink RX10 119 yX10_isYard, .instanceMethod yX10_isYard, .selects RX10 yX10_isYard yX10_isYard, .initialized RX10, .code yX10_isYard cX10_isYard 2 (some .boolean), .fieldLink RX10 13 "KindStreetsModel" "yards" "[I", .methodLink RX10 63 yX10_in, .static yX10_in, .code yX10_in cX10_in 3 (some .boolean)] ++ wsX100)
noncomputable def wsX10_isStreet : List Cond := .code yX10_isStreet cX10_isStreet 2 (some .boolean) :: ([.fieldLink RX10 17 "KindStreetsModel" "streets" "[I", .methodLink RX10 63 yX10_in, .static yX10_in, .initialized RX10, .code yX10_in cX10_in 3 (some .boolean)] ++ wsX100)
noncomputable def wsX10_isPerson : List Cond := .code yX10_isPerson cX10_isPerson 2 (some .boolean) :: ([.fieldLink RX10 29 "KindStreetsModel" "people" "[I", .methodLink RX10 63 yX10_in, .static yX10_in, .initialized RX10, .code yX10_in cX10_in 3 (some .boolean)] ++ wsX100)
noncomputable def wsX10_widthOf : List Cond := .code yX10_widthOf cX10_widthOf 4 (some .int) :: ([.fieldLink RX10 38 "KindStreetsModel" "now" "[I"] ++ wsX100)
noncomputable def wsX10_allWidths : List Cond := .code yX10_allWidths cX10_allWidths 3 (some .int) :: ([.fieldLink RX10 17 "KindStreetsModel" "streets" "[I", .methodLink RX10 122 yX10_widthOf, .instanceMethod yX10_widthOf, .selects RX10 yX10_widthOf yX10_widthOf, .initialized RX10, .code yX10_widthOf cX10_widthOf 4 (some .int), .fieldLink RX10 38 "KindStreetsModel" "now" "[I"] ++ wsX100)
noncomputable def wsX10_livingIn : List Cond := .code yX10_livingIn cX10_livingIn 4 (some .int) :: ([.fieldLink RX10 29 "KindStreetsModel" "people" "[I", .fieldLink RX10 38 "KindStreetsModel" "now" "[I"] ++ wsX100)
noncomputable def wsX10_doMeet : List Cond := .code yX10_doMeet cX10_doMeet 3 (some .boolean) :: ([.fieldLink RX10 20 "KindStreetsModel" "from" "[I", .fieldLink RX10 23 "KindStreetsModel" "to" "[I"] ++ wsX100)
noncomputable def wsX10_witnesses : List Cond := .code yX10_witnesses cX10_witnesses 4 (some .int) :: ([.fieldLink RX10 29 "KindStreetsModel" "people" "[I", .fieldLink RX10 38 "KindStreetsModel" "now" "[I", .methodLink RX10 126 yX10_doMeet, .instanceMethod yX10_doMeet, .selects RX10 yX10_doMeet yX10_doMeet, .initialized RX10, .code yX10_doMeet cX10_doMeet 3 (some .boolean), .fieldLink RX10 20 "KindStreetsModel" "from" "[I", .fieldLink RX10 23 "KindStreetsModel" "to" "[I"] ++ wsX100)
noncomputable def wsX10_street : List Cond := .code yX10_street cX10_street 3 (some .int) :: ([.fieldLink RX10 20 "KindStreetsModel" "from" "[I", .fieldLink RX10 23 "KindStreetsModel" "to" "[I", .fieldLink RX10 38 "KindStreetsModel" "now" "[I", .methodLink RX10 130 yX10_isStreet, .instanceMethod yX10_isStreet, .selects RX10 yX10_isStreet yX10_isStreet, .initialized RX10, .code yX10_isStreet cX10_isStreet 2 (some .boolean), .fieldLink RX10 17 "KindStreetsModel" "streets" "[I", .methodLink RX10 63 yX10_in, .static yX10_in, .code yX10_in cX10_in 3 (some .boolean), .methodLink RX10 122 yX10_widthOf, .instanceMethod yX10_widthOf, .selects RX10 yX10_widthOf yX10_widthOf, .code yX10_widthOf cX10_widthOf 4 (some .int), .methodLink RX10 133 yX10_livingIn, .instanceMethod yX10_livingIn, .selects RX10 yX10_livingIn yX10_livingIn, .code yX10_livingIn cX10_livingIn 4 (some .int), .fieldLink RX10 29 "KindStreetsModel" "people" "[I"] ++ wsX100)
noncomputable def wsX10_citizen : List Cond := .code yX10_citizen cX10_citizen 3 (some .int) :: ([.fieldLink RX10 38 "KindStreetsModel" "now" "[I", .fieldLink RX10 35 "KindStreetsModel" "wants" "[I", .methodLink RX10 136 yX10_isPerson, .instanceMethod yX10_isPerson, .selects RX10 yX10_isPerson yX10_isPerson, .initialized RX10, .code yX10_isPerson cX10_isPerson 2 (some .boolean), .fieldLink RX10 29 "KindStreetsModel" "people" "[I", .methodLink RX10 63 yX10_in, .static yX10_in, .code yX10_in cX10_in 3 (some .boolean), .methodLink RX10 139 yX10_witnesses, .instanceMethod yX10_witnesses, .selects RX10 yX10_witnesses yX10_witnesses, .code yX10_witnesses cX10_witnesses 4 (some .int), .methodLink RX10 126 yX10_doMeet, .instanceMethod yX10_doMeet, .selects RX10 yX10_doMeet yX10_doMeet, .code yX10_doMeet cX10_doMeet 3 (some .boolean), .fieldLink RX10 20 "KindStreetsModel" "from" "[I", .fieldLink RX10 23 "KindStreetsModel" "to" "[I"] ++ wsX100)
noncomputable def wsX10_know : List Cond := .code yX10_know cX10_know 2 none :: ([.fieldLink RX10 41 "KindStreetsModel" "known" "[I", .fieldLink RX10 44 "KindStreetsModel" "before" "[I", .fieldLink RX10 38 "KindStreetsModel" "now" "[I"] ++ wsX100)
noncomputable def wsX10_does_r1 : List Cond := [Cond.fieldLink RX10 38 "KindStreetsModel" "now" "[I", Cond.methodLink RX10 136 yX10_isPerson, Cond.instanceMethod yX10_isPerson, Cond.selects RX10 yX10_isPerson yX10_isPerson, Cond.initialized RX10, Cond.code yX10_isPerson cX10_isPerson 2 (some .boolean), Cond.fieldLink RX10 29 "KindStreetsModel" "people" "[I", Cond.methodLink RX10 63 yX10_in, Cond.static yX10_in, Cond.code yX10_in cX10_in 3 (some .boolean), Cond.methodLink RX10 142 yX10_know, Cond.instanceMethod yX10_know, Cond.selects RX10 yX10_know yX10_know, Cond.code yX10_know cX10_know 2 none, Cond.fieldLink RX10 41 "KindStreetsModel" "known" "[I", Cond.fieldLink RX10 44 "KindStreetsModel" "before" "[I", Cond.methodLink RX10 139 yX10_witnesses, Cond.instanceMethod yX10_witnesses, Cond.selects RX10 yX10_witnesses yX10_witnesses, Cond.code yX10_witnesses cX10_witnesses 4 (some .int), Cond.methodLink RX10 126 yX10_doMeet, Cond.instanceMethod yX10_doMeet, Cond.selects RX10 yX10_doMeet yX10_doMeet, Cond.code yX10_doMeet cX10_doMeet 3 (some .boolean)]
noncomputable def wsX10_does_r2 : List Cond := [Cond.fieldLink RX10 20 "KindStreetsModel" "from" "[I", Cond.fieldLink RX10 23 "KindStreetsModel" "to" "[I", Cond.methodLink RX10 145 yX10_bitsOf, Cond.static yX10_bitsOf, Cond.code yX10_bitsOf cX10_bitsOf 3 (some .int), Cond.methodLink RX10 122 yX10_widthOf, Cond.instanceMethod yX10_widthOf, Cond.selects RX10 yX10_widthOf yX10_widthOf, Cond.code yX10_widthOf cX10_widthOf 4 (some .int)]
noncomputable def wsX10_does : List Cond := .code yX10_does cX10_does 7 (some .int) :: ((wsX10_does_r1 ++ wsX10_does_r2) ++ wsX100)
noncomputable def wsX10_wills : List Cond := .code yX10_wills cX10_wills 3 (some .int) :: ([.fieldLink RX10 38 "KindStreetsModel" "now" "[I", .methodLink RX10 130 yX10_isStreet, .instanceMethod yX10_isStreet, .selects RX10 yX10_isStreet yX10_isStreet, .initialized RX10, .code yX10_isStreet cX10_isStreet 2 (some .boolean), .fieldLink RX10 17 "KindStreetsModel" "streets" "[I", .methodLink RX10 63 yX10_in, .static yX10_in, .code yX10_in cX10_in 3 (some .boolean), .methodLink RX10 142 yX10_know, .instanceMethod yX10_know, .selects RX10 yX10_know yX10_know, .code yX10_know cX10_know 2 none, .fieldLink RX10 41 "KindStreetsModel" "known" "[I", .fieldLink RX10 44 "KindStreetsModel" "before" "[I"] ++ wsX100)
noncomputable def wsX10_moves : List Cond := .code yX10_moves cX10_moves 4 (some .int) :: ([.fieldLink RX10 38 "KindStreetsModel" "now" "[I", .methodLink RX10 136 yX10_isPerson, .instanceMethod yX10_isPerson, .selects RX10 yX10_isPerson yX10_isPerson, .initialized RX10, .code yX10_isPerson cX10_isPerson 2 (some .boolean), .fieldLink RX10 29 "KindStreetsModel" "people" "[I", .methodLink RX10 63 yX10_in, .static yX10_in, .code yX10_in cX10_in 3 (some .boolean), .methodLink RX10 130 yX10_isStreet, .instanceMethod yX10_isStreet, .selects RX10 yX10_isStreet yX10_isStreet, .code yX10_isStreet cX10_isStreet 2 (some .boolean), .fieldLink RX10 17 "KindStreetsModel" "streets" "[I", .methodLink RX10 142 yX10_know, .instanceMethod yX10_know, .selects RX10 yX10_know yX10_know, .code yX10_know cX10_know 2 none, .fieldLink RX10 41 "KindStreetsModel" "known" "[I", .fieldLink RX10 44 "KindStreetsModel" "before" "[I"] ++ wsX100)
noncomputable def wsX10_night : List Cond := .code yX10_night cX10_night 2 (some .int) :: ([.fieldLink RX10 38 "KindStreetsModel" "now" "[I", .methodLink RX10 63 yX10_in, .static yX10_in, .initialized RX10, .code yX10_in cX10_in 3 (some .boolean), .methodLink RX10 142 yX10_know, .instanceMethod yX10_know, .selects RX10 yX10_know yX10_know, .code yX10_know cX10_know 2 none, .fieldLink RX10 41 "KindStreetsModel" "known" "[I", .fieldLink RX10 44 "KindStreetsModel" "before" "[I", .methodLink RX10 148 yX10_allWidths, .instanceMethod yX10_allWidths, .selects RX10 yX10_allWidths yX10_allWidths, .code yX10_allWidths cX10_allWidths 3 (some .int), .fieldLink RX10 17 "KindStreetsModel" "streets" "[I", .methodLink RX10 122 yX10_widthOf, .instanceMethod yX10_widthOf, .selects RX10 yX10_widthOf yX10_widthOf, .code yX10_widthOf cX10_widthOf 4 (some .int)] ++ wsX100)
noncomputable def wsX10_undo : List Cond := .code yX10_undo cX10_undo 2 (some .int) :: ([.fieldLink RX10 41 "KindStreetsModel" "known" "[I", .fieldLink RX10 38 "KindStreetsModel" "now" "[I", .fieldLink RX10 44 "KindStreetsModel" "before" "[I"] ++ wsX100)
noncomputable def wsX10_now : List Cond := .code yX10_now cX10_now 4 (some .int) :: ([.fieldLink RX10 38 "KindStreetsModel" "now" "[I", .fieldLink RX10 17 "KindStreetsModel" "streets" "[I", .methodLink RX10 148 yX10_allWidths, .instanceMethod yX10_allWidths, .selects RX10 yX10_allWidths yX10_allWidths, .initialized RX10, .code yX10_allWidths cX10_allWidths 3 (some .int), .methodLink RX10 122 yX10_widthOf, .instanceMethod yX10_widthOf, .selects RX10 yX10_widthOf yX10_widthOf, .code yX10_widthOf cX10_widthOf 4 (some .int)] ++ wsX100)
noncomputable def wsX10_openBy : List Cond := .code yX10_openBy cX10_openBy 4 (some .int) :: ([.fieldLink RX10 17 "KindStreetsModel" "streets" "[I", .methodLink RX10 122 yX10_widthOf, .instanceMethod yX10_widthOf, .selects RX10 yX10_widthOf yX10_widthOf, .initialized RX10, .code yX10_widthOf cX10_widthOf 4 (some .int), .fieldLink RX10 38 "KindStreetsModel" "now" "[I"] ++ wsX100)
noncomputable def wsX10_wayBy : List Cond := .code yX10_wayBy cX10_wayBy 9 (some .int) :: ([.fieldLink RX10 17 "KindStreetsModel" "streets" "[I", .fieldLink RX10 20 "KindStreetsModel" "from" "[I", .fieldLink RX10 23 "KindStreetsModel" "to" "[I", .methodLink RX10 151 yX10_has, .static yX10_has, .initialized RX10, .code yX10_has cX10_has 2 (some .boolean)] ++ wsX100)
noncomputable def wsX10_widest_r1 : List Cond := [Cond.methodLink RX10 154 yX10_areTwo, Cond.instanceMethod yX10_areTwo, Cond.selects RX10 yX10_areTwo yX10_areTwo, Cond.initialized RX10, Cond.code yX10_areTwo cX10_areTwo 3 (some .boolean), Cond.methodLink RX10 119 yX10_isYard, Cond.instanceMethod yX10_isYard, Cond.selects RX10 yX10_isYard yX10_isYard, Cond.code yX10_isYard cX10_isYard 2 (some .boolean), Cond.fieldLink RX10 13 "KindStreetsModel" "yards" "[I", Cond.methodLink RX10 63 yX10_in, Cond.static yX10_in, Cond.code yX10_in cX10_in 3 (some .boolean), Cond.methodLink RX10 157 yX10_openBy, Cond.instanceMethod yX10_openBy, Cond.selects RX10 yX10_openBy yX10_openBy, Cond.code yX10_openBy cX10_openBy 4 (some .int), Cond.fieldLink RX10 17 "KindStreetsModel" "streets" "[I", Cond.methodLink RX10 122 yX10_widthOf, Cond.instanceMethod yX10_widthOf, Cond.selects RX10 yX10_widthOf yX10_widthOf, Cond.code yX10_widthOf cX10_widthOf 4 (some .int), Cond.fieldLink RX10 38 "KindStreetsModel" "now" "[I", Cond.methodLink RX10 160 yX10_wayBy]
noncomputable def wsX10_widest_r2 : List Cond := [Cond.instanceMethod yX10_wayBy, Cond.selects RX10 yX10_wayBy yX10_wayBy, Cond.code yX10_wayBy cX10_wayBy 9 (some .int), Cond.fieldLink RX10 20 "KindStreetsModel" "from" "[I", Cond.fieldLink RX10 23 "KindStreetsModel" "to" "[I", Cond.methodLink RX10 151 yX10_has, Cond.static yX10_has, Cond.code yX10_has cX10_has 2 (some .boolean)]
noncomputable def wsX10_widest : List Cond := .code yX10_widest cX10_widest 4 (some .int) :: ((wsX10_widest_r1 ++ wsX10_widest_r2) ++ wsX100)
noncomputable def wsX10_way_r1 : List Cond := [Cond.methodLink RX10 154 yX10_areTwo, Cond.instanceMethod yX10_areTwo, Cond.selects RX10 yX10_areTwo yX10_areTwo, Cond.initialized RX10, Cond.code yX10_areTwo cX10_areTwo 3 (some .boolean), Cond.methodLink RX10 119 yX10_isYard, Cond.instanceMethod yX10_isYard, Cond.selects RX10 yX10_isYard yX10_isYard, Cond.code yX10_isYard cX10_isYard 2 (some .boolean), Cond.fieldLink RX10 13 "KindStreetsModel" "yards" "[I", Cond.methodLink RX10 63 yX10_in, Cond.static yX10_in, Cond.code yX10_in cX10_in 3 (some .boolean), Cond.methodLink RX10 157 yX10_openBy, Cond.instanceMethod yX10_openBy, Cond.selects RX10 yX10_openBy yX10_openBy, Cond.code yX10_openBy cX10_openBy 4 (some .int), Cond.fieldLink RX10 17 "KindStreetsModel" "streets" "[I", Cond.methodLink RX10 122 yX10_widthOf, Cond.instanceMethod yX10_widthOf, Cond.selects RX10 yX10_widthOf yX10_widthOf, Cond.code yX10_widthOf cX10_widthOf 4 (some .int), Cond.fieldLink RX10 38 "KindStreetsModel" "now" "[I", Cond.methodLink RX10 160 yX10_wayBy]
noncomputable def wsX10_way_r2 : List Cond := [Cond.instanceMethod yX10_wayBy, Cond.selects RX10 yX10_wayBy yX10_wayBy, Cond.code yX10_wayBy cX10_wayBy 9 (some .int), Cond.fieldLink RX10 20 "KindStreetsModel" "from" "[I", Cond.fieldLink RX10 23 "KindStreetsModel" "to" "[I", Cond.methodLink RX10 151 yX10_has, Cond.static yX10_has, Cond.code yX10_has cX10_has 2 (some .boolean)]
noncomputable def wsX10_way : List Cond := .code yX10_way cX10_way 4 (some .int) :: ((wsX10_way_r1 ++ wsX10_way_r2) ++ wsX100)
noncomputable def wsX10_widthsOf : List Cond := .code yX10_widthsOf cX10_widthsOf 4 (some .int) :: ([.fieldLink RX10 17 "KindStreetsModel" "streets" "[I", .methodLink RX10 151 yX10_has, .static yX10_has, .initialized RX10, .code yX10_has cX10_has 2 (some .boolean), .methodLink RX10 122 yX10_widthOf, .instanceMethod yX10_widthOf, .selects RX10 yX10_widthOf yX10_widthOf, .code yX10_widthOf cX10_widthOf 4 (some .int), .fieldLink RX10 38 "KindStreetsModel" "now" "[I"] ++ wsX100)
noncomputable def wsX10_flow_r1 : List Cond := [Cond.methodLink RX10 154 yX10_areTwo, Cond.instanceMethod yX10_areTwo, Cond.selects RX10 yX10_areTwo yX10_areTwo, Cond.initialized RX10, Cond.code yX10_areTwo cX10_areTwo 3 (some .boolean), Cond.methodLink RX10 119 yX10_isYard, Cond.instanceMethod yX10_isYard, Cond.selects RX10 yX10_isYard yX10_isYard, Cond.code yX10_isYard cX10_isYard 2 (some .boolean), Cond.fieldLink RX10 13 "KindStreetsModel" "yards" "[I", Cond.methodLink RX10 63 yX10_in, Cond.static yX10_in, Cond.code yX10_in cX10_in 3 (some .boolean), Cond.methodLink RX10 157 yX10_openBy, Cond.instanceMethod yX10_openBy, Cond.selects RX10 yX10_openBy yX10_openBy, Cond.code yX10_openBy cX10_openBy 4 (some .int), Cond.fieldLink RX10 17 "KindStreetsModel" "streets" "[I", Cond.methodLink RX10 122 yX10_widthOf, Cond.instanceMethod yX10_widthOf, Cond.selects RX10 yX10_widthOf yX10_widthOf, Cond.code yX10_widthOf cX10_widthOf 4 (some .int), Cond.fieldLink RX10 38 "KindStreetsModel" "now" "[I", Cond.methodLink RX10 164 yX10_widthsOf]
noncomputable def wsX10_flow_r2 : List Cond := [Cond.instanceMethod yX10_widthsOf, Cond.selects RX10 yX10_widthsOf yX10_widthsOf, Cond.code yX10_widthsOf cX10_widthsOf 4 (some .int), Cond.methodLink RX10 151 yX10_has, Cond.static yX10_has, Cond.code yX10_has cX10_has 2 (some .boolean), Cond.methodLink RX10 145 yX10_bitsOf, Cond.static yX10_bitsOf, Cond.code yX10_bitsOf cX10_bitsOf 3 (some .int), Cond.methodLink RX10 160 yX10_wayBy, Cond.instanceMethod yX10_wayBy, Cond.selects RX10 yX10_wayBy yX10_wayBy, Cond.code yX10_wayBy cX10_wayBy 9 (some .int), Cond.fieldLink RX10 20 "KindStreetsModel" "from" "[I", Cond.fieldLink RX10 23 "KindStreetsModel" "to" "[I"]
noncomputable def wsX10_flow : List Cond := .code yX10_flow cX10_flow 10 (some .int) :: ((wsX10_flow_r1 ++ wsX10_flow_r2) ++ wsX100)
noncomputable def wsX10_need_r1 : List Cond := [Cond.methodLink RX10 154 yX10_areTwo, Cond.instanceMethod yX10_areTwo, Cond.selects RX10 yX10_areTwo yX10_areTwo, Cond.initialized RX10, Cond.code yX10_areTwo cX10_areTwo 3 (some .boolean), Cond.methodLink RX10 119 yX10_isYard, Cond.instanceMethod yX10_isYard, Cond.selects RX10 yX10_isYard yX10_isYard, Cond.code yX10_isYard cX10_isYard 2 (some .boolean), Cond.fieldLink RX10 13 "KindStreetsModel" "yards" "[I", Cond.methodLink RX10 63 yX10_in, Cond.static yX10_in, Cond.code yX10_in cX10_in 3 (some .boolean), Cond.methodLink RX10 157 yX10_openBy, Cond.instanceMethod yX10_openBy, Cond.selects RX10 yX10_openBy yX10_openBy, Cond.code yX10_openBy cX10_openBy 4 (some .int), Cond.fieldLink RX10 17 "KindStreetsModel" "streets" "[I", Cond.methodLink RX10 122 yX10_widthOf, Cond.instanceMethod yX10_widthOf, Cond.selects RX10 yX10_widthOf yX10_widthOf, Cond.code yX10_widthOf cX10_widthOf 4 (some .int), Cond.fieldLink RX10 38 "KindStreetsModel" "now" "[I", Cond.methodLink RX10 145 yX10_bitsOf]
noncomputable def wsX10_need_r2 : List Cond := [Cond.static yX10_bitsOf, Cond.code yX10_bitsOf cX10_bitsOf 3 (some .int), Cond.methodLink RX10 160 yX10_wayBy, Cond.instanceMethod yX10_wayBy, Cond.selects RX10 yX10_wayBy yX10_wayBy, Cond.code yX10_wayBy cX10_wayBy 9 (some .int), Cond.fieldLink RX10 20 "KindStreetsModel" "from" "[I", Cond.fieldLink RX10 23 "KindStreetsModel" "to" "[I", Cond.methodLink RX10 151 yX10_has, Cond.static yX10_has, Cond.code yX10_has cX10_has 2 (some .boolean)]
noncomputable def wsX10_need : List Cond := .code yX10_need cX10_need 8 (some .int) :: ((wsX10_need_r1 ++ wsX10_need_r2) ++ wsX100)
noncomputable def wsX10_odds_r1 : List Cond := [Cond.fieldLink RX10 17 "KindStreetsModel" "streets" "[I", Cond.methodLink RX10 154 yX10_areTwo, Cond.instanceMethod yX10_areTwo, Cond.selects RX10 yX10_areTwo yX10_areTwo, Cond.initialized RX10, Cond.code yX10_areTwo cX10_areTwo 3 (some .boolean), Cond.methodLink RX10 119 yX10_isYard, Cond.instanceMethod yX10_isYard, Cond.selects RX10 yX10_isYard yX10_isYard, Cond.code yX10_isYard cX10_isYard 2 (some .boolean), Cond.fieldLink RX10 13 "KindStreetsModel" "yards" "[I", Cond.methodLink RX10 63 yX10_in, Cond.static yX10_in, Cond.code yX10_in cX10_in 3 (some .boolean), Cond.methodLink RX10 157 yX10_openBy, Cond.instanceMethod yX10_openBy, Cond.selects RX10 yX10_openBy yX10_openBy, Cond.code yX10_openBy cX10_openBy 4 (some .int), Cond.methodLink RX10 122 yX10_widthOf, Cond.instanceMethod yX10_widthOf, Cond.selects RX10 yX10_widthOf yX10_widthOf, Cond.code yX10_widthOf cX10_widthOf 4 (some .int), Cond.fieldLink RX10 38 "KindStreetsModel" "now" "[I", Cond.methodLink RX10 151 yX10_has]
noncomputable def wsX10_odds_r2 : List Cond := [Cond.static yX10_has, Cond.code yX10_has cX10_has 2 (some .boolean), Cond.methodLink RX10 160 yX10_wayBy, Cond.instanceMethod yX10_wayBy, Cond.selects RX10 yX10_wayBy yX10_wayBy, Cond.code yX10_wayBy cX10_wayBy 9 (some .int), Cond.fieldLink RX10 20 "KindStreetsModel" "from" "[I", Cond.fieldLink RX10 23 "KindStreetsModel" "to" "[I"]
noncomputable def wsX10_odds : List Cond := .code yX10_odds cX10_odds 11 (some .int) :: ((wsX10_odds_r1 ++ wsX10_odds_r2) ++ wsX100)
noncomputable def wsX10_canHave : List Cond := .code yX10_canHave cX10_canHave 3 (some .boolean) :: ([.fieldLink RX10 35 "KindStreetsModel" "wants" "[I", .methodLink RX10 122 yX10_widthOf, .instanceMethod yX10_widthOf, .selects RX10 yX10_widthOf yX10_widthOf, .initialized RX10, .code yX10_widthOf cX10_widthOf 4 (some .int), .fieldLink RX10 38 "KindStreetsModel" "now" "[I"] ++ wsX100)
noncomputable def wsX10_tellMost : List Cond := .code yX10_tellMost cX10_tellMost 7 none :: ([.fieldLink RX10 17 "KindStreetsModel" "streets" "[I", .fieldLink RX10 54 "KindStreetsModel" "most" "[I", .fieldLink RX10 29 "KindStreetsModel" "people" "[I", .methodLink RX10 151 yX10_has, .static yX10_has, .initialized RX10, .code yX10_has cX10_has 2 (some .boolean), .methodLink RX10 167 yX10_canHave, .instanceMethod yX10_canHave, .selects RX10 yX10_canHave yX10_canHave, .code yX10_canHave cX10_canHave 3 (some .boolean), .fieldLink RX10 35 "KindStreetsModel" "wants" "[I", .methodLink RX10 122 yX10_widthOf, .instanceMethod yX10_widthOf, .selects RX10 yX10_widthOf yX10_widthOf, .code yX10_widthOf cX10_widthOf 4 (some .int), .fieldLink RX10 38 "KindStreetsModel" "now" "[I"] ++ wsX100)
noncomputable def wsX10_carriage_r1 : List Cond := [Cond.fieldLink RX10 54 "KindStreetsModel" "most" "[I", Cond.fieldLink RX10 17 "KindStreetsModel" "streets" "[I", Cond.methodLink RX10 136 yX10_isPerson, Cond.instanceMethod yX10_isPerson, Cond.selects RX10 yX10_isPerson yX10_isPerson, Cond.initialized RX10, Cond.code yX10_isPerson cX10_isPerson 2 (some .boolean), Cond.fieldLink RX10 29 "KindStreetsModel" "people" "[I", Cond.methodLink RX10 63 yX10_in, Cond.static yX10_in, Cond.code yX10_in cX10_in 3 (some .boolean), Cond.methodLink RX10 170 yX10_tellMost, Cond.instanceMethod yX10_tellMost, Cond.selects RX10 yX10_tellMost yX10_tellMost, Cond.code yX10_tellMost cX10_tellMost 7 none, Cond.methodLink RX10 151 yX10_has, Cond.static yX10_has, Cond.code yX10_has cX10_has 2 (some .boolean), Cond.methodLink RX10 167 yX10_canHave, Cond.instanceMethod yX10_canHave, Cond.selects RX10 yX10_canHave yX10_canHave, Cond.code yX10_canHave cX10_canHave 3 (some .boolean), Cond.fieldLink RX10 35 "KindStreetsModel" "wants" "[I", Cond.methodLink RX10 122 yX10_widthOf]
noncomputable def wsX10_carriage_r2 : List Cond := [Cond.instanceMethod yX10_widthOf, Cond.selects RX10 yX10_widthOf yX10_widthOf, Cond.code yX10_widthOf cX10_widthOf 4 (some .int), Cond.fieldLink RX10 38 "KindStreetsModel" "now" "[I"]
noncomputable def wsX10_carriage : List Cond := .code yX10_carriage cX10_carriage 7 (some .int) :: ((wsX10_carriage_r1 ++ wsX10_carriage_r2) ++ wsX100)
noncomputable def wsX10_measures : List Cond := .code yX10_measures cX10_measures 3 (some .int) :: ([.fieldLink RX10 116 "KindStreetsModel" "facts" "I", .fieldLink RX10 57 "KindStreetsModel" "factWidth" "[I", .fieldLink RX10 60 "KindStreetsModel" "factNight" "[I", .methodLink RX10 63 yX10_in, .static yX10_in, .initialized RX10, .code yX10_in cX10_in 3 (some .boolean)] ++ wsX100)
noncomputable def wsX10_forget : List Cond := .code yX10_forget cX10_forget 2 (some .int) :: ([.fieldLink RX10 116 "KindStreetsModel" "facts" "I"] ++ wsX100)
noncomputable def wsX10_widthBy : List Cond := .code yX10_widthBy cX10_widthBy 4 (some .int) :: ([])
noncomputable def wsX10_isSo : List Cond := .code yX10_isSo cX10_isSo 4 (some .boolean) :: ([.fieldLink RX10 116 "KindStreetsModel" "facts" "I", .fieldLink RX10 60 "KindStreetsModel" "factNight" "[I", .fieldLink RX10 57 "KindStreetsModel" "factWidth" "[I", .methodLink RX10 173 yX10_widthBy, .static yX10_widthBy, .initialized RX10, .code yX10_widthBy cX10_widthBy 4 (some .int)] ++ wsX100)
noncomputable def wsX10_deeds : List Cond := .code yX10_deeds cX10_deeds 5 (some .int) :: ([.methodLink RX10 63 yX10_in, .static yX10_in, .initialized RX10, .code yX10_in cX10_in 3 (some .boolean), .methodLink RX10 176 yX10_isSo, .instanceMethod yX10_isSo, .selects RX10 yX10_isSo yX10_isSo, .code yX10_isSo cX10_isSo 4 (some .boolean), .fieldLink RX10 116 "KindStreetsModel" "facts" "I", .fieldLink RX10 60 "KindStreetsModel" "factNight" "[I", .fieldLink RX10 57 "KindStreetsModel" "factWidth" "[I", .methodLink RX10 173 yX10_widthBy, .static yX10_widthBy, .code yX10_widthBy cX10_widthBy 4 (some .int)] ++ wsX100)
noncomputable def wsX10_greatest : List Cond := .code yX10_greatest cX10_greatest 6 (some .int) :: ([.methodLink RX10 176 yX10_isSo, .instanceMethod yX10_isSo, .selects RX10 yX10_isSo yX10_isSo, .initialized RX10, .code yX10_isSo cX10_isSo 4 (some .boolean), .fieldLink RX10 116 "KindStreetsModel" "facts" "I", .fieldLink RX10 60 "KindStreetsModel" "factNight" "[I", .fieldLink RX10 57 "KindStreetsModel" "factWidth" "[I", .methodLink RX10 173 yX10_widthBy, .static yX10_widthBy, .code yX10_widthBy cX10_widthBy 4 (some .int)] ++ wsX100)
noncomputable def wsX10_when : List Cond := .code yX10_when cX10_when 2 (some .int) :: ([.methodLink RX10 179 yX10_greatest, .instanceMethod yX10_greatest, .selects RX10 yX10_greatest yX10_greatest, .initialized RX10, .code yX10_greatest cX10_greatest 6 (some .int), .methodLink RX10 176 yX10_isSo, .instanceMethod yX10_isSo, .selects RX10 yX10_isSo yX10_isSo, .code yX10_isSo cX10_isSo 4 (some .boolean), .fieldLink RX10 116 "KindStreetsModel" "facts" "I", .fieldLink RX10 60 "KindStreetsModel" "factNight" "[I", .fieldLink RX10 57 "KindStreetsModel" "factWidth" "[I", .methodLink RX10 173 yX10_widthBy, .static yX10_widthBy, .code yX10_widthBy cX10_widthBy 4 (some .int)] ++ wsX100)
noncomputable def wsX10_bodiesOf : List Cond := .code yX10_bodiesOf cX10_bodiesOf 1 (some .int) :: ([])
noncomputable def wsX10_mark_r1 : List Cond := [Cond.constant RX10 182 (-1000000), Cond.fieldLink RX10 186 "KindStreetsModel" "trace" "J", Cond.constantLong RX10 190 (10), Cond.fieldLink RX10 38 "KindStreetsModel" "now" "[I", Cond.fieldLink RX10 17 "KindStreetsModel" "streets" "[I", Cond.methodLink RX10 63 yX10_in, Cond.static yX10_in, Cond.initialized RX10, Cond.code yX10_in cX10_in 3 (some .boolean), Cond.methodLink RX10 130 yX10_isStreet, Cond.instanceMethod yX10_isStreet, Cond.selects RX10 yX10_isStreet yX10_isStreet, Cond.code yX10_isStreet cX10_isStreet 2 (some .boolean), Cond.methodLink RX10 183 yX10_bodiesOf, Cond.static yX10_bodiesOf, Cond.code yX10_bodiesOf cX10_bodiesOf 1 (some .int), Cond.methodLink RX10 151 yX10_has, Cond.static yX10_has, Cond.code yX10_has cX10_has 2 (some .boolean), Cond.methodLink RX10 122 yX10_widthOf, Cond.instanceMethod yX10_widthOf, Cond.selects RX10 yX10_widthOf yX10_widthOf, Cond.code yX10_widthOf cX10_widthOf 4 (some .int), Cond.methodLink RX10 133 yX10_livingIn]
noncomputable def wsX10_mark_r2 : List Cond := [Cond.instanceMethod yX10_livingIn, Cond.selects RX10 yX10_livingIn yX10_livingIn, Cond.code yX10_livingIn cX10_livingIn 4 (some .int), Cond.fieldLink RX10 29 "KindStreetsModel" "people" "[I", Cond.methodLink RX10 145 yX10_bitsOf, Cond.static yX10_bitsOf, Cond.code yX10_bitsOf cX10_bitsOf 3 (some .int), Cond.methodLink RX10 126 yX10_doMeet, Cond.instanceMethod yX10_doMeet, Cond.selects RX10 yX10_doMeet yX10_doMeet, Cond.code yX10_doMeet cX10_doMeet 3 (some .boolean), Cond.fieldLink RX10 20 "KindStreetsModel" "from" "[I", Cond.fieldLink RX10 23 "KindStreetsModel" "to" "[I"]
noncomputable def wsX10_mark : List Cond := .code yX10_mark cX10_mark 8 (some .int) :: ((wsX10_mark_r1 ++ wsX10_mark_r2) ++ wsX100)
noncomputable def wsX10_trace : List Cond := .code yX10_trace cX10_trace 1 (some .long) :: ([.fieldLink RX10 186 "KindStreetsModel" "trace" "J"] ++ wsX100)
noncomputable def wsX10_keep : List Cond := .code yX10_keep cX10_keep 3 (some .int) :: ([.fieldLink RX10 47 "KindStreetsModel" "store" "[I", .fieldLink RX10 38 "KindStreetsModel" "now" "[I", .fieldLink RX10 44 "KindStreetsModel" "before" "[I", .fieldLink RX10 41 "KindStreetsModel" "known" "[I", .fieldLink RX10 50 "KindStreetsModel" "isKept" "[Z", .methodLink RX10 63 yX10_in, .static yX10_in, .initialized RX10, .code yX10_in cX10_in 3 (some .boolean)] ++ wsX100)
noncomputable def wsX10_back : List Cond := .code yX10_back cX10_back 3 (some .int) :: ([.fieldLink RX10 50 "KindStreetsModel" "isKept" "[Z", .fieldLink RX10 38 "KindStreetsModel" "now" "[I", .fieldLink RX10 47 "KindStreetsModel" "store" "[I", .fieldLink RX10 44 "KindStreetsModel" "before" "[I", .fieldLink RX10 41 "KindStreetsModel" "known" "[I", .methodLink RX10 63 yX10_in, .static yX10_in, .initialized RX10, .code yX10_in cX10_in 3 (some .boolean)] ++ wsX100)
noncomputable def wsX10_count : List Cond := .code yX10_count cX10_count 2 (some .int) :: ([.fieldLink RX10 13 "KindStreetsModel" "yards" "[I", .fieldLink RX10 17 "KindStreetsModel" "streets" "[I", .fieldLink RX10 29 "KindStreetsModel" "people" "[I", .fieldLink RX10 116 "KindStreetsModel" "facts" "I", .fieldLink RX10 41 "KindStreetsModel" "known" "[I", .fieldLink RX10 67 "KindStreetsModel" "typed" "I"] ++ wsX100)
noncomputable def wsJ9_max_7cf53 : List Cond := .code yJ9_max_7cf53 cJ9_max_7cf53 2 (some .int) :: ([])
noncomputable def wsJ9_min_7cf53 : List Cond := .code yJ9_min_7cf53 cJ9_min_7cf53 2 (some .int) :: ([])
noncomputable def wsL_law_r1 : List Cond := [Cond.classLink RL 7 RX9, Cond.instantiable RX9 10, Cond.initialized RX9, Cond.classLink RL 10 RX10, Cond.instantiable RX10 26, Cond.initialized RX10, Cond.methodLink RL 9 yX9_init, Cond.instanceMethod yX9_init, Cond.code yX9_init cX9_init 1 none, Cond.methodLink RX9 1 objectInit, Cond.instanceMethod objectInit, Cond.code objectInit ⟨#[0xb1]⟩ 1 none, Cond.classLink RX9 7 RX6, Cond.instantiable RX6 3, Cond.initialized RX6, Cond.fieldLink RX9 10 "KindStreets" "text" "LKindStreets$Text;", Cond.classLink RX9 16 RX7, Cond.instantiable RX7 8, Cond.initialized RX7, Cond.fieldLink RX9 19 "KindStreets" "draft" "LKindStreets$Town;", Cond.fieldLink RX9 23 "KindStreets" "town" "LKindStreets$Town;", Cond.classLink RX9 26 RX3, Cond.instantiable RX3 3, Cond.initialized RX3]
noncomputable def wsL_law_r2 : List Cond := [Cond.fieldLink RX9 29 "KindStreets" "now" "LKindStreets$Now;", Cond.fieldLink RX9 33 "KindStreets" "images" "[LKindStreets$Now;", Cond.classLink RX9 37 RX8, Cond.instantiable RX8 2, Cond.initialized RX8, Cond.fieldLink RX9 40 "KindStreets" "ways" "LKindStreets$Ways;", Cond.classLink RX9 44 RX0, Cond.instantiable RX0 2, Cond.initialized RX0, Cond.fieldLink RX9 47 "KindStreets" "carriages" "LKindStreets$Carriages;", Cond.classLink RX9 51 RX1, Cond.instantiable RX1 4, Cond.initialized RX1, Cond.fieldLink RX9 54 "KindStreets" "measures" "LKindStreets$Measures;", Cond.methodLink RX9 9 yX6_init, Cond.instanceMethod yX6_init, Cond.code yX6_init cX6_init 1 none, Cond.methodLink RX6 3 objectInit, Cond.arrayClass .int, Cond.fieldLink RX6 9 "KindStreets$Text" "bytes" "[I", Cond.methodLink RX9 18 yX7_init, Cond.instanceMethod yX7_init, Cond.code yX7_init cX7_init 1 none, Cond.methodLink RX7 3 objectInit]
noncomputable def wsL_law_r3 : List Cond := [Cond.fieldLink RX7 9 "KindStreets$Town" "yards" "I", Cond.fieldLink RX7 15 "KindStreets$Town" "one" "[I", Cond.fieldLink RX7 19 "KindStreets$Town" "other" "[I", Cond.fieldLink RX7 22 "KindStreets$Town" "old" "[I", Cond.fieldLink RX7 25 "KindStreets$Town" "home" "[I", Cond.fieldLink RX7 28 "KindStreets$Town" "wants" "[I", Cond.methodLink RX9 28 yX3_init, Cond.instanceMethod yX3_init, Cond.code yX3_init cX3_init 2 none, Cond.methodLink RX3 3 objectInit, Cond.classLink RX3 9 RX2, Cond.instantiable RX2 5, Cond.initialized RX2, Cond.fieldLink RX3 12 "KindStreets$Now" "moment" "LKindStreets$Moment;", Cond.fieldLink RX3 18 "KindStreets$Now" "past" "[LKindStreets$Moment;", Cond.methodLink RX3 11 yX2_init, Cond.instanceMethod yX2_init, Cond.code yX2_init cX2_init 1 none, Cond.methodLink RX2 3 objectInit, Cond.fieldLink RX2 9 "KindStreets$Moment" "seen" "[I", Cond.fieldLink RX2 15 "KindStreets$Moment" "hidden" "[I", Cond.fieldLink RX2 18 "KindStreets$Moment" "pretended" "[I", Cond.fieldLink RX2 21 "KindStreets$Moment" "home" "[I", Cond.methodLink RX9 39 yX8_init]
noncomputable def wsL_law_r4 : List Cond := [Cond.instanceMethod yX8_init, Cond.code yX8_init cX8_init 1 none, Cond.methodLink RX8 5 objectInit, Cond.classLink RX8 11 RX4, Cond.instantiable RX4 9, Cond.initialized RX4, Cond.fieldLink RX8 14 "KindStreets$Ways" "plan" "LKindStreets$Plan;", Cond.fieldLink RX8 18 "KindStreets$Ways" "price" "[I", Cond.methodLink RX8 13 yX4_init, Cond.instanceMethod yX4_init, Cond.code yX4_init cX4_init 1 none, Cond.fieldLink RX4 9 "KindStreets$Plan" "width" "[I", Cond.methodLink RX4 3 yX7_init, Cond.methodLink RX9 46 yX0_init, Cond.instanceMethod yX0_init, Cond.code yX0_init cX0_init 1 none, Cond.methodLink RX0 3 objectInit, Cond.fieldLink RX0 9 "KindStreets$Carriages" "given" "[I", Cond.classLink RX0 15 RX4, Cond.fieldLink RX0 18 "KindStreets$Carriages" "plan" "LKindStreets$Plan;", Cond.methodLink RX0 17 yX4_init, Cond.methodLink RX9 53 yX1_init, Cond.instanceMethod yX1_init, Cond.code yX1_init cX1_init 1 none]
noncomputable def wsL_law_r5 : List Cond := [Cond.methodLink RX1 3 objectInit, Cond.fieldLink RX1 9 "KindStreets$Measures" "width" "[I", Cond.fieldLink RX1 15 "KindStreets$Measures" "night" "[I", Cond.fieldLink RX1 18 "KindStreets$Measures" "alike" "[I", Cond.methodLink RL 12 yX10_init, Cond.instanceMethod yX10_init, Cond.code yX10_init cX10_init 1 none, Cond.methodLink RX10 1 objectInit, Cond.arrayClass .byte, Cond.fieldLink RX10 7 "KindStreetsModel" "text" "[B", Cond.fieldLink RX10 13 "KindStreetsModel" "yards" "[I", Cond.fieldLink RX10 17 "KindStreetsModel" "streets" "[I", Cond.fieldLink RX10 20 "KindStreetsModel" "from" "[I", Cond.fieldLink RX10 23 "KindStreetsModel" "to" "[I", Cond.fieldLink RX10 26 "KindStreetsModel" "old" "[I", Cond.fieldLink RX10 29 "KindStreetsModel" "people" "[I", Cond.fieldLink RX10 32 "KindStreetsModel" "home" "[I", Cond.fieldLink RX10 35 "KindStreetsModel" "wants" "[I", Cond.fieldLink RX10 38 "KindStreetsModel" "now" "[I", Cond.fieldLink RX10 41 "KindStreetsModel" "known" "[I", Cond.fieldLink RX10 44 "KindStreetsModel" "before" "[I", Cond.fieldLink RX10 47 "KindStreetsModel" "store" "[I", Cond.arrayClass .boolean, Cond.fieldLink RX10 50 "KindStreetsModel" "isKept" "[Z"]
noncomputable def wsL_law_r6 : List Cond := [Cond.fieldLink RX10 54 "KindStreetsModel" "most" "[I", Cond.fieldLink RX10 57 "KindStreetsModel" "factWidth" "[I", Cond.fieldLink RX10 60 "KindStreetsModel" "factNight" "[I", Cond.methodLink RL 13 yX9_type, Cond.instanceMethod yX9_type, Cond.selects RX9 yX9_type yX9_type, Cond.code yX9_type cX9_type 2 (some .int), Cond.fieldLink RX9 62 "KindStreets$Text" "length" "I", Cond.methodLink RX9 58 yX9_isWithin, Cond.static yX9_isWithin, Cond.code yX9_isWithin cX9_isWithin 3 (some .boolean), Cond.methodLink RX9 66 yX6_add, Cond.instanceMethod yX6_add, Cond.selects RX6 yX6_add yX6_add, Cond.code yX6_add cX6_add 2 none, Cond.fieldLink RX6 15 "KindStreets$Text" "length" "I", Cond.methodLink RL 17 yX10_type, Cond.instanceMethod yX10_type, Cond.selects RX10 yX10_type yX10_type, Cond.code yX10_type cX10_type 2 (some .int), Cond.fieldLink RX10 67 "KindStreetsModel" "typed" "I", Cond.methodLink RX10 63 yX10_in, Cond.static yX10_in, Cond.code yX10_in cX10_in 3 (some .boolean)]
noncomputable def wsL_law_r7 : List Cond := [Cond.methodLink RL 18 yX9_clear, Cond.instanceMethod yX9_clear, Cond.selects RX9 yX9_clear yX9_clear, Cond.code yX9_clear cX9_clear 2 (some .int), Cond.methodLink RL 22 yX10_clear, Cond.instanceMethod yX10_clear, Cond.selects RX10 yX10_clear yX10_clear, Cond.code yX10_clear cX10_clear 2 (some .int), Cond.methodLink RL 23 yX9_town, Cond.instanceMethod yX9_town, Cond.selects RX9 yX9_town yX9_town, Cond.code yX9_town cX9_town 2 (some .int), Cond.fieldLink RX9 81 "KindStreets" "kept" "I", Cond.fieldLink RX9 84 "KindStreets$Measures" "measured" "I", Cond.methodLink RX9 70 yX6_readInto, Cond.instanceMethod yX6_readInto, Cond.selects RX6 yX6_readInto yX6_readInto, Cond.code yX6_readInto cX6_readInto 3 (some .int), Cond.fieldLink RX6 24 "KindStreets$Text" "place" "I", Cond.methodLink RX6 19 ⟨"KindStreets$Town", "begin", "()V"⟩, Cond.sameMethod "KindStreets$Town" "KindStreets$Town" "begin" "()V", Cond.selects RX4 ⟨"KindStreets$Town", "begin", "()V"⟩ yX7_begin, Cond.instanceMethod yX7_begin, Cond.code yX7_begin cX7_begin 1 none]
noncomputable def wsL_law_r8 : List Cond := [Cond.fieldLink RX7 31 "KindStreets$Town" "streets" "I", Cond.fieldLink RX7 34 "KindStreets$Town" "citizens" "I", Cond.methodLink RX6 19 yX7_begin, Cond.selects RX7 yX7_begin yX7_begin, Cond.methodLink RX6 27 yX6_skipBlanks, Cond.instanceMethod yX6_skipBlanks, Cond.selects RX6 yX6_skipBlanks yX6_skipBlanks, Cond.code yX6_skipBlanks cX6_skipBlanks 1 none, Cond.methodLink RX6 80 yX6_byteAt, Cond.instanceMethod yX6_byteAt, Cond.selects RX6 yX6_byteAt yX6_byteAt, Cond.code yX6_byteAt cX6_byteAt 2 (some .int), Cond.methodLink RX6 30 yX6_readItem, Cond.instanceMethod yX6_readItem, Cond.selects RX6 yX6_readItem yX6_readItem, Cond.code yX6_readItem cX6_readItem 4 (some .boolean), Cond.fieldLink RX6 46 "KindStreets$Town" "streets" "I", Cond.fieldLink RX6 52 "KindStreets$Town" "citizens" "I", Cond.methodLink RX6 38 yX6_loneLetter, Cond.instanceMethod yX6_loneLetter, Cond.selects RX6 yX6_loneLetter yX6_loneLetter, Cond.code yX6_loneLetter cX6_loneLetter 1 (some .int), Cond.methodLink RX6 94 yX6_isLetter, Cond.static yX6_isLetter]
noncomputable def wsL_law_r9 : List Cond := [Cond.code yX6_isLetter cX6_isLetter 1 (some .boolean), Cond.methodLink RX6 42 yX6_readYards, Cond.instanceMethod yX6_readYards, Cond.selects RX6 yX6_readYards yX6_readYards, Cond.code yX6_readYards cX6_readYards 3 (some .boolean), Cond.fieldLink RX6 62 "KindStreets$Town" "yards" "I", Cond.methodLink RX6 58 yX6_readNumber, Cond.instanceMethod yX6_readNumber, Cond.selects RX6 yX6_readNumber yX6_readNumber, Cond.code yX6_readNumber cX6_readNumber 6 (some .int), Cond.methodLink RX6 84 yX6_digitsHere, Cond.instanceMethod yX6_digitsHere, Cond.selects RX6 yX6_digitsHere yX6_digitsHere, Cond.code yX6_digitsHere cX6_digitsHere 2 (some .int), Cond.methodLink RX6 90 yX6_isDigit, Cond.static yX6_isDigit, Cond.code yX6_isDigit cX6_isDigit 1 (some .boolean), Cond.methodLink RX6 87 yX6_numberOf, Cond.instanceMethod yX6_numberOf, Cond.selects RX6 yX6_numberOf yX6_numberOf, Cond.code yX6_numberOf cX6_numberOf 2 (some .int), Cond.methodLink RX6 49 yX6_readStreet, Cond.instanceMethod yX6_readStreet, Cond.selects RX6 yX6_readStreet yX6_readStreet]
noncomputable def wsL_law_r10 : List Cond := [Cond.code yX6_readStreet cX6_readStreet 5 (some .boolean), Cond.fieldLink RX6 65 "KindStreets$Town" "one" "[I", Cond.fieldLink RX6 68 "KindStreets$Town" "other" "[I", Cond.fieldLink RX6 71 "KindStreets$Town" "old" "[I", Cond.methodLink RX6 55 yX6_readCitizen, Cond.instanceMethod yX6_readCitizen, Cond.selects RX6 yX6_readCitizen yX6_readCitizen, Cond.code yX6_readCitizen cX6_readCitizen 4 (some .boolean), Cond.fieldLink RX6 74 "KindStreets$Town" "home" "[I", Cond.fieldLink RX6 77 "KindStreets$Town" "wants" "[I", Cond.methodLink RX6 34 yX6_readEnd, Cond.instanceMethod yX6_readEnd, Cond.selects RX6 yX6_readEnd yX6_readEnd, Cond.code yX6_readEnd cX6_readEnd 1 (some .boolean), Cond.methodLink RX9 74 ⟨"KindStreets$Town", "become", "(LKindStreets$Town;)V"⟩, Cond.sameMethod "KindStreets$Town" "KindStreets$Town" "become" "(LKindStreets$Town;)V", Cond.selects RX4 ⟨"KindStreets$Town", "become", "(LKindStreets$Town;)V"⟩ yX7_become, Cond.instanceMethod yX7_become, Cond.code yX7_become cX7_become 2 none, Cond.methodLink RX7 37 arraycopyName, Cond.native arraycopyName, Cond.static arraycopyName, Cond.initialized "java/lang/System", Cond.methodLink RX9 74 yX7_become]
noncomputable def wsL_law_r11 : List Cond := [Cond.selects RX7 yX7_become yX7_become, Cond.methodLink RX9 78 yX3_begin, Cond.instanceMethod yX3_begin, Cond.selects RX3 yX3_begin yX3_begin, Cond.code yX3_begin cX3_begin 2 none, Cond.fieldLink RX3 26 "KindStreets$Now" "known" "I", Cond.methodLink RX3 22 yX2_begin, Cond.instanceMethod yX2_begin, Cond.selects RX2 yX2_begin yX2_begin, Cond.code yX2_begin cX2_begin 2 none, Cond.fieldLink RX2 24 "KindStreets$Town" "old" "[I", Cond.methodLink RX2 29 arraycopyName, Cond.fieldLink RX2 41 "KindStreets$Town" "home" "[I", Cond.fieldLink RX2 42 "KindStreets$Moment" "night" "I", Cond.methodLink RX2 35 yJ7_fill_53178, Cond.static yJ7_fill_53178, Cond.initialized RJ7, Cond.code yJ7_fill_53178 cJ7_fill_53178 4 none, Cond.methodLink RL 26 yX10_town, Cond.instanceMethod yX10_town, Cond.selects RX10 yX10_town yX10_town, Cond.code yX10_town cX10_town 2 (some .int), Cond.fieldLink RX10 87 "KindStreetsModel" "isWrong" "Z", Cond.fieldLink RX10 78 "KindStreetsModel" "place" "I"]
noncomputable def wsL_law_r12 : List Cond := [Cond.fieldLink RX10 116 "KindStreetsModel" "facts" "I", Cond.fieldLink RX10 102 "KindStreetsModel" "items" "I", Cond.methodLink RX10 113 yX10_read, Cond.instanceMethod yX10_read, Cond.selects RX10 yX10_read yX10_read, Cond.code yX10_read cX10_read 2 none, Cond.fieldLink RX10 71 "KindStreetsModel" "at" "I", Cond.fieldLink RX10 84 "KindStreetsModel" "sort" "I", Cond.fieldLink RX10 81 "KindStreetsModel" "value" "I", Cond.methodLink RX10 91 yX10_step, Cond.instanceMethod yX10_step, Cond.selects RX10 yX10_step yX10_step, Cond.code yX10_step cX10_step 2 none, Cond.methodLink RX10 74 yX10_here, Cond.instanceMethod yX10_here, Cond.selects RX10 yX10_here yX10_here, Cond.code yX10_here cX10_here 1 (some .int), Cond.methodLink RX10 105 yX10_may, Cond.instanceMethod yX10_may, Cond.selects RX10 yX10_may yX10_may, Cond.code yX10_may cX10_may 2 (some .boolean), Cond.methodLink RX10 94 yX10_due, Cond.instanceMethod yX10_due, Cond.selects RX10 yX10_due yX10_due]
noncomputable def wsL_law_r13 : List Cond := [Cond.code yX10_due cX10_due 2 none, Cond.methodLink RX10 109 yX10_item, Cond.instanceMethod yX10_item, Cond.selects RX10 yX10_item yX10_item, Cond.code yX10_item cX10_item 4 none, Cond.methodLink RX10 98 yX10_number, Cond.instanceMethod yX10_number, Cond.selects RX10 yX10_number yX10_number, Cond.code yX10_number cX10_number 4 (some .int), Cond.methodLink RL 27 yX9_street, Cond.instanceMethod yX9_street, Cond.selects RX9 yX9_street yX9_street, Cond.code yX9_street cX9_street 3 (some .int), Cond.fieldLink RX9 91 "KindStreets$Town" "one" "[I", Cond.fieldLink RX9 95 "KindStreets$Town" "other" "[I", Cond.fieldLink RX9 98 "KindStreets$Now" "moment" "LKindStreets$Moment;", Cond.fieldLink RX9 102 "KindStreets$Moment" "seen" "[I", Cond.fieldLink RX9 107 "KindStreets$Moment" "hidden" "[I", Cond.fieldLink RX9 110 "KindStreets$Moment" "pretended" "[I", Cond.methodLink RX9 87 yX9_isStreet, Cond.instanceMethod yX9_isStreet, Cond.selects RX9 yX9_isStreet yX9_isStreet, Cond.code yX9_isStreet cX9_isStreet 2 (some .boolean), Cond.fieldLink RX9 189 "KindStreets$Town" "streets" "I"]
noncomputable def wsL_law_r14 : List Cond := [Cond.methodLink RX9 113 yX2_widthOf, Cond.instanceMethod yX2_widthOf, Cond.selects RX2 yX2_widthOf yX2_widthOf, Cond.code yX2_widthOf cX2_widthOf 2 (some .int), Cond.methodLink RX2 46 yX2_widthBy, Cond.static yX2_widthBy, Cond.code yX2_widthBy cX2_widthBy 3 (some .int), Cond.methodLink RX2 50 Lib.Math.max.name, Cond.static Lib.Math.max.name, Cond.initialized "java/lang/Math", Cond.code Lib.Math.max.name Lib.Math.max.code 2 (some .int), Cond.methodLink RX9 117 yX9_livingIn, Cond.instanceMethod yX9_livingIn, Cond.selects RX9 yX9_livingIn yX9_livingIn, Cond.code yX9_livingIn cX9_livingIn 2 (some .int), Cond.methodLink RX9 289 yX9_livingInAny, Cond.instanceMethod yX9_livingInAny, Cond.selects RX9 yX9_livingInAny yX9_livingInAny, Cond.code yX9_livingInAny cX9_livingInAny 4 (some .int), Cond.fieldLink RX9 260 "KindStreets$Town" "citizens" "I", Cond.fieldLink RX9 123 "KindStreets$Moment" "home" "[I", Cond.methodLink RX9 254 yX5_has, Cond.static yX5_has, Cond.initialized RX5]
noncomputable def wsL_law_r15 : List Cond := [Cond.code yX5_has cX5_has 2 (some .boolean), Cond.methodLink RL 31 yX10_street, Cond.instanceMethod yX10_street, Cond.selects RX10 yX10_street yX10_street, Cond.code yX10_street cX10_street 3 (some .int), Cond.methodLink RX10 130 yX10_isStreet, Cond.instanceMethod yX10_isStreet, Cond.selects RX10 yX10_isStreet yX10_isStreet, Cond.code yX10_isStreet cX10_isStreet 2 (some .boolean), Cond.methodLink RX10 122 yX10_widthOf, Cond.instanceMethod yX10_widthOf, Cond.selects RX10 yX10_widthOf yX10_widthOf, Cond.code yX10_widthOf cX10_widthOf 4 (some .int), Cond.methodLink RX10 133 yX10_livingIn, Cond.instanceMethod yX10_livingIn, Cond.selects RX10 yX10_livingIn yX10_livingIn, Cond.code yX10_livingIn cX10_livingIn 4 (some .int), Cond.methodLink RL 32 yX9_citizen, Cond.instanceMethod yX9_citizen, Cond.selects RX9 yX9_citizen yX9_citizen, Cond.code yX9_citizen cX9_citizen 3 (some .int), Cond.fieldLink RX9 126 "KindStreets$Town" "wants" "[I", Cond.methodLink RX9 120 yX9_isCitizen, Cond.instanceMethod yX9_isCitizen]
noncomputable def wsL_law_r16 : List Cond := [Cond.selects RX9 yX9_isCitizen yX9_isCitizen, Cond.code yX9_isCitizen cX9_isCitizen 2 (some .boolean), Cond.methodLink RX9 129 yX9_witnessesOf, Cond.instanceMethod yX9_witnessesOf, Cond.selects RX9 yX9_witnessesOf yX9_witnessesOf, Cond.code yX9_witnessesOf cX9_witnessesOf 2 (some .int), Cond.methodLink RX9 277 yX9_streetsAt, Cond.instanceMethod yX9_streetsAt, Cond.selects RX9 yX9_streetsAt yX9_streetsAt, Cond.code yX9_streetsAt cX9_streetsAt 4 (some .int), Cond.methodLink RX9 286 ⟨"KindStreets$Town", "endsOf", "(I)I"⟩, Cond.sameMethod "KindStreets$Town" "KindStreets$Town" "endsOf" "(I)I", Cond.selects RX4 ⟨"KindStreets$Town", "endsOf", "(I)I"⟩ yX7_endsOf, Cond.instanceMethod yX7_endsOf, Cond.code yX7_endsOf cX7_endsOf 2 (some .int), Cond.methodLink RX9 286 yX7_endsOf, Cond.selects RX7 yX7_endsOf yX7_endsOf, Cond.methodLink RX9 292 yX5_without, Cond.static yX5_without, Cond.code yX5_without cX5_without 2 (some .int), Cond.methodLink RL 35 yX10_citizen, Cond.instanceMethod yX10_citizen, Cond.selects RX10 yX10_citizen yX10_citizen, Cond.code yX10_citizen cX10_citizen 3 (some .int)]
noncomputable def wsL_law_r17 : List Cond := [Cond.methodLink RX10 136 yX10_isPerson, Cond.instanceMethod yX10_isPerson, Cond.selects RX10 yX10_isPerson yX10_isPerson, Cond.code yX10_isPerson cX10_isPerson 2 (some .boolean), Cond.methodLink RX10 139 yX10_witnesses, Cond.instanceMethod yX10_witnesses, Cond.selects RX10 yX10_witnesses yX10_witnesses, Cond.code yX10_witnesses cX10_witnesses 4 (some .int), Cond.methodLink RX10 126 yX10_doMeet, Cond.instanceMethod yX10_doMeet, Cond.selects RX10 yX10_doMeet yX10_doMeet, Cond.code yX10_doMeet cX10_doMeet 3 (some .boolean), Cond.methodLink RL 36 yX9_does, Cond.instanceMethod yX9_does, Cond.selects RX9 yX9_does yX9_does, Cond.code yX9_does cX9_does 6 (some .int), Cond.methodLink RX9 132 yX3_remember, Cond.instanceMethod yX3_remember, Cond.selects RX3 yX3_remember yX3_remember, Cond.code yX3_remember cX3_remember 1 none, Cond.methodLink RX3 34 yX3_loseOldest, Cond.instanceMethod yX3_loseOldest, Cond.selects RX3 yX3_loseOldest yX3_loseOldest, Cond.code yX3_loseOldest cX3_loseOldest 3 none]
noncomputable def wsL_law_r18 : List Cond := [Cond.methodLink RX3 30 yX2_become, Cond.instanceMethod yX2_become, Cond.selects RX2 yX2_become yX2_become, Cond.code yX2_become cX2_become 2 none, Cond.methodLink RX9 135 yJ6_bitCount_0f7a4, Cond.static yJ6_bitCount_0f7a4, Cond.initialized RJ6, Cond.code yJ6_bitCount_0f7a4 cJ6_bitCount_0f7a4 1 (some .int), Cond.constant RJ6 265 (1431655765), Cond.constant RJ6 266 (858993459), Cond.constant RJ6 267 (252645135), Cond.methodLink RX9 140 yX9_raise, Cond.static yX9_raise, Cond.code yX9_raise cX9_raise 3 none, Cond.methodLink RX9 281 Lib.Math.max.name, Cond.methodLink RL 40 yX10_does, Cond.instanceMethod yX10_does, Cond.selects RX10 yX10_does yX10_does, Cond.code yX10_does cX10_does 7 (some .int), Cond.methodLink RX10 142 yX10_know, Cond.instanceMethod yX10_know, Cond.selects RX10 yX10_know yX10_know, Cond.code yX10_know cX10_know 2 none, Cond.methodLink RX10 145 yX10_bitsOf]
noncomputable def wsL_law_r19 : List Cond := [Cond.static yX10_bitsOf, Cond.code yX10_bitsOf cX10_bitsOf 3 (some .int), Cond.methodLink RL 41 yX9_wills, Cond.instanceMethod yX9_wills, Cond.selects RX9 yX9_wills yX9_wills, Cond.code yX9_wills cX9_wills 3 (some .int), Cond.methodLink RL 44 yX10_wills, Cond.instanceMethod yX10_wills, Cond.selects RX10 yX10_wills yX10_wills, Cond.code yX10_wills cX10_wills 3 (some .int), Cond.methodLink RL 45 yX9_moves, Cond.instanceMethod yX9_moves, Cond.selects RX9 yX9_moves yX9_moves, Cond.code yX9_moves cX9_moves 4 (some .int), Cond.methodLink RL 48 yX10_moves, Cond.instanceMethod yX10_moves, Cond.selects RX10 yX10_moves yX10_moves, Cond.code yX10_moves cX10_moves 4 (some .int), Cond.methodLink RL 49 yX9_night, Cond.instanceMethod yX9_night, Cond.selects RX9 yX9_night yX9_night, Cond.code yX9_night cX9_night 2 (some .int), Cond.fieldLink RX9 144 "KindStreets$Moment" "night" "I", Cond.methodLink RX9 147 yX9_widthsTogether]
noncomputable def wsL_law_r20 : List Cond := [Cond.instanceMethod yX9_widthsTogether, Cond.selects RX9 yX9_widthsTogether yX9_widthsTogether, Cond.code yX9_widthsTogether cX9_widthsTogether 3 (some .int), Cond.methodLink RL 52 yX10_night, Cond.instanceMethod yX10_night, Cond.selects RX10 yX10_night yX10_night, Cond.code yX10_night cX10_night 2 (some .int), Cond.methodLink RX10 148 yX10_allWidths, Cond.instanceMethod yX10_allWidths, Cond.selects RX10 yX10_allWidths yX10_allWidths, Cond.code yX10_allWidths cX10_allWidths 3 (some .int), Cond.methodLink RL 53 yX9_undo, Cond.instanceMethod yX9_undo, Cond.selects RX9 yX9_undo yX9_undo, Cond.code yX9_undo cX9_undo 1 (some .int), Cond.fieldLink RX9 151 "KindStreets$Now" "known" "I", Cond.methodLink RX9 154 yX3_recall, Cond.instanceMethod yX3_recall, Cond.selects RX3 yX3_recall yX3_recall, Cond.code yX3_recall cX3_recall 1 none, Cond.methodLink RL 56 yX10_undo, Cond.instanceMethod yX10_undo, Cond.selects RX10 yX10_undo yX10_undo, Cond.code yX10_undo cX10_undo 2 (some .int)]
noncomputable def wsL_law_r21 : List Cond := [Cond.methodLink RL 57 yX9_now, Cond.instanceMethod yX9_now, Cond.selects RX9 yX9_now yX9_now, Cond.code yX9_now cX9_now 2 (some .int), Cond.methodLink RX9 157 yX9_streetsWithHidden, Cond.instanceMethod yX9_streetsWithHidden, Cond.selects RX9 yX9_streetsWithHidden yX9_streetsWithHidden, Cond.code yX9_streetsWithHidden cX9_streetsWithHidden 3 (some .int), Cond.methodLink RL 60 yX10_now, Cond.instanceMethod yX10_now, Cond.selects RX10 yX10_now yX10_now, Cond.code yX10_now cX10_now 4 (some .int), Cond.methodLink RL 61 yX9_widest, Cond.instanceMethod yX9_widest, Cond.selects RX9 yX9_widest yX9_widest, Cond.code yX9_widest cX9_widest 3 (some .int), Cond.methodLink RX9 160 yX9_areUnlikeYards, Cond.instanceMethod yX9_areUnlikeYards, Cond.selects RX9 yX9_areUnlikeYards yX9_areUnlikeYards, Cond.code yX9_areUnlikeYards cX9_areUnlikeYards 3 (some .boolean), Cond.fieldLink RX9 257 "KindStreets$Town" "yards" "I", Cond.methodLink RX9 164 yX9_waysNow, Cond.instanceMethod yX9_waysNow, Cond.selects RX9 yX9_waysNow yX9_waysNow]
noncomputable def wsL_law_r22 : List Cond := [Cond.code yX9_waysNow cX9_waysNow 1 (some (.object "KindStreets$Ways")), Cond.fieldLink RX9 280 "KindStreets$Ways" "plan" "LKindStreets$Plan;", Cond.methodLink RX9 208 yX4_draw, Cond.instanceMethod yX4_draw, Cond.selects RX4 yX4_draw yX4_draw, Cond.code yX4_draw cX4_draw 4 none, Cond.fieldLink RX4 19 "KindStreets$Town" "streets" "I", Cond.methodLink RX4 15 ⟨"KindStreets$Plan", "become", "(LKindStreets$Town;)V"⟩, Cond.sameMethod "KindStreets$Plan" "KindStreets$Town" "become" "(LKindStreets$Town;)V", Cond.selects RX4 ⟨"KindStreets$Plan", "become", "(LKindStreets$Town;)V"⟩ yX7_become, Cond.methodLink RX4 23 yX2_widthOf, Cond.methodLink RX9 168 yX8_widestWay, Cond.instanceMethod yX8_widestWay, Cond.selects RX8 yX8_widestWay yX8_widestWay, Cond.code yX8_widestWay cX8_widestWay 4 (some .int), Cond.methodLink RX8 22 yX8_fewestStreets, Cond.instanceMethod yX8_fewestStreets, Cond.selects RX8 yX8_fewestStreets yX8_fewestStreets, Cond.code yX8_fewestStreets cX8_fewestStreets 6 (some .int), Cond.fieldLink RX8 26 "KindStreets$Plan" "yards" "I", Cond.sameField "KindStreets$Plan" "KindStreets$Town" "yards" "I", Cond.methodLink RX8 30 yX8_oneStreetOn, Cond.instanceMethod yX8_oneStreetOn, Cond.selects RX8 yX8_oneStreetOn yX8_oneStreetOn]
noncomputable def wsL_law_r23 : List Cond := [Cond.code yX8_oneStreetOn cX8_oneStreetOn 5 (some .int), Cond.fieldLink RX8 40 "KindStreets$Plan" "streets" "I", Cond.sameField "KindStreets$Plan" "KindStreets$Town" "streets" "I", Cond.fieldLink RX8 43 "KindStreets$Plan" "width" "[I", Cond.methodLink RX8 46 ⟨"KindStreets$Plan", "endsOf", "(I)I"⟩, Cond.sameMethod "KindStreets$Plan" "KindStreets$Town" "endsOf" "(I)I", Cond.selects RX4 ⟨"KindStreets$Plan", "endsOf", "(I)I"⟩ yX7_endsOf, Cond.methodLink RX8 34 yX5_has, Cond.methodLink RL 64 yX10_widest, Cond.instanceMethod yX10_widest, Cond.selects RX10 yX10_widest yX10_widest, Cond.code yX10_widest cX10_widest 4 (some .int), Cond.methodLink RX10 154 yX10_areTwo, Cond.instanceMethod yX10_areTwo, Cond.selects RX10 yX10_areTwo yX10_areTwo, Cond.code yX10_areTwo cX10_areTwo 3 (some .boolean), Cond.methodLink RX10 119 yX10_isYard, Cond.instanceMethod yX10_isYard, Cond.selects RX10 yX10_isYard yX10_isYard, Cond.code yX10_isYard cX10_isYard 2 (some .boolean), Cond.methodLink RX10 157 yX10_openBy, Cond.instanceMethod yX10_openBy, Cond.selects RX10 yX10_openBy yX10_openBy, Cond.code yX10_openBy cX10_openBy 4 (some .int)]
noncomputable def wsL_law_r24 : List Cond := [Cond.methodLink RX10 160 yX10_wayBy, Cond.instanceMethod yX10_wayBy, Cond.selects RX10 yX10_wayBy yX10_wayBy, Cond.code yX10_wayBy cX10_wayBy 9 (some .int), Cond.methodLink RX10 151 yX10_has, Cond.static yX10_has, Cond.code yX10_has cX10_has 2 (some .boolean), Cond.methodLink RL 65 yX9_way, Cond.instanceMethod yX9_way, Cond.selects RX9 yX9_way yX9_way, Cond.code yX9_way cX9_way 4 (some .int), Cond.methodLink RX9 172 yX8_fewestStreets, Cond.methodLink RL 68 yX10_way, Cond.instanceMethod yX10_way, Cond.selects RX10 yX10_way yX10_way, Cond.code yX10_way cX10_way 4 (some .int), Cond.methodLink RL 69 yX9_flow, Cond.instanceMethod yX9_flow, Cond.selects RX9 yX9_flow yX9_flow, Cond.code yX9_flow cX9_flow 5 (some .int), Cond.methodLink RX9 176 yX8_leastCut, Cond.instanceMethod yX8_leastCut, Cond.selects RX8 yX8_leastCut yX8_leastCut, Cond.code yX8_leastCut cX8_leastCut 5 (some .int)]
noncomputable def wsL_law_r25 : List Cond := [Cond.constant RX8 50 (1073741824), Cond.methodLink RX8 57 Lib.Math.min.name, Cond.static Lib.Math.min.name, Cond.code Lib.Math.min.name Lib.Math.min.code 2 (some .int), Cond.methodLink RX8 51 yX5_allOf, Cond.static yX5_allOf, Cond.code yX5_allOf cX5_allOf 1 (some .int), Cond.methodLink RX8 54 yX8_cutAround, Cond.instanceMethod yX8_cutAround, Cond.selects RX8 yX8_cutAround yX8_cutAround, Cond.code yX8_cutAround cX8_cutAround 4 (some .int), Cond.methodLink RX8 62 yX4_leadsOut, Cond.instanceMethod yX4_leadsOut, Cond.selects RX4 yX4_leadsOut yX4_leadsOut, Cond.code yX4_leadsOut cX4_leadsOut 3 (some .boolean), Cond.fieldLink RX4 29 "KindStreets$Plan" "one" "[I", Cond.sameField "KindStreets$Plan" "KindStreets$Town" "one" "[I", Cond.fieldLink RX4 38 "KindStreets$Plan" "other" "[I", Cond.sameField "KindStreets$Plan" "KindStreets$Town" "other" "[I", Cond.methodLink RX4 32 yX5_has, Cond.methodLink RX9 179 yX8_widthIn, Cond.static yX8_widthIn, Cond.code yX8_widthIn cX8_widthIn 1 (some .int), Cond.methodLink RX9 182 yX8_streetsIn]
noncomputable def wsL_law_r26 : List Cond := [Cond.static yX8_streetsIn, Cond.code yX8_streetsIn cX8_streetsIn 1 (some .int), Cond.methodLink RL 72 yX10_flow, Cond.instanceMethod yX10_flow, Cond.selects RX10 yX10_flow yX10_flow, Cond.code yX10_flow cX10_flow 10 (some .int), Cond.methodLink RX10 164 yX10_widthsOf, Cond.instanceMethod yX10_widthsOf, Cond.selects RX10 yX10_widthsOf yX10_widthsOf, Cond.code yX10_widthsOf cX10_widthsOf 4 (some .int), Cond.methodLink RL 73 yX9_need, Cond.instanceMethod yX9_need, Cond.selects RX9 yX9_need yX9_need, Cond.code yX9_need cX9_need 5 (some .int), Cond.constant RX9 188 (1073741824), Cond.methodLink RX9 185 yX8_leastPrice, Cond.instanceMethod yX8_leastPrice, Cond.selects RX8 yX8_leastPrice yX8_leastPrice, Cond.code yX8_leastPrice cX8_leastPrice 6 (some .int), Cond.methodLink RX8 65 yJ7_fill_53178, Cond.methodLink RX8 71 yX8_goBothWays, Cond.instanceMethod yX8_goBothWays, Cond.selects RX8 yX8_goBothWays yX8_goBothWays, Cond.code yX8_goBothWays cX8_goBothWays 5 none]
noncomputable def wsL_law_r27 : List Cond := [Cond.fieldLink RX8 75 "KindStreets$Plan" "one" "[I", Cond.fieldLink RX8 78 "KindStreets$Plan" "other" "[I", Cond.methodLink RL 76 yX10_need, Cond.instanceMethod yX10_need, Cond.selects RX10 yX10_need yX10_need, Cond.code yX10_need cX10_need 8 (some .int), Cond.methodLink RL 77 yX9_odds, Cond.instanceMethod yX9_odds, Cond.selects RX9 yX9_odds yX9_odds, Cond.code yX9_odds cX9_odds 8 (some .int), Cond.methodLink RX9 192 yX8_tenTo, Cond.static yX8_tenTo, Cond.code yX8_tenTo cX8_tenTo 3 (some .int), Cond.methodLink RX9 195 yX5_allOf, Cond.methodLink RX9 200 yX8_chances, Cond.instanceMethod yX8_chances, Cond.selects RX8 yX8_chances yX8_chances, Cond.code yX8_chances cX8_chances 7 (some .int), Cond.methodLink RX8 81 yJ6_bitCount_0f7a4, Cond.methodLink RX8 86 yX8_tenTo, Cond.methodLink RX8 89 yX8_streetOut, Cond.instanceMethod yX8_streetOut, Cond.selects RX8 yX8_streetOut yX8_streetOut, Cond.code yX8_streetOut cX8_streetOut 4 (some .int)]
noncomputable def wsL_law_r28 : List Cond := [Cond.methodLink RX8 92 yX5_without, Cond.methodLink RX8 95 yX8_chances, Cond.methodLink RL 81 yX10_odds, Cond.instanceMethod yX10_odds, Cond.selects RX10 yX10_odds yX10_odds, Cond.code yX10_odds cX10_odds 11 (some .int), Cond.methodLink RL 82 yX9_carriage, Cond.instanceMethod yX9_carriage, Cond.selects RX9 yX9_carriage yX9_carriage, Cond.code yX9_carriage cX9_carriage 3 (some .int), Cond.fieldLink RX9 204 "KindStreets$Carriages" "plan" "LKindStreets$Plan;", Cond.fieldLink RX9 217 "KindStreets$Carriages" "given" "[I", Cond.methodLink RX9 214 yX0_give, Cond.instanceMethod yX0_give, Cond.selects RX0 yX0_give yX0_give, Cond.code yX0_give cX0_give 5 (some .int), Cond.fieldLink RX0 22 "KindStreets$Plan" "streets" "I", Cond.fieldLink RX0 36 "KindStreets$Plan" "citizens" "I", Cond.sameField "KindStreets$Plan" "KindStreets$Town" "citizens" "I", Cond.methodLink RX0 26 yX5_allOf, Cond.methodLink RX0 32 yX0_mostFrom, Cond.instanceMethod yX0_mostFrom, Cond.selects RX0 yX0_mostFrom yX0_mostFrom, Cond.code yX0_mostFrom cX0_mostFrom 7 (some .int)]
noncomputable def wsL_law_r29 : List Cond := [Cond.methodLink RX0 62 Lib.Math.min.name, Cond.methodLink RX0 56 yX0_wantingFrom, Cond.instanceMethod yX0_wantingFrom, Cond.selects RX0 yX0_wantingFrom yX0_wantingFrom, Cond.code yX0_wantingFrom cX0_wantingFrom 5 (some .int), Cond.fieldLink RX0 53 "KindStreets$Plan" "wants" "[I", Cond.sameField "KindStreets$Plan" "KindStreets$Town" "wants" "[I", Cond.methodLink RX0 59 yX0_freeOf, Cond.instanceMethod yX0_freeOf, Cond.selects RX0 yX0_freeOf yX0_freeOf, Cond.code yX0_freeOf cX0_freeOf 5 (some .int), Cond.fieldLink RX0 50 "KindStreets$Plan" "width" "[I", Cond.methodLink RX0 46 yX5_has, Cond.methodLink RX0 39 yX0_lowestStreetFor, Cond.instanceMethod yX0_lowestStreetFor, Cond.selects RX0 yX0_lowestStreetFor yX0_lowestStreetFor, Cond.code yX0_lowestStreetFor cX0_lowestStreetFor 5 (some .int), Cond.methodLink RX0 43 yX5_without, Cond.methodLink RL 85 yX10_carriage, Cond.instanceMethod yX10_carriage, Cond.selects RX10 yX10_carriage yX10_carriage, Cond.code yX10_carriage cX10_carriage 7 (some .int), Cond.methodLink RX10 170 yX10_tellMost, Cond.instanceMethod yX10_tellMost]
noncomputable def wsL_law_r30 : List Cond := [Cond.selects RX10 yX10_tellMost yX10_tellMost, Cond.code yX10_tellMost cX10_tellMost 7 none, Cond.methodLink RX10 167 yX10_canHave, Cond.instanceMethod yX10_canHave, Cond.selects RX10 yX10_canHave yX10_canHave, Cond.code yX10_canHave cX10_canHave 3 (some .boolean), Cond.methodLink RL 86 yX9_measures, Cond.instanceMethod yX9_measures, Cond.selects RX9 yX9_measures yX9_measures, Cond.code yX9_measures cX9_measures 3 (some .int), Cond.methodLink RX9 220 yX1_add, Cond.instanceMethod yX1_add, Cond.selects RX1 yX1_add yX1_add, Cond.code yX1_add cX1_add 3 none, Cond.fieldLink RX1 21 "KindStreets$Measures" "measured" "I", Cond.methodLink RL 89 yX10_measures, Cond.instanceMethod yX10_measures, Cond.selects RX10 yX10_measures yX10_measures, Cond.code yX10_measures cX10_measures 3 (some .int), Cond.methodLink RL 90 yX9_forget, Cond.instanceMethod yX9_forget, Cond.selects RX9 yX9_forget yX9_forget, Cond.code yX9_forget cX9_forget 2 (some .int), Cond.methodLink RL 93 yX10_forget]
noncomputable def wsL_law_r31 : List Cond := [Cond.instanceMethod yX10_forget, Cond.selects RX10 yX10_forget yX10_forget, Cond.code yX10_forget cX10_forget 2 (some .int), Cond.methodLink RL 94 yX9_deeds, Cond.instanceMethod yX9_deeds, Cond.selects RX9 yX9_deeds yX9_deeds, Cond.code yX9_deeds cX9_deeds 2 (some .int), Cond.methodLink RX9 223 yX1_manyDeeds, Cond.instanceMethod yX1_manyDeeds, Cond.selects RX1 yX1_manyDeeds yX1_manyDeeds, Cond.code yX1_manyDeeds cX1_manyDeeds 3 (some .int), Cond.methodLink RX1 25 yX1_areSo, Cond.instanceMethod yX1_areSo, Cond.selects RX1 yX1_areSo yX1_areSo, Cond.code yX1_areSo cX1_areSo 3 (some .boolean), Cond.methodLink RX1 35 yX1_widthBy, Cond.static yX1_widthBy, Cond.code yX1_widthBy cX1_widthBy 2 (some .int), Cond.methodLink RX1 44 yX2_widthBy, Cond.methodLink RX9 226 yX1_firstDeeds, Cond.instanceMethod yX1_firstDeeds, Cond.selects RX1 yX1_firstDeeds yX1_firstDeeds, Cond.code yX1_firstDeeds cX1_firstDeeds 2 (some .int), Cond.methodLink RL 97 yX10_deeds]
noncomputable def wsL_law_r32 : List Cond := [Cond.instanceMethod yX10_deeds, Cond.selects RX10 yX10_deeds yX10_deeds, Cond.code yX10_deeds cX10_deeds 5 (some .int), Cond.methodLink RX10 176 yX10_isSo, Cond.instanceMethod yX10_isSo, Cond.selects RX10 yX10_isSo yX10_isSo, Cond.code yX10_isSo cX10_isSo 4 (some .boolean), Cond.methodLink RX10 173 yX10_widthBy, Cond.static yX10_widthBy, Cond.code yX10_widthBy cX10_widthBy 4 (some .int), Cond.methodLink RL 98 yX9_when, Cond.instanceMethod yX9_when, Cond.selects RX9 yX9_when yX9_when, Cond.code yX9_when cX9_when 2 (some .int), Cond.methodLink RX9 229 yX1_mostAlike, Cond.instanceMethod yX1_mostAlike, Cond.selects RX1 yX1_mostAlike yX1_mostAlike, Cond.code yX1_mostAlike cX1_mostAlike 5 (some .int), Cond.methodLink RX1 39 Lib.Math.max.name, Cond.methodLink RX1 29 yJ7_fill_53178, Cond.methodLink RL 101 yX10_when, Cond.instanceMethod yX10_when, Cond.selects RX10 yX10_when yX10_when, Cond.code yX10_when cX10_when 2 (some .int)]
noncomputable def wsL_law_r33 : List Cond := [Cond.methodLink RX10 179 yX10_greatest, Cond.instanceMethod yX10_greatest, Cond.selects RX10 yX10_greatest yX10_greatest, Cond.code yX10_greatest cX10_greatest 6 (some .int), Cond.methodLink RL 102 yX9_mark, Cond.instanceMethod yX9_mark, Cond.selects RX9 yX9_mark yX9_mark, Cond.code yX9_mark cX9_mark 3 (some .int), Cond.constant RX9 232 (-1000000), Cond.methodLink RX9 233 yX9_markAsStreet, Cond.instanceMethod yX9_markAsStreet, Cond.selects RX9 yX9_markAsStreet yX9_markAsStreet, Cond.code yX9_markAsStreet cX9_markAsStreet 2 (some .int), Cond.fieldLink RX9 263 "KindStreets" "trace" "J", Cond.methodLink RX9 236 yX9_markAsCross, Cond.instanceMethod yX9_markAsCross, Cond.selects RX9 yX9_markAsCross yX9_markAsCross, Cond.code yX9_markAsCross cX9_markAsCross 2 (some .int), Cond.constantLong RX9 267 (10), Cond.methodLink RX9 239 yX9_markAsLane, Cond.instanceMethod yX9_markAsLane, Cond.selects RX9 yX9_markAsLane yX9_markAsLane, Cond.code yX9_markAsLane cX9_markAsLane 2 (some .int), Cond.constantLong RX9 269 (100)]
noncomputable def wsL_law_r34 : List Cond := [Cond.methodLink RX9 242 yX9_markAsBoulevard, Cond.instanceMethod yX9_markAsBoulevard, Cond.selects RX9 yX9_markAsBoulevard yX9_markAsBoulevard, Cond.code yX9_markAsBoulevard cX9_markAsBoulevard 2 (some .int), Cond.constantLong RX9 271 (1000), Cond.methodLink RX9 245 yX9_markAsCourt, Cond.instanceMethod yX9_markAsCourt, Cond.selects RX9 yX9_markAsCourt yX9_markAsCourt, Cond.code yX9_markAsCourt cX9_markAsCourt 2 (some .int), Cond.constantLong RX9 273 (10000), Cond.methodLink RX9 248 yX9_markAsAlley, Cond.instanceMethod yX9_markAsAlley, Cond.selects RX9 yX9_markAsAlley yX9_markAsAlley, Cond.code yX9_markAsAlley cX9_markAsAlley 2 (some .int), Cond.constantLong RX9 275 (100000), Cond.methodLink RL 105 yX10_mark, Cond.instanceMethod yX10_mark, Cond.selects RX10 yX10_mark yX10_mark, Cond.code yX10_mark cX10_mark 8 (some .int), Cond.constant RX10 182 (-1000000), Cond.fieldLink RX10 186 "KindStreetsModel" "trace" "J", Cond.constantLong RX10 190 (10), Cond.methodLink RX10 183 yX10_bodiesOf, Cond.static yX10_bodiesOf]
noncomputable def wsL_law_r35 : List Cond := [Cond.code yX10_bodiesOf cX10_bodiesOf 1 (some .int), Cond.methodLink RL 106 yX9_keep, Cond.instanceMethod yX9_keep, Cond.selects RX9 yX9_keep yX9_keep, Cond.code yX9_keep cX9_keep 2 (some .int), Cond.methodLink RX9 251 yX3_become, Cond.instanceMethod yX3_become, Cond.selects RX3 yX3_become yX3_become, Cond.code yX3_become cX3_become 3 none, Cond.methodLink RL 109 yX10_keep, Cond.instanceMethod yX10_keep, Cond.selects RX10 yX10_keep yX10_keep, Cond.code yX10_keep cX10_keep 3 (some .int), Cond.methodLink RL 110 yX9_back, Cond.instanceMethod yX9_back, Cond.selects RX9 yX9_back yX9_back, Cond.code yX9_back cX9_back 2 (some .int), Cond.methodLink RL 113 yX10_back, Cond.instanceMethod yX10_back, Cond.selects RX10 yX10_back yX10_back, Cond.code yX10_back cX10_back 3 (some .int), Cond.methodLink RL 114 yX9_count, Cond.instanceMethod yX9_count, Cond.selects RX9 yX9_count yX9_count]
noncomputable def wsL_law_r36 : List Cond := [Cond.code yX9_count cX9_count 2 (some .int), Cond.methodLink RL 117 yX10_count, Cond.instanceMethod yX10_count, Cond.selects RX10 yX10_count yX10_count, Cond.code yX10_count cX10_count 2 (some .int), Cond.methodLink RL 118 yX9_trace, Cond.instanceMethod yX9_trace, Cond.selects RX9 yX9_trace yX9_trace, Cond.code yX9_trace cX9_trace 1 (some .long), Cond.methodLink RL 122 yX10_trace, Cond.instanceMethod yX10_trace, Cond.selects RX10 yX10_trace yX10_trace, Cond.code yX10_trace cX10_trace 1 (some .long)]
noncomputable def wsL_law : List Cond := (wsL_law_r1 ++ (wsL_law_r2 ++ (wsL_law_r3 ++ (wsL_law_r4 ++ (wsL_law_r5 ++ (wsL_law_r6 ++ (wsL_law_r7 ++ (wsL_law_r8 ++ (wsL_law_r9 ++ (wsL_law_r10 ++ (wsL_law_r11 ++ (wsL_law_r12 ++ (wsL_law_r13 ++ (wsL_law_r14 ++ (wsL_law_r15 ++ (wsL_law_r16 ++ (wsL_law_r17 ++ (wsL_law_r18 ++ (wsL_law_r19 ++ (wsL_law_r20 ++ (wsL_law_r21 ++ (wsL_law_r22 ++ (wsL_law_r23 ++ (wsL_law_r24 ++ (wsL_law_r25 ++ (wsL_law_r26 ++ (wsL_law_r27 ++ (wsL_law_r28 ++ (wsL_law_r29 ++ (wsL_law_r30 ++ (wsL_law_r31 ++ (wsL_law_r32 ++ (wsL_law_r33 ++ (wsL_law_r34 ++ (wsL_law_r35 ++ wsL_law_r36))))))))))))))))))))))))))))))))))) ++ wsX90 ++ wsX100 ++ wsX60 ++ wsX70 ++ wsX30 ++ wsX80 ++ wsX00 ++ wsX10 ++ wsX40 ++ wsX20 ++ ([] : List Cond)
set_option maxRecDepth 20000 in
abbrev vwCl : List vw_C := [(RX0, TX0, 2), (RX1, TX1, 4), (RX2, TX2, 5), (RX3, TX3, 3), (RX4, TX4, 9), (RX6, TX6, 3), (RX7, TX7, 8), (RX8, TX8, 2), (RX9, TX9, 10), (RX10, TX10, 26)]
end
section
set_option maxRecDepth 20000 in
theorem ggX0_init_X4_init : GoodIn wsX0_init wsX4_init := goodIn_r _ [12, 4, 13, 14, 15, 16, 17, 18, 2, 3, 19, 20, 21, 22, 23, 24, 27, 28, 29, 30, 31, 32, 33, 34, 35, 36, 37, 38, 39, 40, 41, 42, 43] (by decide +kernel) (by decide +kernel)
set_option maxRecDepth 20000 in
theorem gX0_init_X4_init : GoodIn wsX0_init (wsX4_init) := ggX0_init_X4_init
theorem dX0_init_0 : decode cX0_init 0 = .ok (.aload_n 0, 1) := by decide +kernel
theorem dX0_init_1 : decode cX0_init 1 = .ok (.invokespecial 3, 3) := by decide +kernel
theorem dX0_init_4 : decode cX0_init 4 = .ok (.aload_n 0, 1) := by decide +kernel
theorem dX0_init_5 : decode cX0_init 5 = .ok (.bipush 6, 2) := by decide +kernel
theorem dX0_init_7 : decode cX0_init 7 = .ok (.newarray .int, 2) := by decide +kernel
theorem dX0_init_9 : decode cX0_init 9 = .ok (.putfield 9, 3) := by decide +kernel
theorem dX0_init_12 : decode cX0_init 12 = .ok (.aload_n 0, 1) := by decide +kernel
theorem dX0_init_13 : decode cX0_init 13 = .ok (.new 15, 3) := by decide +kernel
theorem dX0_init_16 : decode cX0_init 16 = .ok (.dup, 1) := by decide +kernel
theorem dX0_init_17 : decode cX0_init 17 = .ok (.invokespecial 17, 3) := by decide +kernel
theorem dX0_init_20 : decode cX0_init 20 = .ok (.putfield 18, 3) := by decide +kernel
theorem dX0_init_23 : decode cX0_init 23 = .ok (.return_, 1) := by decide +kernel
set_option maxRecDepth 20000 in
theorem ggX0_give_X5_allOf : GoodIn wsX0_give wsX5_allOf := goodIn_r _ [10] (by decide +kernel) (by decide +kernel)
set_option maxRecDepth 20000 in
theorem gX0_give_X5_allOf : GoodIn wsX0_give (va_wsS RX0 26 yX5_allOf wsX5_allOf) := goodIn_app (goodIn_of _ (by decide +kernel)) ggX0_give_X5_allOf
set_option maxRecDepth 20000 in
theorem ggX0_give_X0_mostFrom : GoodIn wsX0_give wsX0_mostFrom := goodIn_r _ [15, 16, 17, 18, 19, 20, 21, 22, 14, 23, 1, 4, 5, 24, 25, 26, 27, 28, 29, 2, 3, 30, 31, 32, 9, 33, 41, 42, 43, 44, 45, 46, 47, 48, 49, 50, 51, 52, 53, 54, 55, 56, 57, 58, 59] (by decide +kernel) (by decide +kernel)
set_option maxRecDepth 20000 in
theorem gX0_give_X0_mostFrom : GoodIn wsX0_give (wsV RX0 32 RX0 yX0_mostFrom wsX0_mostFrom) := goodIn_app (goodIn_of _ (by decide +kernel)) ggX0_give_X0_mostFrom
set_option maxRecDepth 20000 in
theorem ggX0_give_X0_lowestStreetFor : GoodIn wsX0_give wsX0_lowestStreetFor := goodIn_r _ [37, 1, 2, 3, 30, 24, 25, 31, 32, 9, 33, 38, 39, 40, 11, 12, 13, 14, 15, 16, 17, 18, 19, 20, 21, 22, 23, 4, 5, 26, 27, 28, 29, 41, 42, 43, 44, 45, 46, 47, 48, 49, 50, 51, 52, 53, 54, 55, 56, 57, 58, 59] (by decide +kernel) (by decide +kernel)
set_option maxRecDepth 20000 in
theorem gX0_give_X0_lowestStreetFor : GoodIn wsX0_give (wsV RX0 39 RX0 yX0_lowestStreetFor wsX0_lowestStreetFor) := goodIn_app (goodIn_of _ (by decide +kernel)) ggX0_give_X0_lowestStreetFor
set_option maxRecDepth 20000 in
theorem ggX0_give_X5_without : GoodIn wsX0_give wsX5_without := goodIn_r _ [40] (by decide +kernel) (by decide +kernel)
set_option maxRecDepth 20000 in
theorem gX0_give_X5_without : GoodIn wsX0_give (va_wsS RX0 43 yX5_without wsX5_without) := goodIn_app (goodIn_of _ (by decide +kernel)) ggX0_give_X5_without
theorem dX0_give_0 : decode cX0_give 0 = .ok (.aload_n 0, 1) := by decide +kernel
theorem dX0_give_1 : decode cX0_give 1 = .ok (.getfield 18, 3) := by decide +kernel
theorem dX0_give_4 : decode cX0_give 4 = .ok (.getfield 22, 3) := by decide +kernel
theorem dX0_give_7 : decode cX0_give 7 = .ok (.invokestatic 26, 3) := by decide +kernel
theorem dX0_give_10 : decode cX0_give 10 = .ok (.istore_n 1, 1) := by decide +kernel
theorem dX0_give_11 : decode cX0_give 11 = .ok (.aload_n 0, 1) := by decide +kernel
theorem dX0_give_12 : decode cX0_give 12 = .ok (.iconst 0, 1) := by decide +kernel
theorem dX0_give_13 : decode cX0_give 13 = .ok (.iload_n 1, 1) := by decide +kernel
theorem dX0_give_14 : decode cX0_give 14 = .ok (.invokevirtual 32, 3) := by decide +kernel
theorem dX0_give_17 : decode cX0_give 17 = .ok (.istore_n 2, 1) := by decide +kernel
theorem dX0_give_18 : decode cX0_give 18 = .ok (.iload_n 2, 1) := by decide +kernel
theorem dX0_give_19 : decode cX0_give 19 = .ok (.istore_n 3, 1) := by decide +kernel
theorem dX0_give_20 : decode cX0_give 20 = .ok (.iconst 0, 1) := by decide +kernel
theorem dX0_give_21 : decode cX0_give 21 = .ok (.istore 4, 2) := by decide +kernel
theorem dX0_give_23 : decode cX0_give 23 = .ok (.iload 4, 2) := by decide +kernel
theorem dX0_give_25 : decode cX0_give 25 = .ok (.aload_n 0, 1) := by decide +kernel
theorem dX0_give_26 : decode cX0_give 26 = .ok (.getfield 18, 3) := by decide +kernel
theorem dX0_give_29 : decode cX0_give 29 = .ok (.getfield 36, 3) := by decide +kernel
theorem dX0_give_32 : decode cX0_give 32 = .ok (.if_icmp .ge 51, 3) := by decide +kernel
theorem dX0_give_35 : decode cX0_give 35 = .ok (.aload_n 0, 1) := by decide +kernel
theorem dX0_give_36 : decode cX0_give 36 = .ok (.getfield 9, 3) := by decide +kernel
theorem dX0_give_39 : decode cX0_give 39 = .ok (.iload 4, 2) := by decide +kernel
theorem dX0_give_41 : decode cX0_give 41 = .ok (.aload_n 0, 1) := by decide +kernel
theorem dX0_give_42 : decode cX0_give 42 = .ok (.iload 4, 2) := by decide +kernel
theorem dX0_give_44 : decode cX0_give 44 = .ok (.iload_n 1, 1) := by decide +kernel
theorem dX0_give_45 : decode cX0_give 45 = .ok (.iload_n 3, 1) := by decide +kernel
theorem dX0_give_46 : decode cX0_give 46 = .ok (.invokevirtual 39, 3) := by decide +kernel
theorem dX0_give_49 : decode cX0_give 49 = .ok (.iastore, 1) := by decide +kernel
theorem dX0_give_50 : decode cX0_give 50 = .ok (.aload_n 0, 1) := by decide +kernel
theorem dX0_give_51 : decode cX0_give 51 = .ok (.getfield 9, 3) := by decide +kernel
theorem dX0_give_54 : decode cX0_give 54 = .ok (.iload 4, 2) := by decide +kernel
theorem dX0_give_56 : decode cX0_give 56 = .ok (.iaload, 1) := by decide +kernel
theorem dX0_give_57 : decode cX0_give 57 = .ok (.bipush (-9), 2) := by decide +kernel
theorem dX0_give_59 : decode cX0_give 59 = .ok (.if_icmp .eq 18, 3) := by decide +kernel
theorem dX0_give_62 : decode cX0_give 62 = .ok (.iload_n 1, 1) := by decide +kernel
theorem dX0_give_63 : decode cX0_give 63 = .ok (.aload_n 0, 1) := by decide +kernel
theorem dX0_give_64 : decode cX0_give 64 = .ok (.getfield 9, 3) := by decide +kernel
theorem dX0_give_67 : decode cX0_give 67 = .ok (.iload 4, 2) := by decide +kernel
theorem dX0_give_69 : decode cX0_give 69 = .ok (.iaload, 1) := by decide +kernel
theorem dX0_give_70 : decode cX0_give 70 = .ok (.invokestatic 43, 3) := by decide +kernel
theorem dX0_give_73 : decode cX0_give 73 = .ok (.istore_n 1, 1) := by decide +kernel
theorem dX0_give_74 : decode cX0_give 74 = .ok (.iinc 3 (-1), 3) := by decide +kernel
theorem dX0_give_77 : decode cX0_give 77 = .ok (.iinc 4 1, 3) := by decide +kernel
theorem dX0_give_80 : decode cX0_give 80 = .ok (.goto (-57), 3) := by decide +kernel
theorem dX0_give_83 : decode cX0_give 83 = .ok (.iload_n 2, 1) := by decide +kernel
theorem dX0_give_84 : decode cX0_give 84 = .ok (.ireturn, 1) := by decide +kernel
set_option maxRecDepth 20000 in
theorem ggX0_lowestStreetFor_X5_has : GoodIn wsX0_lowestStreetFor wsX5_has := goodIn_r _ [10] (by decide +kernel) (by decide +kernel)
set_option maxRecDepth 20000 in
theorem gX0_lowestStreetFor_X5_has : GoodIn wsX0_lowestStreetFor (va_wsS RX0 46 yX5_has wsX5_has) := goodIn_app (goodIn_of _ (by decide +kernel)) ggX0_lowestStreetFor_X5_has
set_option maxRecDepth 20000 in
theorem ggX0_lowestStreetFor_X5_without : GoodIn wsX0_lowestStreetFor wsX5_without := goodIn_r _ [13] (by decide +kernel) (by decide +kernel)
set_option maxRecDepth 20000 in
theorem gX0_lowestStreetFor_X5_without : GoodIn wsX0_lowestStreetFor (va_wsS RX0 43 yX5_without wsX5_without) := goodIn_app (goodIn_of _ (by decide +kernel)) ggX0_lowestStreetFor_X5_without
set_option maxRecDepth 20000 in
theorem ggX0_lowestStreetFor_X0_mostFrom : GoodIn wsX0_lowestStreetFor wsX0_mostFrom := goodIn_r _ [18, 19, 20, 21, 22, 23, 24, 25, 17, 26, 1, 27, 28, 5, 6, 29, 30, 31, 32, 2, 3, 4, 7, 8, 9, 10, 33, 34, 35, 36, 37, 38, 39, 40, 41, 42, 43, 44, 45, 46, 47, 48, 49, 50, 51] (by decide +kernel) (by decide +kernel)
set_option maxRecDepth 20000 in
theorem gX0_lowestStreetFor_X0_mostFrom : GoodIn wsX0_lowestStreetFor (wsV RX0 32 RX0 yX0_mostFrom wsX0_mostFrom) := goodIn_app (goodIn_of _ (by decide +kernel)) ggX0_lowestStreetFor_X0_mostFrom
theorem dX0_lowestStreetFor_0 : decode cX0_lowestStreetFor 0 = .ok (.iconst 0, 1) := by decide +kernel
theorem dX0_lowestStreetFor_1 : decode cX0_lowestStreetFor 1 = .ok (.istore 4, 2) := by decide +kernel
theorem dX0_lowestStreetFor_3 : decode cX0_lowestStreetFor 3 = .ok (.iload 4, 2) := by decide +kernel
theorem dX0_lowestStreetFor_5 : decode cX0_lowestStreetFor 5 = .ok (.aload_n 0, 1) := by decide +kernel
theorem dX0_lowestStreetFor_6 : decode cX0_lowestStreetFor 6 = .ok (.getfield 18, 3) := by decide +kernel
theorem dX0_lowestStreetFor_9 : decode cX0_lowestStreetFor 9 = .ok (.getfield 22, 3) := by decide +kernel
theorem dX0_lowestStreetFor_12 : decode cX0_lowestStreetFor 12 = .ok (.if_icmp .ge 62, 3) := by decide +kernel
theorem dX0_lowestStreetFor_15 : decode cX0_lowestStreetFor 15 = .ok (.iload_n 2, 1) := by decide +kernel
theorem dX0_lowestStreetFor_16 : decode cX0_lowestStreetFor 16 = .ok (.iload 4, 2) := by decide +kernel
theorem dX0_lowestStreetFor_18 : decode cX0_lowestStreetFor 18 = .ok (.invokestatic 46, 3) := by decide +kernel
theorem dX0_lowestStreetFor_21 : decode cX0_lowestStreetFor 21 = .ok (.ifCond .eq 47, 3) := by decide +kernel
theorem dX0_lowestStreetFor_24 : decode cX0_lowestStreetFor 24 = .ok (.aload_n 0, 1) := by decide +kernel
theorem dX0_lowestStreetFor_25 : decode cX0_lowestStreetFor 25 = .ok (.getfield 18, 3) := by decide +kernel
theorem dX0_lowestStreetFor_28 : decode cX0_lowestStreetFor 28 = .ok (.getfield 50, 3) := by decide +kernel
theorem dX0_lowestStreetFor_31 : decode cX0_lowestStreetFor 31 = .ok (.iload 4, 2) := by decide +kernel
theorem dX0_lowestStreetFor_33 : decode cX0_lowestStreetFor 33 = .ok (.iaload, 1) := by decide +kernel
theorem dX0_lowestStreetFor_34 : decode cX0_lowestStreetFor 34 = .ok (.aload_n 0, 1) := by decide +kernel
theorem dX0_lowestStreetFor_35 : decode cX0_lowestStreetFor 35 = .ok (.getfield 18, 3) := by decide +kernel
theorem dX0_lowestStreetFor_38 : decode cX0_lowestStreetFor 38 = .ok (.getfield 53, 3) := by decide +kernel
theorem dX0_lowestStreetFor_41 : decode cX0_lowestStreetFor 41 = .ok (.iload_n 1, 1) := by decide +kernel
theorem dX0_lowestStreetFor_42 : decode cX0_lowestStreetFor 42 = .ok (.iaload, 1) := by decide +kernel
theorem dX0_lowestStreetFor_43 : decode cX0_lowestStreetFor 43 = .ok (.if_icmp .lt 25, 3) := by decide +kernel
theorem dX0_lowestStreetFor_46 : decode cX0_lowestStreetFor 46 = .ok (.iconst 1, 1) := by decide +kernel
theorem dX0_lowestStreetFor_47 : decode cX0_lowestStreetFor 47 = .ok (.aload_n 0, 1) := by decide +kernel
theorem dX0_lowestStreetFor_48 : decode cX0_lowestStreetFor 48 = .ok (.iload_n 1, 1) := by decide +kernel
theorem dX0_lowestStreetFor_49 : decode cX0_lowestStreetFor 49 = .ok (.iconst 1, 1) := by decide +kernel
theorem dX0_lowestStreetFor_50 : decode cX0_lowestStreetFor 50 = .ok (.iadd, 1) := by decide +kernel
theorem dX0_lowestStreetFor_51 : decode cX0_lowestStreetFor 51 = .ok (.iload_n 2, 1) := by decide +kernel
theorem dX0_lowestStreetFor_52 : decode cX0_lowestStreetFor 52 = .ok (.iload 4, 2) := by decide +kernel
theorem dX0_lowestStreetFor_54 : decode cX0_lowestStreetFor 54 = .ok (.invokestatic 43, 3) := by decide +kernel
theorem dX0_lowestStreetFor_57 : decode cX0_lowestStreetFor 57 = .ok (.invokevirtual 32, 3) := by decide +kernel
theorem dX0_lowestStreetFor_60 : decode cX0_lowestStreetFor 60 = .ok (.iadd, 1) := by decide +kernel
theorem dX0_lowestStreetFor_61 : decode cX0_lowestStreetFor 61 = .ok (.iload_n 3, 1) := by decide +kernel
theorem dX0_lowestStreetFor_62 : decode cX0_lowestStreetFor 62 = .ok (.if_icmp .ne 6, 3) := by decide +kernel
theorem dX0_lowestStreetFor_65 : decode cX0_lowestStreetFor 65 = .ok (.iload 4, 2) := by decide +kernel
theorem dX0_lowestStreetFor_67 : decode cX0_lowestStreetFor 67 = .ok (.ireturn, 1) := by decide +kernel
theorem dX0_lowestStreetFor_68 : decode cX0_lowestStreetFor 68 = .ok (.iinc 4 1, 3) := by decide +kernel
theorem dX0_lowestStreetFor_71 : decode cX0_lowestStreetFor 71 = .ok (.goto (-68), 3) := by decide +kernel
theorem dX0_lowestStreetFor_74 : decode cX0_lowestStreetFor 74 = .ok (.bipush (-9), 2) := by decide +kernel
theorem dX0_lowestStreetFor_76 : decode cX0_lowestStreetFor 76 = .ok (.ireturn, 1) := by decide +kernel
set_option maxRecDepth 20000 in
theorem ggX0_mostFrom_X0_wantingFrom : GoodIn wsX0_mostFrom wsX0_wantingFrom := goodIn_r _ [9, 10, 11, 12, 13, 14, 26, 27, 28, 29, 30, 31, 32, 33, 34, 35, 36, 37, 38, 39, 40, 41, 42, 43, 44] (by decide +kernel) (by decide +kernel)
set_option maxRecDepth 20000 in
theorem gX0_mostFrom_X0_wantingFrom : GoodIn wsX0_mostFrom (wsV RX0 56 RX0 yX0_wantingFrom wsX0_wantingFrom) := goodIn_app (goodIn_of _ (by decide +kernel)) ggX0_mostFrom_X0_wantingFrom
set_option maxRecDepth 20000 in
theorem ggX0_mostFrom_X0_freeOf : GoodIn wsX0_mostFrom wsX0_freeOf := goodIn_r _ [18, 10, 19, 20, 21, 22, 23, 24, 25, 26, 27, 28, 29, 30, 31, 32, 33, 34, 35, 36, 37, 38, 39, 40, 41, 42, 43, 44] (by decide +kernel) (by decide +kernel)
set_option maxRecDepth 20000 in
theorem gX0_mostFrom_X0_freeOf : GoodIn wsX0_mostFrom (wsV RX0 59 RX0 yX0_freeOf wsX0_freeOf) := goodIn_app (goodIn_of _ (by decide +kernel)) ggX0_mostFrom_X0_freeOf
theorem dX0_mostFrom_0 : decode cX0_mostFrom 0 = .ok (.iconst 0, 1) := by decide +kernel
theorem dX0_mostFrom_1 : decode cX0_mostFrom 1 = .ok (.istore_n 3, 1) := by decide +kernel
theorem dX0_mostFrom_2 : decode cX0_mostFrom 2 = .ok (.iconst 0, 1) := by decide +kernel
theorem dX0_mostFrom_3 : decode cX0_mostFrom 3 = .ok (.istore 4, 2) := by decide +kernel
theorem dX0_mostFrom_5 : decode cX0_mostFrom 5 = .ok (.iconst 1, 1) := by decide +kernel
theorem dX0_mostFrom_6 : decode cX0_mostFrom 6 = .ok (.istore 5, 2) := by decide +kernel
theorem dX0_mostFrom_8 : decode cX0_mostFrom 8 = .ok (.iload 5, 2) := by decide +kernel
theorem dX0_mostFrom_10 : decode cX0_mostFrom 10 = .ok (.bipush 10, 2) := by decide +kernel
theorem dX0_mostFrom_12 : decode cX0_mostFrom 12 = .ok (.if_icmp .gt 47, 3) := by decide +kernel
theorem dX0_mostFrom_15 : decode cX0_mostFrom 15 = .ok (.iload 4, 2) := by decide +kernel
theorem dX0_mostFrom_17 : decode cX0_mostFrom 17 = .ok (.aload_n 0, 1) := by decide +kernel
theorem dX0_mostFrom_18 : decode cX0_mostFrom 18 = .ok (.iload_n 1, 1) := by decide +kernel
theorem dX0_mostFrom_19 : decode cX0_mostFrom 19 = .ok (.iload 5, 2) := by decide +kernel
theorem dX0_mostFrom_21 : decode cX0_mostFrom 21 = .ok (.invokevirtual 56, 3) := by decide +kernel
theorem dX0_mostFrom_24 : decode cX0_mostFrom 24 = .ok (.iadd, 1) := by decide +kernel
theorem dX0_mostFrom_25 : decode cX0_mostFrom 25 = .ok (.istore 4, 2) := by decide +kernel
theorem dX0_mostFrom_27 : decode cX0_mostFrom 27 = .ok (.iload 4, 2) := by decide +kernel
theorem dX0_mostFrom_29 : decode cX0_mostFrom 29 = .ok (.aload_n 0, 1) := by decide +kernel
theorem dX0_mostFrom_30 : decode cX0_mostFrom 30 = .ok (.iload_n 2, 1) := by decide +kernel
theorem dX0_mostFrom_31 : decode cX0_mostFrom 31 = .ok (.iload 5, 2) := by decide +kernel
theorem dX0_mostFrom_33 : decode cX0_mostFrom 33 = .ok (.invokevirtual 59, 3) := by decide +kernel
theorem dX0_mostFrom_36 : decode cX0_mostFrom 36 = .ok (.invokestatic 62, 3) := by decide +kernel
theorem dX0_mostFrom_39 : decode cX0_mostFrom 39 = .ok (.istore 6, 2) := by decide +kernel
theorem dX0_mostFrom_41 : decode cX0_mostFrom 41 = .ok (.iload_n 3, 1) := by decide +kernel
theorem dX0_mostFrom_42 : decode cX0_mostFrom 42 = .ok (.iload 6, 2) := by decide +kernel
theorem dX0_mostFrom_44 : decode cX0_mostFrom 44 = .ok (.iadd, 1) := by decide +kernel
theorem dX0_mostFrom_45 : decode cX0_mostFrom 45 = .ok (.istore_n 3, 1) := by decide +kernel
theorem dX0_mostFrom_46 : decode cX0_mostFrom 46 = .ok (.iload 4, 2) := by decide +kernel
theorem dX0_mostFrom_48 : decode cX0_mostFrom 48 = .ok (.iload 6, 2) := by decide +kernel
theorem dX0_mostFrom_50 : decode cX0_mostFrom 50 = .ok (.isub, 1) := by decide +kernel
theorem dX0_mostFrom_51 : decode cX0_mostFrom 51 = .ok (.istore 4, 2) := by decide +kernel
theorem dX0_mostFrom_53 : decode cX0_mostFrom 53 = .ok (.iinc 5 1, 3) := by decide +kernel
theorem dX0_mostFrom_56 : decode cX0_mostFrom 56 = .ok (.goto (-48), 3) := by decide +kernel
theorem dX0_mostFrom_59 : decode cX0_mostFrom 59 = .ok (.iload_n 3, 1) := by decide +kernel
theorem dX0_mostFrom_60 : decode cX0_mostFrom 60 = .ok (.ireturn, 1) := by decide +kernel
theorem dX0_wantingFrom_0 : decode cX0_wantingFrom 0 = .ok (.iconst 0, 1) := by decide +kernel
theorem dX0_wantingFrom_1 : decode cX0_wantingFrom 1 = .ok (.istore_n 3, 1) := by decide +kernel
theorem dX0_wantingFrom_2 : decode cX0_wantingFrom 2 = .ok (.iload_n 1, 1) := by decide +kernel
theorem dX0_wantingFrom_3 : decode cX0_wantingFrom 3 = .ok (.istore 4, 2) := by decide +kernel
theorem dX0_wantingFrom_5 : decode cX0_wantingFrom 5 = .ok (.iload 4, 2) := by decide +kernel
theorem dX0_wantingFrom_7 : decode cX0_wantingFrom 7 = .ok (.aload_n 0, 1) := by decide +kernel
theorem dX0_wantingFrom_8 : decode cX0_wantingFrom 8 = .ok (.getfield 18, 3) := by decide +kernel
theorem dX0_wantingFrom_11 : decode cX0_wantingFrom 11 = .ok (.getfield 36, 3) := by decide +kernel
theorem dX0_wantingFrom_14 : decode cX0_wantingFrom 14 = .ok (.if_icmp .ge 26, 3) := by decide +kernel
theorem dX0_wantingFrom_17 : decode cX0_wantingFrom 17 = .ok (.aload_n 0, 1) := by decide +kernel
theorem dX0_wantingFrom_18 : decode cX0_wantingFrom 18 = .ok (.getfield 18, 3) := by decide +kernel
theorem dX0_wantingFrom_21 : decode cX0_wantingFrom 21 = .ok (.getfield 53, 3) := by decide +kernel
theorem dX0_wantingFrom_24 : decode cX0_wantingFrom 24 = .ok (.iload 4, 2) := by decide +kernel
theorem dX0_wantingFrom_26 : decode cX0_wantingFrom 26 = .ok (.iaload, 1) := by decide +kernel
theorem dX0_wantingFrom_27 : decode cX0_wantingFrom 27 = .ok (.iload_n 2, 1) := by decide +kernel
theorem dX0_wantingFrom_28 : decode cX0_wantingFrom 28 = .ok (.if_icmp .ne 6, 3) := by decide +kernel
theorem dX0_wantingFrom_31 : decode cX0_wantingFrom 31 = .ok (.iinc 3 1, 3) := by decide +kernel
theorem dX0_wantingFrom_34 : decode cX0_wantingFrom 34 = .ok (.iinc 4 1, 3) := by decide +kernel
theorem dX0_wantingFrom_37 : decode cX0_wantingFrom 37 = .ok (.goto (-32), 3) := by decide +kernel
theorem dX0_wantingFrom_40 : decode cX0_wantingFrom 40 = .ok (.iload_n 3, 1) := by decide +kernel
theorem dX0_wantingFrom_41 : decode cX0_wantingFrom 41 = .ok (.ireturn, 1) := by decide +kernel
set_option maxRecDepth 20000 in
theorem ggX0_freeOf_X5_has : GoodIn wsX0_freeOf wsX5_has := goodIn_r _ [8] (by decide +kernel) (by decide +kernel)
set_option maxRecDepth 20000 in
theorem gX0_freeOf_X5_has : GoodIn wsX0_freeOf (va_wsS RX0 46 yX5_has wsX5_has) := goodIn_app (goodIn_of _ (by decide +kernel)) ggX0_freeOf_X5_has
theorem dX0_freeOf_0 : decode cX0_freeOf 0 = .ok (.iconst 0, 1) := by decide +kernel
theorem dX0_freeOf_1 : decode cX0_freeOf 1 = .ok (.istore_n 3, 1) := by decide +kernel
theorem dX0_freeOf_2 : decode cX0_freeOf 2 = .ok (.iconst 0, 1) := by decide +kernel
theorem dX0_freeOf_3 : decode cX0_freeOf 3 = .ok (.istore 4, 2) := by decide +kernel
theorem dX0_freeOf_5 : decode cX0_freeOf 5 = .ok (.iload 4, 2) := by decide +kernel
theorem dX0_freeOf_7 : decode cX0_freeOf 7 = .ok (.aload_n 0, 1) := by decide +kernel
theorem dX0_freeOf_8 : decode cX0_freeOf 8 = .ok (.getfield 18, 3) := by decide +kernel
theorem dX0_freeOf_11 : decode cX0_freeOf 11 = .ok (.getfield 22, 3) := by decide +kernel
theorem dX0_freeOf_14 : decode cX0_freeOf 14 = .ok (.if_icmp .ge 35, 3) := by decide +kernel
theorem dX0_freeOf_17 : decode cX0_freeOf 17 = .ok (.iload_n 1, 1) := by decide +kernel
theorem dX0_freeOf_18 : decode cX0_freeOf 18 = .ok (.iload 4, 2) := by decide +kernel
theorem dX0_freeOf_20 : decode cX0_freeOf 20 = .ok (.invokestatic 46, 3) := by decide +kernel
theorem dX0_freeOf_23 : decode cX0_freeOf 23 = .ok (.ifCond .eq 20, 3) := by decide +kernel
theorem dX0_freeOf_26 : decode cX0_freeOf 26 = .ok (.aload_n 0, 1) := by decide +kernel
theorem dX0_freeOf_27 : decode cX0_freeOf 27 = .ok (.getfield 18, 3) := by decide +kernel
theorem dX0_freeOf_30 : decode cX0_freeOf 30 = .ok (.getfield 50, 3) := by decide +kernel
theorem dX0_freeOf_33 : decode cX0_freeOf 33 = .ok (.iload 4, 2) := by decide +kernel
theorem dX0_freeOf_35 : decode cX0_freeOf 35 = .ok (.iaload, 1) := by decide +kernel
theorem dX0_freeOf_36 : decode cX0_freeOf 36 = .ok (.iload_n 2, 1) := by decide +kernel
theorem dX0_freeOf_37 : decode cX0_freeOf 37 = .ok (.if_icmp .ne 6, 3) := by decide +kernel
theorem dX0_freeOf_40 : decode cX0_freeOf 40 = .ok (.iinc 3 1, 3) := by decide +kernel
theorem dX0_freeOf_43 : decode cX0_freeOf 43 = .ok (.iinc 4 1, 3) := by decide +kernel
theorem dX0_freeOf_46 : decode cX0_freeOf 46 = .ok (.goto (-41), 3) := by decide +kernel
theorem dX0_freeOf_49 : decode cX0_freeOf 49 = .ok (.iload_n 3, 1) := by decide +kernel
theorem dX0_freeOf_50 : decode cX0_freeOf 50 = .ok (.ireturn, 1) := by decide +kernel
theorem dX1_init_0 : decode cX1_init 0 = .ok (.aload_n 0, 1) := by decide +kernel
theorem dX1_init_1 : decode cX1_init 1 = .ok (.invokespecial 3, 3) := by decide +kernel
theorem dX1_init_4 : decode cX1_init 4 = .ok (.aload_n 0, 1) := by decide +kernel
theorem dX1_init_5 : decode cX1_init 5 = .ok (.iconst 4, 1) := by decide +kernel
theorem dX1_init_6 : decode cX1_init 6 = .ok (.newarray .int, 2) := by decide +kernel
theorem dX1_init_8 : decode cX1_init 8 = .ok (.putfield 9, 3) := by decide +kernel
theorem dX1_init_11 : decode cX1_init 11 = .ok (.aload_n 0, 1) := by decide +kernel
theorem dX1_init_12 : decode cX1_init 12 = .ok (.iconst 4, 1) := by decide +kernel
theorem dX1_init_13 : decode cX1_init 13 = .ok (.newarray .int, 2) := by decide +kernel
theorem dX1_init_15 : decode cX1_init 15 = .ok (.putfield 15, 3) := by decide +kernel
theorem dX1_init_18 : decode cX1_init 18 = .ok (.aload_n 0, 1) := by decide +kernel
theorem dX1_init_19 : decode cX1_init 19 = .ok (.bipush 11, 2) := by decide +kernel
theorem dX1_init_21 : decode cX1_init 21 = .ok (.newarray .int, 2) := by decide +kernel
theorem dX1_init_23 : decode cX1_init 23 = .ok (.putfield 18, 3) := by decide +kernel
theorem dX1_init_26 : decode cX1_init 26 = .ok (.return_, 1) := by decide +kernel
theorem dX1_add_0 : decode cX1_add 0 = .ok (.aload_n 0, 1) := by decide +kernel
theorem dX1_add_1 : decode cX1_add 1 = .ok (.getfield 21, 3) := by decide +kernel
theorem dX1_add_4 : decode cX1_add 4 = .ok (.iconst 4, 1) := by decide +kernel
theorem dX1_add_5 : decode cX1_add 5 = .ok (.if_icmp .ge 33, 3) := by decide +kernel
theorem dX1_add_8 : decode cX1_add 8 = .ok (.aload_n 0, 1) := by decide +kernel
theorem dX1_add_9 : decode cX1_add 9 = .ok (.getfield 9, 3) := by decide +kernel
theorem dX1_add_12 : decode cX1_add 12 = .ok (.aload_n 0, 1) := by decide +kernel
theorem dX1_add_13 : decode cX1_add 13 = .ok (.getfield 21, 3) := by decide +kernel
theorem dX1_add_16 : decode cX1_add 16 = .ok (.iload_n 1, 1) := by decide +kernel
theorem dX1_add_17 : decode cX1_add 17 = .ok (.iastore, 1) := by decide +kernel
theorem dX1_add_18 : decode cX1_add 18 = .ok (.aload_n 0, 1) := by decide +kernel
theorem dX1_add_19 : decode cX1_add 19 = .ok (.getfield 15, 3) := by decide +kernel
theorem dX1_add_22 : decode cX1_add 22 = .ok (.aload_n 0, 1) := by decide +kernel
theorem dX1_add_23 : decode cX1_add 23 = .ok (.getfield 21, 3) := by decide +kernel
theorem dX1_add_26 : decode cX1_add 26 = .ok (.iload_n 2, 1) := by decide +kernel
theorem dX1_add_27 : decode cX1_add 27 = .ok (.iastore, 1) := by decide +kernel
theorem dX1_add_28 : decode cX1_add 28 = .ok (.aload_n 0, 1) := by decide +kernel
theorem dX1_add_29 : decode cX1_add 29 = .ok (.dup, 1) := by decide +kernel
theorem dX1_add_30 : decode cX1_add 30 = .ok (.getfield 21, 3) := by decide +kernel
theorem dX1_add_33 : decode cX1_add 33 = .ok (.iconst 1, 1) := by decide +kernel
theorem dX1_add_34 : decode cX1_add 34 = .ok (.iadd, 1) := by decide +kernel
theorem dX1_add_35 : decode cX1_add 35 = .ok (.putfield 21, 3) := by decide +kernel
theorem dX1_add_38 : decode cX1_add 38 = .ok (.return_, 1) := by decide +kernel
set_option maxRecDepth 20000 in
theorem ggX1_manyDeeds_X1_areSo : GoodIn wsX1_manyDeeds wsX1_areSo := goodIn_r _ [5, 6, 7, 8, 9, 10, 4, 11, 12, 13, 14, 15, 16, 17, 18, 19, 20, 21, 22, 23] (by decide +kernel) (by decide +kernel)
set_option maxRecDepth 20000 in
theorem gX1_manyDeeds_X1_areSo : GoodIn wsX1_manyDeeds (wsV RX1 25 RX1 yX1_areSo wsX1_areSo) := goodIn_app (goodIn_of _ (by decide +kernel)) ggX1_manyDeeds_X1_areSo
theorem dX1_manyDeeds_0 : decode cX1_manyDeeds 0 = .ok (.iconst 0, 1) := by decide +kernel
theorem dX1_manyDeeds_1 : decode cX1_manyDeeds 1 = .ok (.istore_n 1, 1) := by decide +kernel
theorem dX1_manyDeeds_2 : decode cX1_manyDeeds 2 = .ok (.iconst 0, 1) := by decide +kernel
theorem dX1_manyDeeds_3 : decode cX1_manyDeeds 3 = .ok (.istore_n 2, 1) := by decide +kernel
theorem dX1_manyDeeds_4 : decode cX1_manyDeeds 4 = .ok (.iload_n 2, 1) := by decide +kernel
theorem dX1_manyDeeds_5 : decode cX1_manyDeeds 5 = .ok (.bipush 100, 2) := by decide +kernel
theorem dX1_manyDeeds_7 : decode cX1_manyDeeds 7 = .ok (.if_icmp .ge 20, 3) := by decide +kernel
theorem dX1_manyDeeds_10 : decode cX1_manyDeeds 10 = .ok (.aload_n 0, 1) := by decide +kernel
theorem dX1_manyDeeds_11 : decode cX1_manyDeeds 11 = .ok (.iload_n 2, 1) := by decide +kernel
theorem dX1_manyDeeds_12 : decode cX1_manyDeeds 12 = .ok (.invokevirtual 25, 3) := by decide +kernel
theorem dX1_manyDeeds_15 : decode cX1_manyDeeds 15 = .ok (.ifCond .eq 6, 3) := by decide +kernel
theorem dX1_manyDeeds_18 : decode cX1_manyDeeds 18 = .ok (.iinc 1 1, 3) := by decide +kernel
theorem dX1_manyDeeds_21 : decode cX1_manyDeeds 21 = .ok (.iinc 2 1, 3) := by decide +kernel
theorem dX1_manyDeeds_24 : decode cX1_manyDeeds 24 = .ok (.goto (-20), 3) := by decide +kernel
theorem dX1_manyDeeds_27 : decode cX1_manyDeeds 27 = .ok (.iload_n 1, 1) := by decide +kernel
theorem dX1_manyDeeds_28 : decode cX1_manyDeeds 28 = .ok (.ireturn, 1) := by decide +kernel
set_option maxRecDepth 20000 in
theorem ggX1_firstDeeds_X1_areSo : GoodIn wsX1_firstDeeds wsX1_areSo := goodIn_r _ [5, 6, 7, 8, 9, 10, 4, 11, 12, 13, 14, 15, 16, 17, 18, 19, 20, 21, 22, 23] (by decide +kernel) (by decide +kernel)
set_option maxRecDepth 20000 in
theorem gX1_firstDeeds_X1_areSo : GoodIn wsX1_firstDeeds (wsV RX1 25 RX1 yX1_areSo wsX1_areSo) := goodIn_app (goodIn_of _ (by decide +kernel)) ggX1_firstDeeds_X1_areSo
theorem dX1_firstDeeds_0 : decode cX1_firstDeeds 0 = .ok (.iconst 0, 1) := by decide +kernel
theorem dX1_firstDeeds_1 : decode cX1_firstDeeds 1 = .ok (.istore_n 1, 1) := by decide +kernel
theorem dX1_firstDeeds_2 : decode cX1_firstDeeds 2 = .ok (.iload_n 1, 1) := by decide +kernel
theorem dX1_firstDeeds_3 : decode cX1_firstDeeds 3 = .ok (.bipush 100, 2) := by decide +kernel
theorem dX1_firstDeeds_5 : decode cX1_firstDeeds 5 = .ok (.if_icmp .ge 19, 3) := by decide +kernel
theorem dX1_firstDeeds_8 : decode cX1_firstDeeds 8 = .ok (.aload_n 0, 1) := by decide +kernel
theorem dX1_firstDeeds_9 : decode cX1_firstDeeds 9 = .ok (.iload_n 1, 1) := by decide +kernel
theorem dX1_firstDeeds_10 : decode cX1_firstDeeds 10 = .ok (.invokevirtual 25, 3) := by decide +kernel
theorem dX1_firstDeeds_13 : decode cX1_firstDeeds 13 = .ok (.ifCond .eq 5, 3) := by decide +kernel
theorem dX1_firstDeeds_16 : decode cX1_firstDeeds 16 = .ok (.iload_n 1, 1) := by decide +kernel
theorem dX1_firstDeeds_17 : decode cX1_firstDeeds 17 = .ok (.ireturn, 1) := by decide +kernel
theorem dX1_firstDeeds_18 : decode cX1_firstDeeds 18 = .ok (.iinc 1 1, 3) := by decide +kernel
theorem dX1_firstDeeds_21 : decode cX1_firstDeeds 21 = .ok (.goto (-19), 3) := by decide +kernel
theorem dX1_firstDeeds_24 : decode cX1_firstDeeds 24 = .ok (.bipush (-9), 2) := by decide +kernel
theorem dX1_firstDeeds_26 : decode cX1_firstDeeds 26 = .ok (.ireturn, 1) := by decide +kernel
set_option maxRecDepth 20000 in
theorem ggX1_mostAlike_J7_fill_53178 : GoodIn wsX1_mostAlike wsJ7_fill_53178 := goodIn_r _ [9] (by decide +kernel) (by decide +kernel)
set_option maxRecDepth 20000 in
theorem gX1_mostAlike_J7_fill_53178 : GoodIn wsX1_mostAlike (va_wsS RX1 29 yJ7_fill_53178 wsJ7_fill_53178) := goodIn_app (goodIn_of _ (by decide +kernel)) ggX1_mostAlike_J7_fill_53178
set_option maxRecDepth 20000 in
theorem ggX1_mostAlike_X1_areSo : GoodIn wsX1_mostAlike wsX1_areSo := goodIn_r _ [14, 15, 16, 17, 18, 19, 13, 20, 21, 22, 23, 24, 25, 3, 4, 5, 26, 27, 28, 29] (by decide +kernel) (by decide +kernel)
set_option maxRecDepth 20000 in
theorem gX1_mostAlike_X1_areSo : GoodIn wsX1_mostAlike (wsV RX1 25 RX1 yX1_areSo wsX1_areSo) := goodIn_app (goodIn_of _ (by decide +kernel)) ggX1_mostAlike_X1_areSo
set_option maxRecDepth 20000 in
theorem ggX1_mostAlike_X1_widthBy : GoodIn wsX1_mostAlike wsX1_widthBy := goodIn_r _ [20, 21, 22, 23, 24, 25, 3, 4, 5] (by decide +kernel) (by decide +kernel)
set_option maxRecDepth 20000 in
theorem gX1_mostAlike_X1_widthBy : GoodIn wsX1_mostAlike (va_wsS RX1 35 yX1_widthBy wsX1_widthBy) := goodIn_app (goodIn_of _ (by decide +kernel)) ggX1_mostAlike_X1_widthBy
theorem dX1_mostAlike_0 : decode cX1_mostAlike 0 = .ok (.aload_n 0, 1) := by decide +kernel
theorem dX1_mostAlike_1 : decode cX1_mostAlike 1 = .ok (.getfield 18, 3) := by decide +kernel
theorem dX1_mostAlike_4 : decode cX1_mostAlike 4 = .ok (.iconst 0, 1) := by decide +kernel
theorem dX1_mostAlike_5 : decode cX1_mostAlike 5 = .ok (.invokestatic 29, 3) := by decide +kernel
theorem dX1_mostAlike_8 : decode cX1_mostAlike 8 = .ok (.iconst 0, 1) := by decide +kernel
theorem dX1_mostAlike_9 : decode cX1_mostAlike 9 = .ok (.istore_n 2, 1) := by decide +kernel
theorem dX1_mostAlike_10 : decode cX1_mostAlike 10 = .ok (.iconst 0, 1) := by decide +kernel
theorem dX1_mostAlike_11 : decode cX1_mostAlike 11 = .ok (.istore_n 3, 1) := by decide +kernel
theorem dX1_mostAlike_12 : decode cX1_mostAlike 12 = .ok (.iload_n 3, 1) := by decide +kernel
theorem dX1_mostAlike_13 : decode cX1_mostAlike 13 = .ok (.bipush 100, 2) := by decide +kernel
theorem dX1_mostAlike_15 : decode cX1_mostAlike 15 = .ok (.if_icmp .ge 47, 3) := by decide +kernel
theorem dX1_mostAlike_18 : decode cX1_mostAlike 18 = .ok (.aload_n 0, 1) := by decide +kernel
theorem dX1_mostAlike_19 : decode cX1_mostAlike 19 = .ok (.iload_n 3, 1) := by decide +kernel
theorem dX1_mostAlike_20 : decode cX1_mostAlike 20 = .ok (.invokevirtual 25, 3) := by decide +kernel
theorem dX1_mostAlike_23 : decode cX1_mostAlike 23 = .ok (.ifCond .eq 33, 3) := by decide +kernel
theorem dX1_mostAlike_26 : decode cX1_mostAlike 26 = .ok (.iload_n 3, 1) := by decide +kernel
theorem dX1_mostAlike_27 : decode cX1_mostAlike 27 = .ok (.iload_n 1, 1) := by decide +kernel
theorem dX1_mostAlike_28 : decode cX1_mostAlike 28 = .ok (.invokestatic 35, 3) := by decide +kernel
theorem dX1_mostAlike_31 : decode cX1_mostAlike 31 = .ok (.istore 4, 2) := by decide +kernel
theorem dX1_mostAlike_33 : decode cX1_mostAlike 33 = .ok (.aload_n 0, 1) := by decide +kernel
theorem dX1_mostAlike_34 : decode cX1_mostAlike 34 = .ok (.getfield 18, 3) := by decide +kernel
theorem dX1_mostAlike_37 : decode cX1_mostAlike 37 = .ok (.iload 4, 2) := by decide +kernel
theorem dX1_mostAlike_39 : decode cX1_mostAlike 39 = .ok (.dup2, 1) := by decide +kernel
theorem dX1_mostAlike_40 : decode cX1_mostAlike 40 = .ok (.iaload, 1) := by decide +kernel
theorem dX1_mostAlike_41 : decode cX1_mostAlike 41 = .ok (.iconst 1, 1) := by decide +kernel
theorem dX1_mostAlike_42 : decode cX1_mostAlike 42 = .ok (.iadd, 1) := by decide +kernel
theorem dX1_mostAlike_43 : decode cX1_mostAlike 43 = .ok (.iastore, 1) := by decide +kernel
theorem dX1_mostAlike_44 : decode cX1_mostAlike 44 = .ok (.iload_n 2, 1) := by decide +kernel
theorem dX1_mostAlike_45 : decode cX1_mostAlike 45 = .ok (.aload_n 0, 1) := by decide +kernel
theorem dX1_mostAlike_46 : decode cX1_mostAlike 46 = .ok (.getfield 18, 3) := by decide +kernel
theorem dX1_mostAlike_49 : decode cX1_mostAlike 49 = .ok (.iload 4, 2) := by decide +kernel
theorem dX1_mostAlike_51 : decode cX1_mostAlike 51 = .ok (.iaload, 1) := by decide +kernel
theorem dX1_mostAlike_52 : decode cX1_mostAlike 52 = .ok (.invokestatic 39, 3) := by decide +kernel
theorem dX1_mostAlike_55 : decode cX1_mostAlike 55 = .ok (.istore_n 2, 1) := by decide +kernel
theorem dX1_mostAlike_56 : decode cX1_mostAlike 56 = .ok (.iinc 3 1, 3) := by decide +kernel
theorem dX1_mostAlike_59 : decode cX1_mostAlike 59 = .ok (.goto (-47), 3) := by decide +kernel
theorem dX1_mostAlike_62 : decode cX1_mostAlike 62 = .ok (.iload_n 2, 1) := by decide +kernel
theorem dX1_mostAlike_63 : decode cX1_mostAlike 63 = .ok (.ireturn, 1) := by decide +kernel
set_option maxRecDepth 20000 in
theorem ggX1_areSo_X1_widthBy : GoodIn wsX1_areSo wsX1_widthBy := goodIn_r _ [7, 8, 9, 10, 11, 12, 13, 14, 15] (by decide +kernel) (by decide +kernel)
set_option maxRecDepth 20000 in
theorem gX1_areSo_X1_widthBy : GoodIn wsX1_areSo (va_wsS RX1 35 yX1_widthBy wsX1_widthBy) := goodIn_app (goodIn_of _ (by decide +kernel)) ggX1_areSo_X1_widthBy
theorem dX1_areSo_0 : decode cX1_areSo 0 = .ok (.iconst 0, 1) := by decide +kernel
theorem dX1_areSo_1 : decode cX1_areSo 1 = .ok (.istore_n 2, 1) := by decide +kernel
theorem dX1_areSo_2 : decode cX1_areSo 2 = .ok (.iload_n 2, 1) := by decide +kernel
theorem dX1_areSo_3 : decode cX1_areSo 3 = .ok (.aload_n 0, 1) := by decide +kernel
theorem dX1_areSo_4 : decode cX1_areSo 4 = .ok (.getfield 21, 3) := by decide +kernel
theorem dX1_areSo_7 : decode cX1_areSo 7 = .ok (.if_icmp .ge 30, 3) := by decide +kernel
theorem dX1_areSo_10 : decode cX1_areSo 10 = .ok (.iload_n 1, 1) := by decide +kernel
theorem dX1_areSo_11 : decode cX1_areSo 11 = .ok (.aload_n 0, 1) := by decide +kernel
theorem dX1_areSo_12 : decode cX1_areSo 12 = .ok (.getfield 15, 3) := by decide +kernel
theorem dX1_areSo_15 : decode cX1_areSo 15 = .ok (.iload_n 2, 1) := by decide +kernel
theorem dX1_areSo_16 : decode cX1_areSo 16 = .ok (.iaload, 1) := by decide +kernel
theorem dX1_areSo_17 : decode cX1_areSo 17 = .ok (.invokestatic 35, 3) := by decide +kernel
theorem dX1_areSo_20 : decode cX1_areSo 20 = .ok (.aload_n 0, 1) := by decide +kernel
theorem dX1_areSo_21 : decode cX1_areSo 21 = .ok (.getfield 9, 3) := by decide +kernel
theorem dX1_areSo_24 : decode cX1_areSo 24 = .ok (.iload_n 2, 1) := by decide +kernel
theorem dX1_areSo_25 : decode cX1_areSo 25 = .ok (.iaload, 1) := by decide +kernel
theorem dX1_areSo_26 : decode cX1_areSo 26 = .ok (.if_icmp .eq 5, 3) := by decide +kernel
theorem dX1_areSo_29 : decode cX1_areSo 29 = .ok (.iconst 0, 1) := by decide +kernel
theorem dX1_areSo_30 : decode cX1_areSo 30 = .ok (.ireturn, 1) := by decide +kernel
theorem dX1_areSo_31 : decode cX1_areSo 31 = .ok (.iinc 2 1, 3) := by decide +kernel
theorem dX1_areSo_34 : decode cX1_areSo 34 = .ok (.goto (-32), 3) := by decide +kernel
theorem dX1_areSo_37 : decode cX1_areSo 37 = .ok (.iconst 1, 1) := by decide +kernel
theorem dX1_areSo_38 : decode cX1_areSo 38 = .ok (.ireturn, 1) := by decide +kernel
set_option maxRecDepth 20000 in
theorem ggX1_widthBy_X2_widthBy : GoodIn wsX1_widthBy wsX2_widthBy := goodIn_r _ [4, 5, 6, 7, 8] (by decide +kernel) (by decide +kernel)
set_option maxRecDepth 20000 in
theorem gX1_widthBy_X2_widthBy : GoodIn wsX1_widthBy (va_wsS RX1 44 yX2_widthBy wsX2_widthBy) := goodIn_app (goodIn_of _ (by decide +kernel)) ggX1_widthBy_X2_widthBy
theorem dX1_widthBy_0 : decode cX1_widthBy 0 = .ok (.iload_n 0, 1) := by decide +kernel
theorem dX1_widthBy_1 : decode cX1_widthBy 1 = .ok (.bipush 10, 2) := by decide +kernel
theorem dX1_widthBy_3 : decode cX1_widthBy 3 = .ok (.idiv, 1) := by decide +kernel
theorem dX1_widthBy_4 : decode cX1_widthBy 4 = .ok (.iload_n 0, 1) := by decide +kernel
theorem dX1_widthBy_5 : decode cX1_widthBy 5 = .ok (.bipush 10, 2) := by decide +kernel
theorem dX1_widthBy_7 : decode cX1_widthBy 7 = .ok (.irem, 1) := by decide +kernel
theorem dX1_widthBy_8 : decode cX1_widthBy 8 = .ok (.iload_n 1, 1) := by decide +kernel
theorem dX1_widthBy_9 : decode cX1_widthBy 9 = .ok (.invokestatic 44, 3) := by decide +kernel
theorem dX1_widthBy_12 : decode cX1_widthBy 12 = .ok (.ireturn, 1) := by decide +kernel
theorem dX2_init_0 : decode cX2_init 0 = .ok (.aload_n 0, 1) := by decide +kernel
theorem dX2_init_1 : decode cX2_init 1 = .ok (.invokespecial 3, 3) := by decide +kernel
theorem dX2_init_4 : decode cX2_init 4 = .ok (.aload_n 0, 1) := by decide +kernel
theorem dX2_init_5 : decode cX2_init 5 = .ok (.bipush 9, 2) := by decide +kernel
theorem dX2_init_7 : decode cX2_init 7 = .ok (.newarray .int, 2) := by decide +kernel
theorem dX2_init_9 : decode cX2_init 9 = .ok (.putfield 9, 3) := by decide +kernel
theorem dX2_init_12 : decode cX2_init 12 = .ok (.aload_n 0, 1) := by decide +kernel
theorem dX2_init_13 : decode cX2_init 13 = .ok (.bipush 9, 2) := by decide +kernel
theorem dX2_init_15 : decode cX2_init 15 = .ok (.newarray .int, 2) := by decide +kernel
theorem dX2_init_17 : decode cX2_init 17 = .ok (.putfield 15, 3) := by decide +kernel
theorem dX2_init_20 : decode cX2_init 20 = .ok (.aload_n 0, 1) := by decide +kernel
theorem dX2_init_21 : decode cX2_init 21 = .ok (.bipush 9, 2) := by decide +kernel
theorem dX2_init_23 : decode cX2_init 23 = .ok (.newarray .int, 2) := by decide +kernel
theorem dX2_init_25 : decode cX2_init 25 = .ok (.putfield 18, 3) := by decide +kernel
theorem dX2_init_28 : decode cX2_init 28 = .ok (.aload_n 0, 1) := by decide +kernel
theorem dX2_init_29 : decode cX2_init 29 = .ok (.bipush 6, 2) := by decide +kernel
theorem dX2_init_31 : decode cX2_init 31 = .ok (.newarray .int, 2) := by decide +kernel
theorem dX2_init_33 : decode cX2_init 33 = .ok (.putfield 21, 3) := by decide +kernel
theorem dX2_init_36 : decode cX2_init 36 = .ok (.return_, 1) := by decide +kernel
set_option maxRecDepth 20000 in
theorem ggX2_begin_J7_fill_53178 : GoodIn wsX2_begin wsJ7_fill_53178 := goodIn_r _ [15] (by decide +kernel) (by decide +kernel)
set_option maxRecDepth 20000 in
theorem gX2_begin_J7_fill_53178 : GoodIn wsX2_begin (va_wsS RX2 35 yJ7_fill_53178 wsJ7_fill_53178) := goodIn_app (goodIn_of _ (by decide +kernel)) ggX2_begin_J7_fill_53178
theorem dX2_begin_0 : decode cX2_begin 0 = .ok (.aload_n 1, 1) := by decide +kernel
theorem dX2_begin_1 : decode cX2_begin 1 = .ok (.getfield 24, 3) := by decide +kernel
theorem dX2_begin_4 : decode cX2_begin 4 = .ok (.iconst 0, 1) := by decide +kernel
theorem dX2_begin_5 : decode cX2_begin 5 = .ok (.aload_n 0, 1) := by decide +kernel
theorem dX2_begin_6 : decode cX2_begin 6 = .ok (.getfield 9, 3) := by decide +kernel
theorem dX2_begin_9 : decode cX2_begin 9 = .ok (.iconst 0, 1) := by decide +kernel
theorem dX2_begin_10 : decode cX2_begin 10 = .ok (.bipush 9, 2) := by decide +kernel
theorem dX2_begin_12 : decode cX2_begin 12 = .ok (.invokestatic 29, 3) := by decide +kernel
theorem dX2_begin_15 : decode cX2_begin 15 = .ok (.aload_n 0, 1) := by decide +kernel
theorem dX2_begin_16 : decode cX2_begin 16 = .ok (.getfield 15, 3) := by decide +kernel
theorem dX2_begin_19 : decode cX2_begin 19 = .ok (.iconst 0, 1) := by decide +kernel
theorem dX2_begin_20 : decode cX2_begin 20 = .ok (.invokestatic 35, 3) := by decide +kernel
theorem dX2_begin_23 : decode cX2_begin 23 = .ok (.aload_n 0, 1) := by decide +kernel
theorem dX2_begin_24 : decode cX2_begin 24 = .ok (.getfield 18, 3) := by decide +kernel
theorem dX2_begin_27 : decode cX2_begin 27 = .ok (.iconst 0, 1) := by decide +kernel
theorem dX2_begin_28 : decode cX2_begin 28 = .ok (.invokestatic 35, 3) := by decide +kernel
theorem dX2_begin_31 : decode cX2_begin 31 = .ok (.aload_n 1, 1) := by decide +kernel
theorem dX2_begin_32 : decode cX2_begin 32 = .ok (.getfield 41, 3) := by decide +kernel
theorem dX2_begin_35 : decode cX2_begin 35 = .ok (.iconst 0, 1) := by decide +kernel
theorem dX2_begin_36 : decode cX2_begin 36 = .ok (.aload_n 0, 1) := by decide +kernel
theorem dX2_begin_37 : decode cX2_begin 37 = .ok (.getfield 21, 3) := by decide +kernel
theorem dX2_begin_40 : decode cX2_begin 40 = .ok (.iconst 0, 1) := by decide +kernel
theorem dX2_begin_41 : decode cX2_begin 41 = .ok (.bipush 6, 2) := by decide +kernel
theorem dX2_begin_43 : decode cX2_begin 43 = .ok (.invokestatic 29, 3) := by decide +kernel
theorem dX2_begin_46 : decode cX2_begin 46 = .ok (.aload_n 0, 1) := by decide +kernel
theorem dX2_begin_47 : decode cX2_begin 47 = .ok (.iconst 0, 1) := by decide +kernel
theorem dX2_begin_48 : decode cX2_begin 48 = .ok (.putfield 42, 3) := by decide +kernel
theorem dX2_begin_51 : decode cX2_begin 51 = .ok (.return_, 1) := by decide +kernel
theorem dX2_become_0 : decode cX2_become 0 = .ok (.aload_n 1, 1) := by decide +kernel
theorem dX2_become_1 : decode cX2_become 1 = .ok (.getfield 9, 3) := by decide +kernel
theorem dX2_become_4 : decode cX2_become 4 = .ok (.iconst 0, 1) := by decide +kernel
theorem dX2_become_5 : decode cX2_become 5 = .ok (.aload_n 0, 1) := by decide +kernel
theorem dX2_become_6 : decode cX2_become 6 = .ok (.getfield 9, 3) := by decide +kernel
theorem dX2_become_9 : decode cX2_become 9 = .ok (.iconst 0, 1) := by decide +kernel
theorem dX2_become_10 : decode cX2_become 10 = .ok (.bipush 9, 2) := by decide +kernel
theorem dX2_become_12 : decode cX2_become 12 = .ok (.invokestatic 29, 3) := by decide +kernel
theorem dX2_become_15 : decode cX2_become 15 = .ok (.aload_n 1, 1) := by decide +kernel
theorem dX2_become_16 : decode cX2_become 16 = .ok (.getfield 15, 3) := by decide +kernel
theorem dX2_become_19 : decode cX2_become 19 = .ok (.iconst 0, 1) := by decide +kernel
theorem dX2_become_20 : decode cX2_become 20 = .ok (.aload_n 0, 1) := by decide +kernel
theorem dX2_become_21 : decode cX2_become 21 = .ok (.getfield 15, 3) := by decide +kernel
theorem dX2_become_24 : decode cX2_become 24 = .ok (.iconst 0, 1) := by decide +kernel
theorem dX2_become_25 : decode cX2_become 25 = .ok (.bipush 9, 2) := by decide +kernel
theorem dX2_become_27 : decode cX2_become 27 = .ok (.invokestatic 29, 3) := by decide +kernel
theorem dX2_become_30 : decode cX2_become 30 = .ok (.aload_n 1, 1) := by decide +kernel
theorem dX2_become_31 : decode cX2_become 31 = .ok (.getfield 18, 3) := by decide +kernel
theorem dX2_become_34 : decode cX2_become 34 = .ok (.iconst 0, 1) := by decide +kernel
theorem dX2_become_35 : decode cX2_become 35 = .ok (.aload_n 0, 1) := by decide +kernel
theorem dX2_become_36 : decode cX2_become 36 = .ok (.getfield 18, 3) := by decide +kernel
theorem dX2_become_39 : decode cX2_become 39 = .ok (.iconst 0, 1) := by decide +kernel
theorem dX2_become_40 : decode cX2_become 40 = .ok (.bipush 9, 2) := by decide +kernel
theorem dX2_become_42 : decode cX2_become 42 = .ok (.invokestatic 29, 3) := by decide +kernel
theorem dX2_become_45 : decode cX2_become 45 = .ok (.aload_n 1, 1) := by decide +kernel
theorem dX2_become_46 : decode cX2_become 46 = .ok (.getfield 21, 3) := by decide +kernel
theorem dX2_become_49 : decode cX2_become 49 = .ok (.iconst 0, 1) := by decide +kernel
theorem dX2_become_50 : decode cX2_become 50 = .ok (.aload_n 0, 1) := by decide +kernel
theorem dX2_become_51 : decode cX2_become 51 = .ok (.getfield 21, 3) := by decide +kernel
theorem dX2_become_54 : decode cX2_become 54 = .ok (.iconst 0, 1) := by decide +kernel
theorem dX2_become_55 : decode cX2_become 55 = .ok (.bipush 6, 2) := by decide +kernel
theorem dX2_become_57 : decode cX2_become 57 = .ok (.invokestatic 29, 3) := by decide +kernel
theorem dX2_become_60 : decode cX2_become 60 = .ok (.aload_n 0, 1) := by decide +kernel
theorem dX2_become_61 : decode cX2_become 61 = .ok (.aload_n 1, 1) := by decide +kernel
theorem dX2_become_62 : decode cX2_become 62 = .ok (.getfield 42, 3) := by decide +kernel
theorem dX2_become_65 : decode cX2_become 65 = .ok (.putfield 42, 3) := by decide +kernel
theorem dX2_become_68 : decode cX2_become 68 = .ok (.return_, 1) := by decide +kernel
set_option maxRecDepth 20000 in
theorem ggX2_widthOf_X2_widthBy : GoodIn wsX2_widthOf wsX2_widthBy := goodIn_r _ [7, 8, 9, 10, 11] (by decide +kernel) (by decide +kernel)
set_option maxRecDepth 20000 in
theorem gX2_widthOf_X2_widthBy : GoodIn wsX2_widthOf (va_wsS RX2 46 yX2_widthBy wsX2_widthBy) := goodIn_app (goodIn_of _ (by decide +kernel)) ggX2_widthOf_X2_widthBy
theorem dX2_widthOf_0 : decode cX2_widthOf 0 = .ok (.aload_n 0, 1) := by decide +kernel
theorem dX2_widthOf_1 : decode cX2_widthOf 1 = .ok (.getfield 9, 3) := by decide +kernel
theorem dX2_widthOf_4 : decode cX2_widthOf 4 = .ok (.iload_n 1, 1) := by decide +kernel
theorem dX2_widthOf_5 : decode cX2_widthOf 5 = .ok (.iaload, 1) := by decide +kernel
theorem dX2_widthOf_6 : decode cX2_widthOf 6 = .ok (.aload_n 0, 1) := by decide +kernel
theorem dX2_widthOf_7 : decode cX2_widthOf 7 = .ok (.getfield 18, 3) := by decide +kernel
theorem dX2_widthOf_10 : decode cX2_widthOf 10 = .ok (.iload_n 1, 1) := by decide +kernel
theorem dX2_widthOf_11 : decode cX2_widthOf 11 = .ok (.iaload, 1) := by decide +kernel
theorem dX2_widthOf_12 : decode cX2_widthOf 12 = .ok (.aload_n 0, 1) := by decide +kernel
theorem dX2_widthOf_13 : decode cX2_widthOf 13 = .ok (.getfield 42, 3) := by decide +kernel
theorem dX2_widthOf_16 : decode cX2_widthOf 16 = .ok (.invokestatic 46, 3) := by decide +kernel
theorem dX2_widthOf_19 : decode cX2_widthOf 19 = .ok (.ireturn, 1) := by decide +kernel
theorem dX2_widthBy_0 : decode cX2_widthBy 0 = .ok (.iconst 1, 1) := by decide +kernel
theorem dX2_widthBy_1 : decode cX2_widthBy 1 = .ok (.iload_n 2, 1) := by decide +kernel
theorem dX2_widthBy_2 : decode cX2_widthBy 2 = .ok (.iconst 1, 1) := by decide +kernel
theorem dX2_widthBy_3 : decode cX2_widthBy 3 = .ok (.if_icmp .ne 7, 3) := by decide +kernel
theorem dX2_widthBy_6 : decode cX2_widthBy 6 = .ok (.iload_n 0, 1) := by decide +kernel
theorem dX2_widthBy_7 : decode cX2_widthBy 7 = .ok (.goto 8, 3) := by decide +kernel
theorem dX2_widthBy_10 : decode cX2_widthBy 10 = .ok (.iload_n 0, 1) := by decide +kernel
theorem dX2_widthBy_11 : decode cX2_widthBy 11 = .ok (.iload_n 1, 1) := by decide +kernel
theorem dX2_widthBy_12 : decode cX2_widthBy 12 = .ok (.invokestatic 50, 3) := by decide +kernel
theorem dX2_widthBy_15 : decode cX2_widthBy 15 = .ok (.iadd, 1) := by decide +kernel
theorem dX2_widthBy_16 : decode cX2_widthBy 16 = .ok (.ireturn, 1) := by decide +kernel
set_option maxRecDepth 20000 in
theorem ggX3_init_X2_init : GoodIn wsX3_init wsX2_init := goodIn_r _ [11, 12, 2, 3, 13, 14, 15, 16, 17, 18, 19, 20, 21, 22] (by decide +kernel) (by decide +kernel)
set_option maxRecDepth 20000 in
theorem gX3_init_X2_init : GoodIn wsX3_init (wsX2_init) := ggX3_init_X2_init
theorem dX3_init_0 : decode cX3_init 0 = .ok (.aload_n 0, 1) := by decide +kernel
theorem dX3_init_1 : decode cX3_init 1 = .ok (.invokespecial 3, 3) := by decide +kernel
theorem dX3_init_4 : decode cX3_init 4 = .ok (.aload_n 0, 1) := by decide +kernel
theorem dX3_init_5 : decode cX3_init 5 = .ok (.new 9, 3) := by decide +kernel
theorem dX3_init_8 : decode cX3_init 8 = .ok (.dup, 1) := by decide +kernel
theorem dX3_init_9 : decode cX3_init 9 = .ok (.invokespecial 11, 3) := by decide +kernel
theorem dX3_init_12 : decode cX3_init 12 = .ok (.putfield 12, 3) := by decide +kernel
theorem dX3_init_15 : decode cX3_init 15 = .ok (.aload_n 0, 1) := by decide +kernel
theorem dX3_init_16 : decode cX3_init 16 = .ok (.bipush 10, 2) := by decide +kernel
theorem dX3_init_18 : decode cX3_init 18 = .ok (.anewarray 9, 3) := by decide +kernel
theorem dX3_init_21 : decode cX3_init 21 = .ok (.putfield 18, 3) := by decide +kernel
theorem dX3_init_24 : decode cX3_init 24 = .ok (.iconst 0, 1) := by decide +kernel
theorem dX3_init_25 : decode cX3_init 25 = .ok (.istore_n 1, 1) := by decide +kernel
theorem dX3_init_26 : decode cX3_init 26 = .ok (.iload_n 1, 1) := by decide +kernel
theorem dX3_init_27 : decode cX3_init 27 = .ok (.bipush 10, 2) := by decide +kernel
theorem dX3_init_29 : decode cX3_init 29 = .ok (.if_icmp .ge 22, 3) := by decide +kernel
theorem dX3_init_32 : decode cX3_init 32 = .ok (.aload_n 0, 1) := by decide +kernel
theorem dX3_init_33 : decode cX3_init 33 = .ok (.getfield 18, 3) := by decide +kernel
theorem dX3_init_36 : decode cX3_init 36 = .ok (.iload_n 1, 1) := by decide +kernel
theorem dX3_init_37 : decode cX3_init 37 = .ok (.new 9, 3) := by decide +kernel
theorem dX3_init_40 : decode cX3_init 40 = .ok (.dup, 1) := by decide +kernel
theorem dX3_init_41 : decode cX3_init 41 = .ok (.invokespecial 11, 3) := by decide +kernel
theorem dX3_init_44 : decode cX3_init 44 = .ok (.aastore, 1) := by decide +kernel
theorem dX3_init_45 : decode cX3_init 45 = .ok (.iinc 1 1, 3) := by decide +kernel
theorem dX3_init_48 : decode cX3_init 48 = .ok (.goto (-22), 3) := by decide +kernel
theorem dX3_init_51 : decode cX3_init 51 = .ok (.return_, 1) := by decide +kernel
set_option maxRecDepth 20000 in
theorem ggX3_begin_X2_begin : GoodIn wsX3_begin wsX2_begin := goodIn_r _ [7, 8, 9, 10, 11, 12, 13, 14, 15, 16, 17, 18, 19, 20, 21, 22, 26, 27, 28, 29, 30, 31, 32, 33, 34, 35, 36, 37, 38, 39, 40, 41, 42, 43, 44, 45, 46, 47] (by decide +kernel) (by decide +kernel)
set_option maxRecDepth 20000 in
theorem gX3_begin_X2_begin : GoodIn wsX3_begin (wsV RX3 22 RX2 yX2_begin wsX2_begin) := goodIn_app (goodIn_of _ (by decide +kernel)) ggX3_begin_X2_begin
theorem dX3_begin_0 : decode cX3_begin 0 = .ok (.aload_n 0, 1) := by decide +kernel
theorem dX3_begin_1 : decode cX3_begin 1 = .ok (.getfield 12, 3) := by decide +kernel
theorem dX3_begin_4 : decode cX3_begin 4 = .ok (.aload_n 1, 1) := by decide +kernel
theorem dX3_begin_5 : decode cX3_begin 5 = .ok (.invokevirtual 22, 3) := by decide +kernel
theorem dX3_begin_8 : decode cX3_begin 8 = .ok (.aload_n 0, 1) := by decide +kernel
theorem dX3_begin_9 : decode cX3_begin 9 = .ok (.iconst 0, 1) := by decide +kernel
theorem dX3_begin_10 : decode cX3_begin 10 = .ok (.putfield 26, 3) := by decide +kernel
theorem dX3_begin_13 : decode cX3_begin 13 = .ok (.return_, 1) := by decide +kernel
set_option maxRecDepth 20000 in
theorem ggX3_become_X2_become : GoodIn wsX3_become wsX2_become := goodIn_r _ [8, 9, 10, 11, 12, 13, 14, 15, 16, 17, 21, 22, 23, 24, 25] (by decide +kernel) (by decide +kernel)
set_option maxRecDepth 20000 in
theorem gX3_become_X2_become : GoodIn wsX3_become (wsV RX3 30 RX2 yX2_become wsX2_become) := goodIn_app (goodIn_of _ (by decide +kernel)) ggX3_become_X2_become
theorem dX3_become_0 : decode cX3_become 0 = .ok (.aload_n 0, 1) := by decide +kernel
theorem dX3_become_1 : decode cX3_become 1 = .ok (.getfield 12, 3) := by decide +kernel
theorem dX3_become_4 : decode cX3_become 4 = .ok (.aload_n 1, 1) := by decide +kernel
theorem dX3_become_5 : decode cX3_become 5 = .ok (.getfield 12, 3) := by decide +kernel
theorem dX3_become_8 : decode cX3_become 8 = .ok (.invokevirtual 30, 3) := by decide +kernel
theorem dX3_become_11 : decode cX3_become 11 = .ok (.iconst 0, 1) := by decide +kernel
theorem dX3_become_12 : decode cX3_become 12 = .ok (.istore_n 2, 1) := by decide +kernel
theorem dX3_become_13 : decode cX3_become 13 = .ok (.iload_n 2, 1) := by decide +kernel
theorem dX3_become_14 : decode cX3_become 14 = .ok (.bipush 10, 2) := by decide +kernel
theorem dX3_become_16 : decode cX3_become 16 = .ok (.if_icmp .ge 24, 3) := by decide +kernel
theorem dX3_become_19 : decode cX3_become 19 = .ok (.aload_n 0, 1) := by decide +kernel
theorem dX3_become_20 : decode cX3_become 20 = .ok (.getfield 18, 3) := by decide +kernel
theorem dX3_become_23 : decode cX3_become 23 = .ok (.iload_n 2, 1) := by decide +kernel
theorem dX3_become_24 : decode cX3_become 24 = .ok (.aaload, 1) := by decide +kernel
theorem dX3_become_25 : decode cX3_become 25 = .ok (.aload_n 1, 1) := by decide +kernel
theorem dX3_become_26 : decode cX3_become 26 = .ok (.getfield 18, 3) := by decide +kernel
theorem dX3_become_29 : decode cX3_become 29 = .ok (.iload_n 2, 1) := by decide +kernel
theorem dX3_become_30 : decode cX3_become 30 = .ok (.aaload, 1) := by decide +kernel
theorem dX3_become_31 : decode cX3_become 31 = .ok (.invokevirtual 30, 3) := by decide +kernel
theorem dX3_become_34 : decode cX3_become 34 = .ok (.iinc 2 1, 3) := by decide +kernel
theorem dX3_become_37 : decode cX3_become 37 = .ok (.goto (-24), 3) := by decide +kernel
theorem dX3_become_40 : decode cX3_become 40 = .ok (.aload_n 0, 1) := by decide +kernel
theorem dX3_become_41 : decode cX3_become 41 = .ok (.aload_n 1, 1) := by decide +kernel
theorem dX3_become_42 : decode cX3_become 42 = .ok (.getfield 26, 3) := by decide +kernel
theorem dX3_become_45 : decode cX3_become 45 = .ok (.putfield 26, 3) := by decide +kernel
theorem dX3_become_48 : decode cX3_become 48 = .ok (.return_, 1) := by decide +kernel
set_option maxRecDepth 20000 in
theorem ggX3_remember_X3_loseOldest : GoodIn wsX3_remember wsX3_loseOldest := goodIn_r _ [8, 2, 1, 23, 24, 25] (by decide +kernel) (by decide +kernel)
set_option maxRecDepth 20000 in
theorem gX3_remember_X3_loseOldest : GoodIn wsX3_remember (wsV RX3 34 RX3 yX3_loseOldest wsX3_loseOldest) := goodIn_app (goodIn_of _ (by decide +kernel)) ggX3_remember_X3_loseOldest
set_option maxRecDepth 20000 in
theorem ggX3_remember_X2_become : GoodIn wsX3_remember wsX2_become := goodIn_r _ [13, 14, 15, 16, 17, 18, 19, 20, 21, 22, 26, 27, 28, 29, 30] (by decide +kernel) (by decide +kernel)
set_option maxRecDepth 20000 in
theorem gX3_remember_X2_become : GoodIn wsX3_remember (wsV RX3 30 RX2 yX2_become wsX2_become) := goodIn_app (goodIn_of _ (by decide +kernel)) ggX3_remember_X2_become
theorem dX3_remember_0 : decode cX3_remember 0 = .ok (.aload_n 0, 1) := by decide +kernel
theorem dX3_remember_1 : decode cX3_remember 1 = .ok (.getfield 26, 3) := by decide +kernel
theorem dX3_remember_4 : decode cX3_remember 4 = .ok (.bipush 10, 2) := by decide +kernel
theorem dX3_remember_6 : decode cX3_remember 6 = .ok (.if_icmp .lt 7, 3) := by decide +kernel
theorem dX3_remember_9 : decode cX3_remember 9 = .ok (.aload_n 0, 1) := by decide +kernel
theorem dX3_remember_10 : decode cX3_remember 10 = .ok (.invokevirtual 34, 3) := by decide +kernel
theorem dX3_remember_13 : decode cX3_remember 13 = .ok (.aload_n 0, 1) := by decide +kernel
theorem dX3_remember_14 : decode cX3_remember 14 = .ok (.getfield 18, 3) := by decide +kernel
theorem dX3_remember_17 : decode cX3_remember 17 = .ok (.aload_n 0, 1) := by decide +kernel
theorem dX3_remember_18 : decode cX3_remember 18 = .ok (.getfield 26, 3) := by decide +kernel
theorem dX3_remember_21 : decode cX3_remember 21 = .ok (.aaload, 1) := by decide +kernel
theorem dX3_remember_22 : decode cX3_remember 22 = .ok (.aload_n 0, 1) := by decide +kernel
theorem dX3_remember_23 : decode cX3_remember 23 = .ok (.getfield 12, 3) := by decide +kernel
theorem dX3_remember_26 : decode cX3_remember 26 = .ok (.invokevirtual 30, 3) := by decide +kernel
theorem dX3_remember_29 : decode cX3_remember 29 = .ok (.aload_n 0, 1) := by decide +kernel
theorem dX3_remember_30 : decode cX3_remember 30 = .ok (.dup, 1) := by decide +kernel
theorem dX3_remember_31 : decode cX3_remember 31 = .ok (.getfield 26, 3) := by decide +kernel
theorem dX3_remember_34 : decode cX3_remember 34 = .ok (.iconst 1, 1) := by decide +kernel
theorem dX3_remember_35 : decode cX3_remember 35 = .ok (.iadd, 1) := by decide +kernel
theorem dX3_remember_36 : decode cX3_remember 36 = .ok (.putfield 26, 3) := by decide +kernel
theorem dX3_remember_39 : decode cX3_remember 39 = .ok (.return_, 1) := by decide +kernel
set_option maxRecDepth 20000 in
theorem ggX3_recall_X2_become : GoodIn wsX3_recall wsX2_become := goodIn_r _ [8, 9, 10, 11, 12, 13, 14, 15, 16, 17, 21, 22, 23, 24, 25] (by decide +kernel) (by decide +kernel)
set_option maxRecDepth 20000 in
theorem gX3_recall_X2_become : GoodIn wsX3_recall (wsV RX3 30 RX2 yX2_become wsX2_become) := goodIn_app (goodIn_of _ (by decide +kernel)) ggX3_recall_X2_become
theorem dX3_recall_0 : decode cX3_recall 0 = .ok (.aload_n 0, 1) := by decide +kernel
theorem dX3_recall_1 : decode cX3_recall 1 = .ok (.getfield 26, 3) := by decide +kernel
theorem dX3_recall_4 : decode cX3_recall 4 = .ok (.ifCond .le 29, 3) := by decide +kernel
theorem dX3_recall_7 : decode cX3_recall 7 = .ok (.aload_n 0, 1) := by decide +kernel
theorem dX3_recall_8 : decode cX3_recall 8 = .ok (.dup, 1) := by decide +kernel
theorem dX3_recall_9 : decode cX3_recall 9 = .ok (.getfield 26, 3) := by decide +kernel
theorem dX3_recall_12 : decode cX3_recall 12 = .ok (.iconst 1, 1) := by decide +kernel
theorem dX3_recall_13 : decode cX3_recall 13 = .ok (.isub, 1) := by decide +kernel
theorem dX3_recall_14 : decode cX3_recall 14 = .ok (.putfield 26, 3) := by decide +kernel
theorem dX3_recall_17 : decode cX3_recall 17 = .ok (.aload_n 0, 1) := by decide +kernel
theorem dX3_recall_18 : decode cX3_recall 18 = .ok (.getfield 12, 3) := by decide +kernel
theorem dX3_recall_21 : decode cX3_recall 21 = .ok (.aload_n 0, 1) := by decide +kernel
theorem dX3_recall_22 : decode cX3_recall 22 = .ok (.getfield 18, 3) := by decide +kernel
theorem dX3_recall_25 : decode cX3_recall 25 = .ok (.aload_n 0, 1) := by decide +kernel
theorem dX3_recall_26 : decode cX3_recall 26 = .ok (.getfield 26, 3) := by decide +kernel
theorem dX3_recall_29 : decode cX3_recall 29 = .ok (.aaload, 1) := by decide +kernel
theorem dX3_recall_30 : decode cX3_recall 30 = .ok (.invokevirtual 30, 3) := by decide +kernel
theorem dX3_recall_33 : decode cX3_recall 33 = .ok (.return_, 1) := by decide +kernel
theorem dX3_loseOldest_0 : decode cX3_loseOldest 0 = .ok (.aload_n 0, 1) := by decide +kernel
theorem dX3_loseOldest_1 : decode cX3_loseOldest 1 = .ok (.getfield 18, 3) := by decide +kernel
theorem dX3_loseOldest_4 : decode cX3_loseOldest 4 = .ok (.iconst 0, 1) := by decide +kernel
theorem dX3_loseOldest_5 : decode cX3_loseOldest 5 = .ok (.aaload, 1) := by decide +kernel
theorem dX3_loseOldest_6 : decode cX3_loseOldest 6 = .ok (.astore_n 1, 1) := by decide +kernel
theorem dX3_loseOldest_7 : decode cX3_loseOldest 7 = .ok (.iconst 1, 1) := by decide +kernel
theorem dX3_loseOldest_8 : decode cX3_loseOldest 8 = .ok (.istore_n 2, 1) := by decide +kernel
theorem dX3_loseOldest_9 : decode cX3_loseOldest 9 = .ok (.iload_n 2, 1) := by decide +kernel
theorem dX3_loseOldest_10 : decode cX3_loseOldest 10 = .ok (.bipush 10, 2) := by decide +kernel
theorem dX3_loseOldest_12 : decode cX3_loseOldest 12 = .ok (.if_icmp .ge 23, 3) := by decide +kernel
theorem dX3_loseOldest_15 : decode cX3_loseOldest 15 = .ok (.aload_n 0, 1) := by decide +kernel
theorem dX3_loseOldest_16 : decode cX3_loseOldest 16 = .ok (.getfield 18, 3) := by decide +kernel
theorem dX3_loseOldest_19 : decode cX3_loseOldest 19 = .ok (.iload_n 2, 1) := by decide +kernel
theorem dX3_loseOldest_20 : decode cX3_loseOldest 20 = .ok (.iconst 1, 1) := by decide +kernel
theorem dX3_loseOldest_21 : decode cX3_loseOldest 21 = .ok (.isub, 1) := by decide +kernel
theorem dX3_loseOldest_22 : decode cX3_loseOldest 22 = .ok (.aload_n 0, 1) := by decide +kernel
theorem dX3_loseOldest_23 : decode cX3_loseOldest 23 = .ok (.getfield 18, 3) := by decide +kernel
theorem dX3_loseOldest_26 : decode cX3_loseOldest 26 = .ok (.iload_n 2, 1) := by decide +kernel
theorem dX3_loseOldest_27 : decode cX3_loseOldest 27 = .ok (.aaload, 1) := by decide +kernel
theorem dX3_loseOldest_28 : decode cX3_loseOldest 28 = .ok (.aastore, 1) := by decide +kernel
theorem dX3_loseOldest_29 : decode cX3_loseOldest 29 = .ok (.iinc 2 1, 3) := by decide +kernel
theorem dX3_loseOldest_32 : decode cX3_loseOldest 32 = .ok (.goto (-23), 3) := by decide +kernel
theorem dX3_loseOldest_35 : decode cX3_loseOldest 35 = .ok (.aload_n 0, 1) := by decide +kernel
theorem dX3_loseOldest_36 : decode cX3_loseOldest 36 = .ok (.getfield 18, 3) := by decide +kernel
theorem dX3_loseOldest_39 : decode cX3_loseOldest 39 = .ok (.bipush 9, 2) := by decide +kernel
theorem dX3_loseOldest_41 : decode cX3_loseOldest 41 = .ok (.aload_n 1, 1) := by decide +kernel
theorem dX3_loseOldest_42 : decode cX3_loseOldest 42 = .ok (.aastore, 1) := by decide +kernel
theorem dX3_loseOldest_43 : decode cX3_loseOldest 43 = .ok (.aload_n 0, 1) := by decide +kernel
theorem dX3_loseOldest_44 : decode cX3_loseOldest 44 = .ok (.bipush 9, 2) := by decide +kernel
theorem dX3_loseOldest_46 : decode cX3_loseOldest 46 = .ok (.putfield 26, 3) := by decide +kernel
theorem dX3_loseOldest_49 : decode cX3_loseOldest 49 = .ok (.return_, 1) := by decide +kernel
set_option maxRecDepth 20000 in
theorem ggX4_init_X7_init : GoodIn wsX4_init wsX7_init := goodIn_r _ [6, 7, 8, 9, 10, 1, 11, 12, 13, 14, 15, 16, 17, 18, 19, 20, 21, 22, 23, 24, 25, 26, 27, 28, 29, 30, 31, 32] (by decide +kernel) (by decide +kernel)
set_option maxRecDepth 20000 in
theorem gX4_init_X7_init : GoodIn wsX4_init (wsX7_init) := ggX4_init_X7_init
theorem dX4_init_0 : decode cX4_init 0 = .ok (.aload_n 0, 1) := by decide +kernel
theorem dX4_init_1 : decode cX4_init 1 = .ok (.invokespecial 3, 3) := by decide +kernel
theorem dX4_init_4 : decode cX4_init 4 = .ok (.aload_n 0, 1) := by decide +kernel
theorem dX4_init_5 : decode cX4_init 5 = .ok (.bipush 9, 2) := by decide +kernel
theorem dX4_init_7 : decode cX4_init 7 = .ok (.newarray .int, 2) := by decide +kernel
theorem dX4_init_9 : decode cX4_init 9 = .ok (.putfield 9, 3) := by decide +kernel
theorem dX4_init_12 : decode cX4_init 12 = .ok (.return_, 1) := by decide +kernel
set_option maxRecDepth 20000 in
theorem ggX4_draw_X7_become : GoodIn wsX4_draw wsX7_become := goodIn_r _ [8, 9, 10, 11, 12, 13, 14, 15, 16, 17, 18, 19, 20, 36, 37, 38, 39, 40, 41, 42, 43, 44, 45, 46, 47, 48, 49, 50, 51, 52] (by decide +kernel) (by decide +kernel)
set_option maxRecDepth 20000 in
theorem gX4_draw_X7_become_u15X4 : GoodIn wsX4_draw (va_wsU RX4 15 RX4 "KindStreets$Town" ⟨"KindStreets$Plan", "become", "(LKindStreets$Town;)V"⟩ yX7_become wsX7_become) := goodIn_app (goodIn_of _ (by decide +kernel)) ggX4_draw_X7_become
set_option maxRecDepth 20000 in
theorem ggX4_draw_X2_widthOf : GoodIn wsX4_draw wsX2_widthOf := goodIn_r _ [25, 26, 27, 28, 29, 30, 24, 31, 32, 33, 34, 35, 53, 54, 55, 56, 57] (by decide +kernel) (by decide +kernel)
set_option maxRecDepth 20000 in
theorem gX4_draw_X2_widthOf : GoodIn wsX4_draw (wsV RX4 23 RX2 yX2_widthOf wsX2_widthOf) := goodIn_app (goodIn_of _ (by decide +kernel)) ggX4_draw_X2_widthOf
theorem dX4_draw_0 : decode cX4_draw 0 = .ok (.aload_n 0, 1) := by decide +kernel
theorem dX4_draw_1 : decode cX4_draw 1 = .ok (.aload_n 1, 1) := by decide +kernel
theorem dX4_draw_2 : decode cX4_draw 2 = .ok (.invokevirtual 15, 3) := by decide +kernel
theorem dX4_draw_5 : decode cX4_draw 5 = .ok (.iconst 0, 1) := by decide +kernel
theorem dX4_draw_6 : decode cX4_draw 6 = .ok (.istore_n 3, 1) := by decide +kernel
theorem dX4_draw_7 : decode cX4_draw 7 = .ok (.iload_n 3, 1) := by decide +kernel
theorem dX4_draw_8 : decode cX4_draw 8 = .ok (.aload_n 1, 1) := by decide +kernel
theorem dX4_draw_9 : decode cX4_draw 9 = .ok (.getfield 19, 3) := by decide +kernel
theorem dX4_draw_12 : decode cX4_draw 12 = .ok (.if_icmp .ge 20, 3) := by decide +kernel
theorem dX4_draw_15 : decode cX4_draw 15 = .ok (.aload_n 0, 1) := by decide +kernel
theorem dX4_draw_16 : decode cX4_draw 16 = .ok (.getfield 9, 3) := by decide +kernel
theorem dX4_draw_19 : decode cX4_draw 19 = .ok (.iload_n 3, 1) := by decide +kernel
theorem dX4_draw_20 : decode cX4_draw 20 = .ok (.aload_n 2, 1) := by decide +kernel
theorem dX4_draw_21 : decode cX4_draw 21 = .ok (.iload_n 3, 1) := by decide +kernel
theorem dX4_draw_22 : decode cX4_draw 22 = .ok (.invokevirtual 23, 3) := by decide +kernel
theorem dX4_draw_25 : decode cX4_draw 25 = .ok (.iastore, 1) := by decide +kernel
theorem dX4_draw_26 : decode cX4_draw 26 = .ok (.iinc 3 1, 3) := by decide +kernel
theorem dX4_draw_29 : decode cX4_draw 29 = .ok (.goto (-22), 3) := by decide +kernel
theorem dX4_draw_32 : decode cX4_draw 32 = .ok (.return_, 1) := by decide +kernel
set_option maxRecDepth 20000 in
theorem ggX4_leadsOut_X5_has : GoodIn wsX4_leadsOut wsX5_has := goodIn_r _ [8] (by decide +kernel) (by decide +kernel)
set_option maxRecDepth 20000 in
theorem gX4_leadsOut_X5_has : GoodIn wsX4_leadsOut (va_wsS RX4 32 yX5_has wsX5_has) := goodIn_app (goodIn_of _ (by decide +kernel)) ggX4_leadsOut_X5_has
theorem dX4_leadsOut_0 : decode cX4_leadsOut 0 = .ok (.iload_n 2, 1) := by decide +kernel
theorem dX4_leadsOut_1 : decode cX4_leadsOut 1 = .ok (.aload_n 0, 1) := by decide +kernel
theorem dX4_leadsOut_2 : decode cX4_leadsOut 2 = .ok (.getfield 29, 3) := by decide +kernel
theorem dX4_leadsOut_5 : decode cX4_leadsOut 5 = .ok (.iload_n 1, 1) := by decide +kernel
theorem dX4_leadsOut_6 : decode cX4_leadsOut 6 = .ok (.iaload, 1) := by decide +kernel
theorem dX4_leadsOut_7 : decode cX4_leadsOut 7 = .ok (.invokestatic 32, 3) := by decide +kernel
theorem dX4_leadsOut_10 : decode cX4_leadsOut 10 = .ok (.iload_n 2, 1) := by decide +kernel
theorem dX4_leadsOut_11 : decode cX4_leadsOut 11 = .ok (.aload_n 0, 1) := by decide +kernel
theorem dX4_leadsOut_12 : decode cX4_leadsOut 12 = .ok (.getfield 38, 3) := by decide +kernel
theorem dX4_leadsOut_15 : decode cX4_leadsOut 15 = .ok (.iload_n 1, 1) := by decide +kernel
theorem dX4_leadsOut_16 : decode cX4_leadsOut 16 = .ok (.iaload, 1) := by decide +kernel
theorem dX4_leadsOut_17 : decode cX4_leadsOut 17 = .ok (.invokestatic 32, 3) := by decide +kernel
theorem dX4_leadsOut_20 : decode cX4_leadsOut 20 = .ok (.if_icmp .eq 7, 3) := by decide +kernel
theorem dX4_leadsOut_23 : decode cX4_leadsOut 23 = .ok (.iconst 1, 1) := by decide +kernel
theorem dX4_leadsOut_24 : decode cX4_leadsOut 24 = .ok (.goto 4, 3) := by decide +kernel
theorem dX4_leadsOut_27 : decode cX4_leadsOut 27 = .ok (.iconst 0, 1) := by decide +kernel
theorem dX4_leadsOut_28 : decode cX4_leadsOut 28 = .ok (.ireturn, 1) := by decide +kernel
theorem dX5_has_0 : decode cX5_has 0 = .ok (.iload_n 0, 1) := by decide +kernel
theorem dX5_has_1 : decode cX5_has 1 = .ok (.iload_n 1, 1) := by decide +kernel
theorem dX5_has_2 : decode cX5_has 2 = .ok (.ishr, 1) := by decide +kernel
theorem dX5_has_3 : decode cX5_has 3 = .ok (.iconst 1, 1) := by decide +kernel
theorem dX5_has_4 : decode cX5_has 4 = .ok (.iand, 1) := by decide +kernel
theorem dX5_has_5 : decode cX5_has 5 = .ok (.iconst 1, 1) := by decide +kernel
theorem dX5_has_6 : decode cX5_has 6 = .ok (.if_icmp .ne 7, 3) := by decide +kernel
theorem dX5_has_9 : decode cX5_has 9 = .ok (.iconst 1, 1) := by decide +kernel
theorem dX5_has_10 : decode cX5_has 10 = .ok (.goto 4, 3) := by decide +kernel
theorem dX5_has_13 : decode cX5_has 13 = .ok (.iconst 0, 1) := by decide +kernel
theorem dX5_has_14 : decode cX5_has 14 = .ok (.ireturn, 1) := by decide +kernel
theorem dX5_without_0 : decode cX5_without 0 = .ok (.iload_n 0, 1) := by decide +kernel
theorem dX5_without_1 : decode cX5_without 1 = .ok (.iconst 1, 1) := by decide +kernel
theorem dX5_without_2 : decode cX5_without 2 = .ok (.iload_n 1, 1) := by decide +kernel
theorem dX5_without_3 : decode cX5_without 3 = .ok (.ishl, 1) := by decide +kernel
theorem dX5_without_4 : decode cX5_without 4 = .ok (.iconst (-1), 1) := by decide +kernel
theorem dX5_without_5 : decode cX5_without 5 = .ok (.ixor, 1) := by decide +kernel
theorem dX5_without_6 : decode cX5_without 6 = .ok (.iand, 1) := by decide +kernel
theorem dX5_without_7 : decode cX5_without 7 = .ok (.ireturn, 1) := by decide +kernel
theorem dX5_allOf_0 : decode cX5_allOf 0 = .ok (.iconst 1, 1) := by decide +kernel
theorem dX5_allOf_1 : decode cX5_allOf 1 = .ok (.iload_n 0, 1) := by decide +kernel
theorem dX5_allOf_2 : decode cX5_allOf 2 = .ok (.ishl, 1) := by decide +kernel
theorem dX5_allOf_3 : decode cX5_allOf 3 = .ok (.iconst 1, 1) := by decide +kernel
theorem dX5_allOf_4 : decode cX5_allOf 4 = .ok (.isub, 1) := by decide +kernel
theorem dX5_allOf_5 : decode cX5_allOf 5 = .ok (.ireturn, 1) := by decide +kernel
end
section
theorem dX6_init_0 : decode cX6_init 0 = .ok (.aload_n 0, 1) := by decide +kernel
theorem dX6_init_1 : decode cX6_init 1 = .ok (.invokespecial 3, 3) := by decide +kernel
theorem dX6_init_4 : decode cX6_init 4 = .ok (.aload_n 0, 1) := by decide +kernel
theorem dX6_init_5 : decode cX6_init 5 = .ok (.bipush 120, 2) := by decide +kernel
theorem dX6_init_7 : decode cX6_init 7 = .ok (.newarray .int, 2) := by decide +kernel
theorem dX6_init_9 : decode cX6_init 9 = .ok (.putfield 9, 3) := by decide +kernel
theorem dX6_init_12 : decode cX6_init 12 = .ok (.return_, 1) := by decide +kernel
theorem dX6_add_0 : decode cX6_add 0 = .ok (.aload_n 0, 1) := by decide +kernel
theorem dX6_add_1 : decode cX6_add 1 = .ok (.getfield 15, 3) := by decide +kernel
theorem dX6_add_4 : decode cX6_add 4 = .ok (.bipush 120, 2) := by decide +kernel
theorem dX6_add_6 : decode cX6_add 6 = .ok (.if_icmp .ge 23, 3) := by decide +kernel
theorem dX6_add_9 : decode cX6_add 9 = .ok (.aload_n 0, 1) := by decide +kernel
theorem dX6_add_10 : decode cX6_add 10 = .ok (.getfield 9, 3) := by decide +kernel
theorem dX6_add_13 : decode cX6_add 13 = .ok (.aload_n 0, 1) := by decide +kernel
theorem dX6_add_14 : decode cX6_add 14 = .ok (.getfield 15, 3) := by decide +kernel
theorem dX6_add_17 : decode cX6_add 17 = .ok (.iload_n 1, 1) := by decide +kernel
theorem dX6_add_18 : decode cX6_add 18 = .ok (.iastore, 1) := by decide +kernel
theorem dX6_add_19 : decode cX6_add 19 = .ok (.aload_n 0, 1) := by decide +kernel
theorem dX6_add_20 : decode cX6_add 20 = .ok (.dup, 1) := by decide +kernel
theorem dX6_add_21 : decode cX6_add 21 = .ok (.getfield 15, 3) := by decide +kernel
theorem dX6_add_24 : decode cX6_add 24 = .ok (.iconst 1, 1) := by decide +kernel
theorem dX6_add_25 : decode cX6_add 25 = .ok (.iadd, 1) := by decide +kernel
theorem dX6_add_26 : decode cX6_add 26 = .ok (.putfield 15, 3) := by decide +kernel
theorem dX6_add_29 : decode cX6_add 29 = .ok (.return_, 1) := by decide +kernel
set_option maxRecDepth 20000 in
theorem ggX6_readInto_X7_begin : GoodIn wsX6_readInto wsX7_begin := goodIn_r _ [8, 9, 10, 11, 77, 78, 79, 80, 81, 82, 83, 84, 85, 86, 87, 88, 89, 90, 91, 92, 93] (by decide +kernel) (by decide +kernel)
set_option maxRecDepth 20000 in
theorem gX6_readInto_X7_begin_u19X4 : GoodIn wsX6_readInto (va_wsU RX6 19 RX4 "KindStreets$Town" ⟨"KindStreets$Town", "begin", "()V"⟩ yX7_begin wsX7_begin) := goodIn_app (goodIn_of _ (by decide +kernel)) ggX6_readInto_X7_begin
set_option maxRecDepth 20000 in
theorem gX6_readInto_X7_begin : GoodIn wsX6_readInto (wsV RX6 19 RX7 yX7_begin wsX7_begin) := goodIn_app (goodIn_of _ (by decide +kernel)) ggX6_readInto_X7_begin
set_option maxRecDepth 20000 in
theorem ggX6_readInto_X6_skipBlanks : GoodIn wsX6_readInto wsX6_skipBlanks := goodIn_r _ [18, 1, 2, 19, 20, 21, 17, 22, 23, 74, 75, 76] (by decide +kernel) (by decide +kernel)
set_option maxRecDepth 20000 in
theorem gX6_readInto_X6_skipBlanks : GoodIn wsX6_readInto (wsV RX6 27 RX6 yX6_skipBlanks wsX6_skipBlanks) := goodIn_app (goodIn_of _ (by decide +kernel)) ggX6_readInto_X6_skipBlanks
set_option maxRecDepth 20000 in
theorem ggX6_readInto_X6_readItem : GoodIn wsX6_readInto wsX6_readItem := goodIn_r _ [27, 1, 28, 29, 30, 31, 32, 17, 33, 19, 20, 21, 22, 2, 23, 34, 35, 36, 37, 38, 39, 40, 41, 42, 43, 44, 45, 14, 15, 16, 18, 46, 47, 48, 49, 50, 51, 52, 53, 54, 55, 56, 57, 58, 59, 60, 61, 62, 63, 64, 65, 66, 67, 68, 69, 74, 75, 76, 77, 78, 79, 80, 81, 82, 83, 84, 85, 86, 87, 88, 89, 90, 91, 92, 93] (by decide +kernel) (by decide +kernel)
set_option maxRecDepth 20000 in
theorem gX6_readInto_X6_readItem : GoodIn wsX6_readInto (wsV RX6 30 RX6 yX6_readItem wsX6_readItem) := goodIn_app (goodIn_of _ (by decide +kernel)) ggX6_readInto_X6_readItem
set_option maxRecDepth 20000 in
theorem ggX6_readInto_X6_readEnd : GoodIn wsX6_readInto wsX6_readEnd := goodIn_r _ [73, 1, 14, 15, 16, 17, 18, 2, 19, 20, 21, 22, 23, 74, 75, 76] (by decide +kernel) (by decide +kernel)
set_option maxRecDepth 20000 in
theorem gX6_readInto_X6_readEnd : GoodIn wsX6_readInto (wsV RX6 34 RX6 yX6_readEnd wsX6_readEnd) := goodIn_app (goodIn_of _ (by decide +kernel)) ggX6_readInto_X6_readEnd
theorem dX6_readInto_0 : decode cX6_readInto 0 = .ok (.aload_n 1, 1) := by decide +kernel
theorem dX6_readInto_1 : decode cX6_readInto 1 = .ok (.invokevirtual 19, 3) := by decide +kernel
theorem dX6_readInto_4 : decode cX6_readInto 4 = .ok (.aload_n 0, 1) := by decide +kernel
theorem dX6_readInto_5 : decode cX6_readInto 5 = .ok (.iconst 0, 1) := by decide +kernel
theorem dX6_readInto_6 : decode cX6_readInto 6 = .ok (.putfield 24, 3) := by decide +kernel
theorem dX6_readInto_9 : decode cX6_readInto 9 = .ok (.iconst 0, 1) := by decide +kernel
theorem dX6_readInto_10 : decode cX6_readInto 10 = .ok (.istore_n 2, 1) := by decide +kernel
theorem dX6_readInto_11 : decode cX6_readInto 11 = .ok (.iload_n 2, 1) := by decide +kernel
theorem dX6_readInto_12 : decode cX6_readInto 12 = .ok (.bipush 120, 2) := by decide +kernel
theorem dX6_readInto_14 : decode cX6_readInto 14 = .ok (.if_icmp .ge 58, 3) := by decide +kernel
theorem dX6_readInto_17 : decode cX6_readInto 17 = .ok (.aload_n 0, 1) := by decide +kernel
theorem dX6_readInto_18 : decode cX6_readInto 18 = .ok (.invokevirtual 27, 3) := by decide +kernel
theorem dX6_readInto_21 : decode cX6_readInto 21 = .ok (.aload_n 0, 1) := by decide +kernel
theorem dX6_readInto_22 : decode cX6_readInto 22 = .ok (.getfield 24, 3) := by decide +kernel
theorem dX6_readInto_25 : decode cX6_readInto 25 = .ok (.aload_n 0, 1) := by decide +kernel
theorem dX6_readInto_26 : decode cX6_readInto 26 = .ok (.getfield 15, 3) := by decide +kernel
theorem dX6_readInto_29 : decode cX6_readInto 29 = .ok (.if_icmp .lt 5, 3) := by decide +kernel
theorem dX6_readInto_32 : decode cX6_readInto 32 = .ok (.iload_n 2, 1) := by decide +kernel
theorem dX6_readInto_33 : decode cX6_readInto 33 = .ok (.ireturn, 1) := by decide +kernel
theorem dX6_readInto_34 : decode cX6_readInto 34 = .ok (.aload_n 0, 1) := by decide +kernel
theorem dX6_readInto_35 : decode cX6_readInto 35 = .ok (.aload_n 1, 1) := by decide +kernel
theorem dX6_readInto_36 : decode cX6_readInto 36 = .ok (.iload_n 2, 1) := by decide +kernel
theorem dX6_readInto_37 : decode cX6_readInto 37 = .ok (.ifCond .ne 7, 3) := by decide +kernel
theorem dX6_readInto_40 : decode cX6_readInto 40 = .ok (.iconst 1, 1) := by decide +kernel
theorem dX6_readInto_41 : decode cX6_readInto 41 = .ok (.goto 4, 3) := by decide +kernel
theorem dX6_readInto_44 : decode cX6_readInto 44 = .ok (.iconst 0, 1) := by decide +kernel
theorem dX6_readInto_45 : decode cX6_readInto 45 = .ok (.invokevirtual 30, 3) := by decide +kernel
theorem dX6_readInto_48 : decode cX6_readInto 48 = .ok (.ifCond .eq 10, 3) := by decide +kernel
theorem dX6_readInto_51 : decode cX6_readInto 51 = .ok (.aload_n 0, 1) := by decide +kernel
theorem dX6_readInto_52 : decode cX6_readInto 52 = .ok (.invokevirtual 34, 3) := by decide +kernel
theorem dX6_readInto_55 : decode cX6_readInto 55 = .ok (.ifCond .ne 11, 3) := by decide +kernel
theorem dX6_readInto_58 : decode cX6_readInto 58 = .ok (.bipush (-10), 2) := by decide +kernel
theorem dX6_readInto_60 : decode cX6_readInto 60 = .ok (.aload_n 0, 1) := by decide +kernel
theorem dX6_readInto_61 : decode cX6_readInto 61 = .ok (.getfield 24, 3) := by decide +kernel
theorem dX6_readInto_64 : decode cX6_readInto 64 = .ok (.isub, 1) := by decide +kernel
theorem dX6_readInto_65 : decode cX6_readInto 65 = .ok (.ireturn, 1) := by decide +kernel
theorem dX6_readInto_66 : decode cX6_readInto 66 = .ok (.iinc 2 1, 3) := by decide +kernel
theorem dX6_readInto_69 : decode cX6_readInto 69 = .ok (.goto (-58), 3) := by decide +kernel
theorem dX6_readInto_72 : decode cX6_readInto 72 = .ok (.bipush (-10), 2) := by decide +kernel
theorem dX6_readInto_74 : decode cX6_readInto 74 = .ok (.aload_n 0, 1) := by decide +kernel
theorem dX6_readInto_75 : decode cX6_readInto 75 = .ok (.getfield 24, 3) := by decide +kernel
theorem dX6_readInto_78 : decode cX6_readInto 78 = .ok (.isub, 1) := by decide +kernel
theorem dX6_readInto_79 : decode cX6_readInto 79 = .ok (.ireturn, 1) := by decide +kernel
set_option maxRecDepth 20000 in
theorem ggX6_readItem_X6_loneLetter : GoodIn wsX6_readItem wsX6_loneLetter := goodIn_r _ [8, 1, 9, 10, 11, 7, 12, 13, 14, 15, 16, 17, 55, 56, 57] (by decide +kernel) (by decide +kernel)
set_option maxRecDepth 20000 in
theorem gX6_readItem_X6_loneLetter : GoodIn wsX6_readItem (wsV RX6 38 RX6 yX6_loneLetter wsX6_loneLetter) := goodIn_app (goodIn_of _ (by decide +kernel)) ggX6_readItem_X6_loneLetter
set_option maxRecDepth 20000 in
theorem ggX6_readItem_X6_readYards : GoodIn wsX6_readItem wsX6_readYards := goodIn_r _ [21, 22, 23, 24, 25, 7, 26, 1, 27, 28, 29, 30, 13, 9, 10, 11, 12, 14, 31, 32, 33, 34, 35, 36, 37, 38, 39, 40, 41, 58, 59, 60, 61, 62, 63, 64, 65, 66, 67, 68, 69, 70, 71, 72, 73, 74, 55, 56, 57] (by decide +kernel) (by decide +kernel)
set_option maxRecDepth 20000 in
theorem gX6_readItem_X6_readYards : GoodIn wsX6_readItem (wsV RX6 42 RX6 yX6_readYards wsX6_readYards) := goodIn_app (goodIn_of _ (by decide +kernel)) ggX6_readItem_X6_readYards
set_option maxRecDepth 20000 in
theorem ggX6_readItem_X6_readStreet : GoodIn wsX6_readItem wsX6_readStreet := goodIn_r _ [45, 22, 46, 2, 47, 48, 23, 24, 25, 7, 26, 1, 27, 28, 29, 30, 13, 9, 10, 11, 12, 14, 31, 32, 33, 34, 35, 36, 37, 38, 39, 40, 41, 58, 59, 60, 61, 62, 63, 64, 65, 66, 67, 68, 69, 70, 71, 72, 73, 74, 55, 56, 57] (by decide +kernel) (by decide +kernel)
set_option maxRecDepth 20000 in
theorem gX6_readItem_X6_readStreet : GoodIn wsX6_readItem (wsV RX6 49 RX6 yX6_readStreet wsX6_readStreet) := goodIn_app (goodIn_of _ (by decide +kernel)) ggX6_readItem_X6_readStreet
set_option maxRecDepth 20000 in
theorem ggX6_readItem_X6_readCitizen : GoodIn wsX6_readItem wsX6_readCitizen := goodIn_r _ [52, 2, 53, 3, 54, 23, 24, 25, 7, 26, 1, 27, 28, 29, 30, 13, 9, 10, 11, 12, 14, 31, 32, 33, 34, 35, 36, 37, 38, 39, 40, 41, 58, 59, 60, 61, 62, 63, 64, 65, 66, 67, 68, 69, 70, 71, 72, 73, 74, 55, 56, 57] (by decide +kernel) (by decide +kernel)
set_option maxRecDepth 20000 in
theorem gX6_readItem_X6_readCitizen : GoodIn wsX6_readItem (wsV RX6 55 RX6 yX6_readCitizen wsX6_readCitizen) := goodIn_app (goodIn_of _ (by decide +kernel)) ggX6_readItem_X6_readCitizen
theorem dX6_readItem_0 : decode cX6_readItem 0 = .ok (.aload_n 0, 1) := by decide +kernel
theorem dX6_readItem_1 : decode cX6_readItem 1 = .ok (.invokevirtual 38, 3) := by decide +kernel
theorem dX6_readItem_4 : decode cX6_readItem 4 = .ok (.istore_n 3, 1) := by decide +kernel
theorem dX6_readItem_5 : decode cX6_readItem 5 = .ok (.iload_n 3, 1) := by decide +kernel
theorem dX6_readItem_6 : decode cX6_readItem 6 = .ok (.bipush 121, 2) := by decide +kernel
theorem dX6_readItem_8 : decode cX6_readItem 8 = .ok (.if_icmp .ne 23, 3) := by decide +kernel
theorem dX6_readItem_11 : decode cX6_readItem 11 = .ok (.iload_n 2, 1) := by decide +kernel
theorem dX6_readItem_12 : decode cX6_readItem 12 = .ok (.ifCond .eq 19, 3) := by decide +kernel
theorem dX6_readItem_15 : decode cX6_readItem 15 = .ok (.aload_n 0, 1) := by decide +kernel
theorem dX6_readItem_16 : decode cX6_readItem 16 = .ok (.dup, 1) := by decide +kernel
theorem dX6_readItem_17 : decode cX6_readItem 17 = .ok (.getfield 24, 3) := by decide +kernel
theorem dX6_readItem_20 : decode cX6_readItem 20 = .ok (.iconst 1, 1) := by decide +kernel
theorem dX6_readItem_21 : decode cX6_readItem 21 = .ok (.iadd, 1) := by decide +kernel
theorem dX6_readItem_22 : decode cX6_readItem 22 = .ok (.putfield 24, 3) := by decide +kernel
theorem dX6_readItem_25 : decode cX6_readItem 25 = .ok (.aload_n 0, 1) := by decide +kernel
theorem dX6_readItem_26 : decode cX6_readItem 26 = .ok (.aload_n 1, 1) := by decide +kernel
theorem dX6_readItem_27 : decode cX6_readItem 27 = .ok (.invokevirtual 42, 3) := by decide +kernel
theorem dX6_readItem_30 : decode cX6_readItem 30 = .ok (.ireturn, 1) := by decide +kernel
theorem dX6_readItem_31 : decode cX6_readItem 31 = .ok (.iload_n 3, 1) := by decide +kernel
theorem dX6_readItem_32 : decode cX6_readItem 32 = .ok (.bipush 115, 2) := by decide +kernel
theorem dX6_readItem_34 : decode cX6_readItem 34 = .ok (.if_icmp .ne 28, 3) := by decide +kernel
theorem dX6_readItem_37 : decode cX6_readItem 37 = .ok (.aload_n 1, 1) := by decide +kernel
theorem dX6_readItem_38 : decode cX6_readItem 38 = .ok (.getfield 46, 3) := by decide +kernel
theorem dX6_readItem_41 : decode cX6_readItem 41 = .ok (.bipush 9, 2) := by decide +kernel
theorem dX6_readItem_43 : decode cX6_readItem 43 = .ok (.if_icmp .ge 19, 3) := by decide +kernel
theorem dX6_readItem_46 : decode cX6_readItem 46 = .ok (.aload_n 0, 1) := by decide +kernel
theorem dX6_readItem_47 : decode cX6_readItem 47 = .ok (.dup, 1) := by decide +kernel
theorem dX6_readItem_48 : decode cX6_readItem 48 = .ok (.getfield 24, 3) := by decide +kernel
theorem dX6_readItem_51 : decode cX6_readItem 51 = .ok (.iconst 1, 1) := by decide +kernel
theorem dX6_readItem_52 : decode cX6_readItem 52 = .ok (.iadd, 1) := by decide +kernel
theorem dX6_readItem_53 : decode cX6_readItem 53 = .ok (.putfield 24, 3) := by decide +kernel
theorem dX6_readItem_56 : decode cX6_readItem 56 = .ok (.aload_n 0, 1) := by decide +kernel
theorem dX6_readItem_57 : decode cX6_readItem 57 = .ok (.aload_n 1, 1) := by decide +kernel
theorem dX6_readItem_58 : decode cX6_readItem 58 = .ok (.invokevirtual 49, 3) := by decide +kernel
theorem dX6_readItem_61 : decode cX6_readItem 61 = .ok (.ireturn, 1) := by decide +kernel
theorem dX6_readItem_62 : decode cX6_readItem 62 = .ok (.iload_n 3, 1) := by decide +kernel
theorem dX6_readItem_63 : decode cX6_readItem 63 = .ok (.bipush 99, 2) := by decide +kernel
theorem dX6_readItem_65 : decode cX6_readItem 65 = .ok (.if_icmp .ne 28, 3) := by decide +kernel
theorem dX6_readItem_68 : decode cX6_readItem 68 = .ok (.aload_n 1, 1) := by decide +kernel
theorem dX6_readItem_69 : decode cX6_readItem 69 = .ok (.getfield 52, 3) := by decide +kernel
theorem dX6_readItem_72 : decode cX6_readItem 72 = .ok (.bipush 6, 2) := by decide +kernel
theorem dX6_readItem_74 : decode cX6_readItem 74 = .ok (.if_icmp .ge 19, 3) := by decide +kernel
theorem dX6_readItem_77 : decode cX6_readItem 77 = .ok (.aload_n 0, 1) := by decide +kernel
theorem dX6_readItem_78 : decode cX6_readItem 78 = .ok (.dup, 1) := by decide +kernel
theorem dX6_readItem_79 : decode cX6_readItem 79 = .ok (.getfield 24, 3) := by decide +kernel
theorem dX6_readItem_82 : decode cX6_readItem 82 = .ok (.iconst 1, 1) := by decide +kernel
theorem dX6_readItem_83 : decode cX6_readItem 83 = .ok (.iadd, 1) := by decide +kernel
theorem dX6_readItem_84 : decode cX6_readItem 84 = .ok (.putfield 24, 3) := by decide +kernel
theorem dX6_readItem_87 : decode cX6_readItem 87 = .ok (.aload_n 0, 1) := by decide +kernel
theorem dX6_readItem_88 : decode cX6_readItem 88 = .ok (.aload_n 1, 1) := by decide +kernel
theorem dX6_readItem_89 : decode cX6_readItem 89 = .ok (.invokevirtual 55, 3) := by decide +kernel
theorem dX6_readItem_92 : decode cX6_readItem 92 = .ok (.ireturn, 1) := by decide +kernel
theorem dX6_readItem_93 : decode cX6_readItem 93 = .ok (.iconst 0, 1) := by decide +kernel
theorem dX6_readItem_94 : decode cX6_readItem 94 = .ok (.ireturn, 1) := by decide +kernel
set_option maxRecDepth 20000 in
theorem ggX6_readYards_X6_readNumber : GoodIn wsX6_readYards wsX6_readNumber := goodIn_r _ [6, 7, 8, 9, 10, 5, 11, 12, 13, 14, 15, 16, 17, 18, 19, 20, 21, 22, 23, 24, 25, 26, 27, 28, 46, 47, 48] (by decide +kernel) (by decide +kernel)
set_option maxRecDepth 20000 in
theorem gX6_readYards_X6_readNumber : GoodIn wsX6_readYards (wsV RX6 58 RX6 yX6_readNumber wsX6_readNumber) := goodIn_app (goodIn_of _ (by decide +kernel)) ggX6_readYards_X6_readNumber
theorem dX6_readYards_0 : decode cX6_readYards 0 = .ok (.aload_n 0, 1) := by decide +kernel
theorem dX6_readYards_1 : decode cX6_readYards 1 = .ok (.iconst 2, 1) := by decide +kernel
theorem dX6_readYards_2 : decode cX6_readYards 2 = .ok (.bipush 8, 2) := by decide +kernel
theorem dX6_readYards_4 : decode cX6_readYards 4 = .ok (.iconst (-1), 1) := by decide +kernel
theorem dX6_readYards_5 : decode cX6_readYards 5 = .ok (.invokevirtual 58, 3) := by decide +kernel
theorem dX6_readYards_8 : decode cX6_readYards 8 = .ok (.istore_n 2, 1) := by decide +kernel
theorem dX6_readYards_9 : decode cX6_readYards 9 = .ok (.iload_n 2, 1) := by decide +kernel
theorem dX6_readYards_10 : decode cX6_readYards 10 = .ok (.iconst (-1), 1) := by decide +kernel
theorem dX6_readYards_11 : decode cX6_readYards 11 = .ok (.if_icmp .ne 5, 3) := by decide +kernel
theorem dX6_readYards_14 : decode cX6_readYards 14 = .ok (.iconst 0, 1) := by decide +kernel
theorem dX6_readYards_15 : decode cX6_readYards 15 = .ok (.ireturn, 1) := by decide +kernel
theorem dX6_readYards_16 : decode cX6_readYards 16 = .ok (.aload_n 1, 1) := by decide +kernel
theorem dX6_readYards_17 : decode cX6_readYards 17 = .ok (.iload_n 2, 1) := by decide +kernel
theorem dX6_readYards_18 : decode cX6_readYards 18 = .ok (.putfield 62, 3) := by decide +kernel
theorem dX6_readYards_21 : decode cX6_readYards 21 = .ok (.iconst 1, 1) := by decide +kernel
theorem dX6_readYards_22 : decode cX6_readYards 22 = .ok (.ireturn, 1) := by decide +kernel
set_option maxRecDepth 20000 in
theorem ggX6_readStreet_X6_readNumber : GoodIn wsX6_readStreet wsX6_readNumber := goodIn_r _ [10, 11, 12, 13, 14, 9, 15, 16, 17, 18, 19, 20, 21, 22, 23, 24, 25, 26, 27, 28, 29, 30, 31, 32, 50, 51, 52] (by decide +kernel) (by decide +kernel)
set_option maxRecDepth 20000 in
theorem gX6_readStreet_X6_readNumber : GoodIn wsX6_readStreet (wsV RX6 58 RX6 yX6_readNumber wsX6_readNumber) := goodIn_app (goodIn_of _ (by decide +kernel)) ggX6_readStreet_X6_readNumber
theorem dX6_readStreet_0 : decode cX6_readStreet 0 = .ok (.aload_n 0, 1) := by decide +kernel
theorem dX6_readStreet_1 : decode cX6_readStreet 1 = .ok (.iconst 0, 1) := by decide +kernel
theorem dX6_readStreet_2 : decode cX6_readStreet 2 = .ok (.aload_n 1, 1) := by decide +kernel
theorem dX6_readStreet_3 : decode cX6_readStreet 3 = .ok (.getfield 62, 3) := by decide +kernel
theorem dX6_readStreet_6 : decode cX6_readStreet 6 = .ok (.iconst 1, 1) := by decide +kernel
theorem dX6_readStreet_7 : decode cX6_readStreet 7 = .ok (.isub, 1) := by decide +kernel
theorem dX6_readStreet_8 : decode cX6_readStreet 8 = .ok (.iconst (-1), 1) := by decide +kernel
theorem dX6_readStreet_9 : decode cX6_readStreet 9 = .ok (.invokevirtual 58, 3) := by decide +kernel
theorem dX6_readStreet_12 : decode cX6_readStreet 12 = .ok (.istore_n 2, 1) := by decide +kernel
theorem dX6_readStreet_13 : decode cX6_readStreet 13 = .ok (.iload_n 2, 1) := by decide +kernel
theorem dX6_readStreet_14 : decode cX6_readStreet 14 = .ok (.iconst (-1), 1) := by decide +kernel
theorem dX6_readStreet_15 : decode cX6_readStreet 15 = .ok (.if_icmp .ne 5, 3) := by decide +kernel
theorem dX6_readStreet_18 : decode cX6_readStreet 18 = .ok (.iconst 0, 1) := by decide +kernel
theorem dX6_readStreet_19 : decode cX6_readStreet 19 = .ok (.ireturn, 1) := by decide +kernel
theorem dX6_readStreet_20 : decode cX6_readStreet 20 = .ok (.aload_n 0, 1) := by decide +kernel
theorem dX6_readStreet_21 : decode cX6_readStreet 21 = .ok (.iconst 0, 1) := by decide +kernel
theorem dX6_readStreet_22 : decode cX6_readStreet 22 = .ok (.aload_n 1, 1) := by decide +kernel
theorem dX6_readStreet_23 : decode cX6_readStreet 23 = .ok (.getfield 62, 3) := by decide +kernel
theorem dX6_readStreet_26 : decode cX6_readStreet 26 = .ok (.iconst 1, 1) := by decide +kernel
theorem dX6_readStreet_27 : decode cX6_readStreet 27 = .ok (.isub, 1) := by decide +kernel
theorem dX6_readStreet_28 : decode cX6_readStreet 28 = .ok (.iload_n 2, 1) := by decide +kernel
theorem dX6_readStreet_29 : decode cX6_readStreet 29 = .ok (.invokevirtual 58, 3) := by decide +kernel
theorem dX6_readStreet_32 : decode cX6_readStreet 32 = .ok (.istore_n 3, 1) := by decide +kernel
theorem dX6_readStreet_33 : decode cX6_readStreet 33 = .ok (.iload_n 3, 1) := by decide +kernel
theorem dX6_readStreet_34 : decode cX6_readStreet 34 = .ok (.iconst (-1), 1) := by decide +kernel
theorem dX6_readStreet_35 : decode cX6_readStreet 35 = .ok (.if_icmp .ne 5, 3) := by decide +kernel
theorem dX6_readStreet_38 : decode cX6_readStreet 38 = .ok (.iconst 0, 1) := by decide +kernel
theorem dX6_readStreet_39 : decode cX6_readStreet 39 = .ok (.ireturn, 1) := by decide +kernel
theorem dX6_readStreet_40 : decode cX6_readStreet 40 = .ok (.aload_n 0, 1) := by decide +kernel
theorem dX6_readStreet_41 : decode cX6_readStreet 41 = .ok (.iconst 0, 1) := by decide +kernel
theorem dX6_readStreet_42 : decode cX6_readStreet 42 = .ok (.bipush 9, 2) := by decide +kernel
theorem dX6_readStreet_44 : decode cX6_readStreet 44 = .ok (.iconst (-1), 1) := by decide +kernel
theorem dX6_readStreet_45 : decode cX6_readStreet 45 = .ok (.invokevirtual 58, 3) := by decide +kernel
theorem dX6_readStreet_48 : decode cX6_readStreet 48 = .ok (.istore 4, 2) := by decide +kernel
theorem dX6_readStreet_50 : decode cX6_readStreet 50 = .ok (.iload 4, 2) := by decide +kernel
theorem dX6_readStreet_52 : decode cX6_readStreet 52 = .ok (.iconst (-1), 1) := by decide +kernel
theorem dX6_readStreet_53 : decode cX6_readStreet 53 = .ok (.if_icmp .ne 5, 3) := by decide +kernel
theorem dX6_readStreet_56 : decode cX6_readStreet 56 = .ok (.iconst 0, 1) := by decide +kernel
theorem dX6_readStreet_57 : decode cX6_readStreet 57 = .ok (.ireturn, 1) := by decide +kernel
theorem dX6_readStreet_58 : decode cX6_readStreet 58 = .ok (.aload_n 1, 1) := by decide +kernel
theorem dX6_readStreet_59 : decode cX6_readStreet 59 = .ok (.getfield 65, 3) := by decide +kernel
theorem dX6_readStreet_62 : decode cX6_readStreet 62 = .ok (.aload_n 1, 1) := by decide +kernel
theorem dX6_readStreet_63 : decode cX6_readStreet 63 = .ok (.getfield 46, 3) := by decide +kernel
theorem dX6_readStreet_66 : decode cX6_readStreet 66 = .ok (.iload_n 2, 1) := by decide +kernel
theorem dX6_readStreet_67 : decode cX6_readStreet 67 = .ok (.iastore, 1) := by decide +kernel
theorem dX6_readStreet_68 : decode cX6_readStreet 68 = .ok (.aload_n 1, 1) := by decide +kernel
theorem dX6_readStreet_69 : decode cX6_readStreet 69 = .ok (.getfield 68, 3) := by decide +kernel
theorem dX6_readStreet_72 : decode cX6_readStreet 72 = .ok (.aload_n 1, 1) := by decide +kernel
theorem dX6_readStreet_73 : decode cX6_readStreet 73 = .ok (.getfield 46, 3) := by decide +kernel
theorem dX6_readStreet_76 : decode cX6_readStreet 76 = .ok (.iload_n 3, 1) := by decide +kernel
theorem dX6_readStreet_77 : decode cX6_readStreet 77 = .ok (.iastore, 1) := by decide +kernel
theorem dX6_readStreet_78 : decode cX6_readStreet 78 = .ok (.aload_n 1, 1) := by decide +kernel
theorem dX6_readStreet_79 : decode cX6_readStreet 79 = .ok (.getfield 71, 3) := by decide +kernel
theorem dX6_readStreet_82 : decode cX6_readStreet 82 = .ok (.aload_n 1, 1) := by decide +kernel
theorem dX6_readStreet_83 : decode cX6_readStreet 83 = .ok (.getfield 46, 3) := by decide +kernel
theorem dX6_readStreet_86 : decode cX6_readStreet 86 = .ok (.iload 4, 2) := by decide +kernel
theorem dX6_readStreet_88 : decode cX6_readStreet 88 = .ok (.iastore, 1) := by decide +kernel
theorem dX6_readStreet_89 : decode cX6_readStreet 89 = .ok (.aload_n 1, 1) := by decide +kernel
theorem dX6_readStreet_90 : decode cX6_readStreet 90 = .ok (.dup, 1) := by decide +kernel
theorem dX6_readStreet_91 : decode cX6_readStreet 91 = .ok (.getfield 46, 3) := by decide +kernel
theorem dX6_readStreet_94 : decode cX6_readStreet 94 = .ok (.iconst 1, 1) := by decide +kernel
theorem dX6_readStreet_95 : decode cX6_readStreet 95 = .ok (.iadd, 1) := by decide +kernel
theorem dX6_readStreet_96 : decode cX6_readStreet 96 = .ok (.putfield 46, 3) := by decide +kernel
theorem dX6_readStreet_99 : decode cX6_readStreet 99 = .ok (.iconst 1, 1) := by decide +kernel
theorem dX6_readStreet_100 : decode cX6_readStreet 100 = .ok (.ireturn, 1) := by decide +kernel
set_option maxRecDepth 20000 in
theorem ggX6_readCitizen_X6_readNumber : GoodIn wsX6_readCitizen wsX6_readNumber := goodIn_r _ [9, 10, 11, 12, 13, 8, 14, 15, 16, 17, 18, 19, 20, 21, 22, 23, 24, 25, 26, 27, 28, 29, 30, 31, 49, 50, 51] (by decide +kernel) (by decide +kernel)
set_option maxRecDepth 20000 in
theorem gX6_readCitizen_X6_readNumber : GoodIn wsX6_readCitizen (wsV RX6 58 RX6 yX6_readNumber wsX6_readNumber) := goodIn_app (goodIn_of _ (by decide +kernel)) ggX6_readCitizen_X6_readNumber
theorem dX6_readCitizen_0 : decode cX6_readCitizen 0 = .ok (.aload_n 0, 1) := by decide +kernel
theorem dX6_readCitizen_1 : decode cX6_readCitizen 1 = .ok (.iconst 0, 1) := by decide +kernel
theorem dX6_readCitizen_2 : decode cX6_readCitizen 2 = .ok (.aload_n 1, 1) := by decide +kernel
theorem dX6_readCitizen_3 : decode cX6_readCitizen 3 = .ok (.getfield 46, 3) := by decide +kernel
theorem dX6_readCitizen_6 : decode cX6_readCitizen 6 = .ok (.iconst 1, 1) := by decide +kernel
theorem dX6_readCitizen_7 : decode cX6_readCitizen 7 = .ok (.isub, 1) := by decide +kernel
theorem dX6_readCitizen_8 : decode cX6_readCitizen 8 = .ok (.iconst (-1), 1) := by decide +kernel
theorem dX6_readCitizen_9 : decode cX6_readCitizen 9 = .ok (.invokevirtual 58, 3) := by decide +kernel
theorem dX6_readCitizen_12 : decode cX6_readCitizen 12 = .ok (.istore_n 2, 1) := by decide +kernel
theorem dX6_readCitizen_13 : decode cX6_readCitizen 13 = .ok (.iload_n 2, 1) := by decide +kernel
theorem dX6_readCitizen_14 : decode cX6_readCitizen 14 = .ok (.iconst (-1), 1) := by decide +kernel
theorem dX6_readCitizen_15 : decode cX6_readCitizen 15 = .ok (.if_icmp .ne 5, 3) := by decide +kernel
theorem dX6_readCitizen_18 : decode cX6_readCitizen 18 = .ok (.iconst 0, 1) := by decide +kernel
theorem dX6_readCitizen_19 : decode cX6_readCitizen 19 = .ok (.ireturn, 1) := by decide +kernel
theorem dX6_readCitizen_20 : decode cX6_readCitizen 20 = .ok (.aload_n 0, 1) := by decide +kernel
theorem dX6_readCitizen_21 : decode cX6_readCitizen 21 = .ok (.iconst 1, 1) := by decide +kernel
theorem dX6_readCitizen_22 : decode cX6_readCitizen 22 = .ok (.bipush 10, 2) := by decide +kernel
theorem dX6_readCitizen_24 : decode cX6_readCitizen 24 = .ok (.iconst (-1), 1) := by decide +kernel
theorem dX6_readCitizen_25 : decode cX6_readCitizen 25 = .ok (.invokevirtual 58, 3) := by decide +kernel
theorem dX6_readCitizen_28 : decode cX6_readCitizen 28 = .ok (.istore_n 3, 1) := by decide +kernel
theorem dX6_readCitizen_29 : decode cX6_readCitizen 29 = .ok (.iload_n 3, 1) := by decide +kernel
theorem dX6_readCitizen_30 : decode cX6_readCitizen 30 = .ok (.iconst (-1), 1) := by decide +kernel
theorem dX6_readCitizen_31 : decode cX6_readCitizen 31 = .ok (.if_icmp .ne 5, 3) := by decide +kernel
theorem dX6_readCitizen_34 : decode cX6_readCitizen 34 = .ok (.iconst 0, 1) := by decide +kernel
theorem dX6_readCitizen_35 : decode cX6_readCitizen 35 = .ok (.ireturn, 1) := by decide +kernel
theorem dX6_readCitizen_36 : decode cX6_readCitizen 36 = .ok (.aload_n 1, 1) := by decide +kernel
theorem dX6_readCitizen_37 : decode cX6_readCitizen 37 = .ok (.getfield 74, 3) := by decide +kernel
theorem dX6_readCitizen_40 : decode cX6_readCitizen 40 = .ok (.aload_n 1, 1) := by decide +kernel
theorem dX6_readCitizen_41 : decode cX6_readCitizen 41 = .ok (.getfield 52, 3) := by decide +kernel
theorem dX6_readCitizen_44 : decode cX6_readCitizen 44 = .ok (.iload_n 2, 1) := by decide +kernel
theorem dX6_readCitizen_45 : decode cX6_readCitizen 45 = .ok (.iastore, 1) := by decide +kernel
theorem dX6_readCitizen_46 : decode cX6_readCitizen 46 = .ok (.aload_n 1, 1) := by decide +kernel
theorem dX6_readCitizen_47 : decode cX6_readCitizen 47 = .ok (.getfield 77, 3) := by decide +kernel
theorem dX6_readCitizen_50 : decode cX6_readCitizen 50 = .ok (.aload_n 1, 1) := by decide +kernel
theorem dX6_readCitizen_51 : decode cX6_readCitizen 51 = .ok (.getfield 52, 3) := by decide +kernel
theorem dX6_readCitizen_54 : decode cX6_readCitizen 54 = .ok (.iload_n 3, 1) := by decide +kernel
theorem dX6_readCitizen_55 : decode cX6_readCitizen 55 = .ok (.iastore, 1) := by decide +kernel
theorem dX6_readCitizen_56 : decode cX6_readCitizen 56 = .ok (.aload_n 1, 1) := by decide +kernel
theorem dX6_readCitizen_57 : decode cX6_readCitizen 57 = .ok (.dup, 1) := by decide +kernel
theorem dX6_readCitizen_58 : decode cX6_readCitizen 58 = .ok (.getfield 52, 3) := by decide +kernel
theorem dX6_readCitizen_61 : decode cX6_readCitizen 61 = .ok (.iconst 1, 1) := by decide +kernel
theorem dX6_readCitizen_62 : decode cX6_readCitizen 62 = .ok (.iadd, 1) := by decide +kernel
theorem dX6_readCitizen_63 : decode cX6_readCitizen 63 = .ok (.putfield 52, 3) := by decide +kernel
theorem dX6_readCitizen_66 : decode cX6_readCitizen 66 = .ok (.iconst 1, 1) := by decide +kernel
theorem dX6_readCitizen_67 : decode cX6_readCitizen 67 = .ok (.ireturn, 1) := by decide +kernel
set_option maxRecDepth 20000 in
theorem ggX6_readEnd_X6_skipBlanks : GoodIn wsX6_readEnd wsX6_skipBlanks := goodIn_r _ [6, 1, 7, 8, 9, 10, 5, 11, 12, 13, 14, 15] (by decide +kernel) (by decide +kernel)
set_option maxRecDepth 20000 in
theorem gX6_readEnd_X6_skipBlanks : GoodIn wsX6_readEnd (wsV RX6 27 RX6 yX6_skipBlanks wsX6_skipBlanks) := goodIn_app (goodIn_of _ (by decide +kernel)) ggX6_readEnd_X6_skipBlanks
set_option maxRecDepth 20000 in
theorem ggX6_readEnd_X6_byteAt : GoodIn wsX6_readEnd wsX6_byteAt := goodIn_r _ [11, 7, 12, 13, 14, 15] (by decide +kernel) (by decide +kernel)
set_option maxRecDepth 20000 in
theorem gX6_readEnd_X6_byteAt : GoodIn wsX6_readEnd (wsV RX6 80 RX6 yX6_byteAt wsX6_byteAt) := goodIn_app (goodIn_of _ (by decide +kernel)) ggX6_readEnd_X6_byteAt
theorem dX6_readEnd_0 : decode cX6_readEnd 0 = .ok (.aload_n 0, 1) := by decide +kernel
theorem dX6_readEnd_1 : decode cX6_readEnd 1 = .ok (.invokevirtual 27, 3) := by decide +kernel
theorem dX6_readEnd_4 : decode cX6_readEnd 4 = .ok (.aload_n 0, 1) := by decide +kernel
theorem dX6_readEnd_5 : decode cX6_readEnd 5 = .ok (.aload_n 0, 1) := by decide +kernel
theorem dX6_readEnd_6 : decode cX6_readEnd 6 = .ok (.getfield 24, 3) := by decide +kernel
theorem dX6_readEnd_9 : decode cX6_readEnd 9 = .ok (.invokevirtual 80, 3) := by decide +kernel
theorem dX6_readEnd_12 : decode cX6_readEnd 12 = .ok (.bipush 59, 2) := by decide +kernel
theorem dX6_readEnd_14 : decode cX6_readEnd 14 = .ok (.if_icmp .eq 5, 3) := by decide +kernel
theorem dX6_readEnd_17 : decode cX6_readEnd 17 = .ok (.iconst 0, 1) := by decide +kernel
theorem dX6_readEnd_18 : decode cX6_readEnd 18 = .ok (.ireturn, 1) := by decide +kernel
theorem dX6_readEnd_19 : decode cX6_readEnd 19 = .ok (.aload_n 0, 1) := by decide +kernel
theorem dX6_readEnd_20 : decode cX6_readEnd 20 = .ok (.dup, 1) := by decide +kernel
theorem dX6_readEnd_21 : decode cX6_readEnd 21 = .ok (.getfield 24, 3) := by decide +kernel
theorem dX6_readEnd_24 : decode cX6_readEnd 24 = .ok (.iconst 1, 1) := by decide +kernel
theorem dX6_readEnd_25 : decode cX6_readEnd 25 = .ok (.iadd, 1) := by decide +kernel
theorem dX6_readEnd_26 : decode cX6_readEnd 26 = .ok (.putfield 24, 3) := by decide +kernel
theorem dX6_readEnd_29 : decode cX6_readEnd 29 = .ok (.iconst 1, 1) := by decide +kernel
theorem dX6_readEnd_30 : decode cX6_readEnd 30 = .ok (.ireturn, 1) := by decide +kernel
set_option maxRecDepth 20000 in
theorem ggX6_readNumber_X6_skipBlanks : GoodIn wsX6_readNumber wsX6_skipBlanks := goodIn_r _ [6, 1, 7, 8, 9, 10, 5, 11, 12, 24, 25, 26] (by decide +kernel) (by decide +kernel)
set_option maxRecDepth 20000 in
theorem gX6_readNumber_X6_skipBlanks : GoodIn wsX6_readNumber (wsV RX6 27 RX6 yX6_skipBlanks wsX6_skipBlanks) := goodIn_app (goodIn_of _ (by decide +kernel)) ggX6_readNumber_X6_skipBlanks
set_option maxRecDepth 20000 in
theorem ggX6_readNumber_X6_digitsHere : GoodIn wsX6_readNumber wsX6_digitsHere := goodIn_r _ [16, 1, 8, 9, 10, 5, 11, 7, 12, 17, 18, 19, 24, 25, 26] (by decide +kernel) (by decide +kernel)
set_option maxRecDepth 20000 in
theorem gX6_readNumber_X6_digitsHere : GoodIn wsX6_readNumber (wsV RX6 84 RX6 yX6_digitsHere wsX6_digitsHere) := goodIn_app (goodIn_of _ (by decide +kernel)) ggX6_readNumber_X6_digitsHere
set_option maxRecDepth 20000 in
theorem ggX6_readNumber_X6_numberOf : GoodIn wsX6_readNumber wsX6_numberOf := goodIn_r _ [23, 1, 8, 9, 10, 5, 11, 7, 12, 24, 25, 26] (by decide +kernel) (by decide +kernel)
set_option maxRecDepth 20000 in
theorem gX6_readNumber_X6_numberOf : GoodIn wsX6_readNumber (wsV RX6 87 RX6 yX6_numberOf wsX6_numberOf) := goodIn_app (goodIn_of _ (by decide +kernel)) ggX6_readNumber_X6_numberOf
theorem dX6_readNumber_0 : decode cX6_readNumber 0 = .ok (.aload_n 0, 1) := by decide +kernel
theorem dX6_readNumber_1 : decode cX6_readNumber 1 = .ok (.invokevirtual 27, 3) := by decide +kernel
theorem dX6_readNumber_4 : decode cX6_readNumber 4 = .ok (.aload_n 0, 1) := by decide +kernel
theorem dX6_readNumber_5 : decode cX6_readNumber 5 = .ok (.invokevirtual 84, 3) := by decide +kernel
theorem dX6_readNumber_8 : decode cX6_readNumber 8 = .ok (.istore 4, 2) := by decide +kernel
theorem dX6_readNumber_10 : decode cX6_readNumber 10 = .ok (.aload_n 0, 1) := by decide +kernel
theorem dX6_readNumber_11 : decode cX6_readNumber 11 = .ok (.iload 4, 2) := by decide +kernel
theorem dX6_readNumber_13 : decode cX6_readNumber 13 = .ok (.invokevirtual 87, 3) := by decide +kernel
theorem dX6_readNumber_16 : decode cX6_readNumber 16 = .ok (.istore 5, 2) := by decide +kernel
theorem dX6_readNumber_18 : decode cX6_readNumber 18 = .ok (.iload 5, 2) := by decide +kernel
theorem dX6_readNumber_20 : decode cX6_readNumber 20 = .ok (.iload_n 1, 1) := by decide +kernel
theorem dX6_readNumber_21 : decode cX6_readNumber 21 = .ok (.if_icmp .lt 15, 3) := by decide +kernel
theorem dX6_readNumber_24 : decode cX6_readNumber 24 = .ok (.iload 5, 2) := by decide +kernel
theorem dX6_readNumber_26 : decode cX6_readNumber 26 = .ok (.iload_n 2, 1) := by decide +kernel
theorem dX6_readNumber_27 : decode cX6_readNumber 27 = .ok (.if_icmp .gt 9, 3) := by decide +kernel
theorem dX6_readNumber_30 : decode cX6_readNumber 30 = .ok (.iload 5, 2) := by decide +kernel
theorem dX6_readNumber_32 : decode cX6_readNumber 32 = .ok (.iload_n 3, 1) := by decide +kernel
theorem dX6_readNumber_33 : decode cX6_readNumber 33 = .ok (.if_icmp .ne 5, 3) := by decide +kernel
theorem dX6_readNumber_36 : decode cX6_readNumber 36 = .ok (.iconst (-1), 1) := by decide +kernel
theorem dX6_readNumber_37 : decode cX6_readNumber 37 = .ok (.ireturn, 1) := by decide +kernel
theorem dX6_readNumber_38 : decode cX6_readNumber 38 = .ok (.aload_n 0, 1) := by decide +kernel
theorem dX6_readNumber_39 : decode cX6_readNumber 39 = .ok (.dup, 1) := by decide +kernel
theorem dX6_readNumber_40 : decode cX6_readNumber 40 = .ok (.getfield 24, 3) := by decide +kernel
theorem dX6_readNumber_43 : decode cX6_readNumber 43 = .ok (.iload 4, 2) := by decide +kernel
theorem dX6_readNumber_45 : decode cX6_readNumber 45 = .ok (.iadd, 1) := by decide +kernel
theorem dX6_readNumber_46 : decode cX6_readNumber 46 = .ok (.putfield 24, 3) := by decide +kernel
theorem dX6_readNumber_49 : decode cX6_readNumber 49 = .ok (.iload 5, 2) := by decide +kernel
theorem dX6_readNumber_51 : decode cX6_readNumber 51 = .ok (.ireturn, 1) := by decide +kernel
set_option maxRecDepth 20000 in
theorem ggX6_digitsHere_X6_byteAt : GoodIn wsX6_digitsHere wsX6_byteAt := goodIn_r _ [6, 7, 8, 12, 13, 14] (by decide +kernel) (by decide +kernel)
set_option maxRecDepth 20000 in
theorem gX6_digitsHere_X6_byteAt : GoodIn wsX6_digitsHere (wsV RX6 80 RX6 yX6_byteAt wsX6_byteAt) := goodIn_app (goodIn_of _ (by decide +kernel)) ggX6_digitsHere_X6_byteAt
set_option maxRecDepth 20000 in
theorem ggX6_digitsHere_X6_isDigit : GoodIn wsX6_digitsHere wsX6_isDigit := goodIn_r _ [11] (by decide +kernel) (by decide +kernel)
set_option maxRecDepth 20000 in
theorem gX6_digitsHere_X6_isDigit : GoodIn wsX6_digitsHere (va_wsS RX6 90 yX6_isDigit wsX6_isDigit) := goodIn_app (goodIn_of _ (by decide +kernel)) ggX6_digitsHere_X6_isDigit
theorem dX6_digitsHere_0 : decode cX6_digitsHere 0 = .ok (.iconst 0, 1) := by decide +kernel
theorem dX6_digitsHere_1 : decode cX6_digitsHere 1 = .ok (.istore_n 1, 1) := by decide +kernel
theorem dX6_digitsHere_2 : decode cX6_digitsHere 2 = .ok (.iload_n 1, 1) := by decide +kernel
theorem dX6_digitsHere_3 : decode cX6_digitsHere 3 = .ok (.bipush 120, 2) := by decide +kernel
theorem dX6_digitsHere_5 : decode cX6_digitsHere 5 = .ok (.if_icmp .ge 25, 3) := by decide +kernel
theorem dX6_digitsHere_8 : decode cX6_digitsHere 8 = .ok (.aload_n 0, 1) := by decide +kernel
theorem dX6_digitsHere_9 : decode cX6_digitsHere 9 = .ok (.aload_n 0, 1) := by decide +kernel
theorem dX6_digitsHere_10 : decode cX6_digitsHere 10 = .ok (.getfield 24, 3) := by decide +kernel
theorem dX6_digitsHere_13 : decode cX6_digitsHere 13 = .ok (.iload_n 1, 1) := by decide +kernel
theorem dX6_digitsHere_14 : decode cX6_digitsHere 14 = .ok (.iadd, 1) := by decide +kernel
theorem dX6_digitsHere_15 : decode cX6_digitsHere 15 = .ok (.invokevirtual 80, 3) := by decide +kernel
theorem dX6_digitsHere_18 : decode cX6_digitsHere 18 = .ok (.invokestatic 90, 3) := by decide +kernel
theorem dX6_digitsHere_21 : decode cX6_digitsHere 21 = .ok (.ifCond .eq 9, 3) := by decide +kernel
theorem dX6_digitsHere_24 : decode cX6_digitsHere 24 = .ok (.iinc 1 1, 3) := by decide +kernel
theorem dX6_digitsHere_27 : decode cX6_digitsHere 27 = .ok (.goto (-25), 3) := by decide +kernel
theorem dX6_digitsHere_30 : decode cX6_digitsHere 30 = .ok (.iload_n 1, 1) := by decide +kernel
theorem dX6_digitsHere_31 : decode cX6_digitsHere 31 = .ok (.ireturn, 1) := by decide +kernel
set_option maxRecDepth 20000 in
theorem ggX6_numberOf_X6_byteAt : GoodIn wsX6_numberOf wsX6_byteAt := goodIn_r _ [6, 7, 8, 9, 10, 11] (by decide +kernel) (by decide +kernel)
set_option maxRecDepth 20000 in
theorem gX6_numberOf_X6_byteAt : GoodIn wsX6_numberOf (wsV RX6 80 RX6 yX6_byteAt wsX6_byteAt) := goodIn_app (goodIn_of _ (by decide +kernel)) ggX6_numberOf_X6_byteAt
theorem dX6_numberOf_0 : decode cX6_numberOf 0 = .ok (.iload_n 1, 1) := by decide +kernel
theorem dX6_numberOf_1 : decode cX6_numberOf 1 = .ok (.iconst 1, 1) := by decide +kernel
theorem dX6_numberOf_2 : decode cX6_numberOf 2 = .ok (.if_icmp .ne 15, 3) := by decide +kernel
theorem dX6_numberOf_5 : decode cX6_numberOf 5 = .ok (.aload_n 0, 1) := by decide +kernel
theorem dX6_numberOf_6 : decode cX6_numberOf 6 = .ok (.aload_n 0, 1) := by decide +kernel
theorem dX6_numberOf_7 : decode cX6_numberOf 7 = .ok (.getfield 24, 3) := by decide +kernel
theorem dX6_numberOf_10 : decode cX6_numberOf 10 = .ok (.invokevirtual 80, 3) := by decide +kernel
theorem dX6_numberOf_13 : decode cX6_numberOf 13 = .ok (.bipush 48, 2) := by decide +kernel
theorem dX6_numberOf_15 : decode cX6_numberOf 15 = .ok (.isub, 1) := by decide +kernel
theorem dX6_numberOf_16 : decode cX6_numberOf 16 = .ok (.ireturn, 1) := by decide +kernel
theorem dX6_numberOf_17 : decode cX6_numberOf 17 = .ok (.iload_n 1, 1) := by decide +kernel
theorem dX6_numberOf_18 : decode cX6_numberOf 18 = .ok (.iconst 2, 1) := by decide +kernel
theorem dX6_numberOf_19 : decode cX6_numberOf 19 = .ok (.if_icmp .ne 45, 3) := by decide +kernel
theorem dX6_numberOf_22 : decode cX6_numberOf 22 = .ok (.aload_n 0, 1) := by decide +kernel
theorem dX6_numberOf_23 : decode cX6_numberOf 23 = .ok (.aload_n 0, 1) := by decide +kernel
theorem dX6_numberOf_24 : decode cX6_numberOf 24 = .ok (.getfield 24, 3) := by decide +kernel
theorem dX6_numberOf_27 : decode cX6_numberOf 27 = .ok (.invokevirtual 80, 3) := by decide +kernel
theorem dX6_numberOf_30 : decode cX6_numberOf 30 = .ok (.bipush 48, 2) := by decide +kernel
theorem dX6_numberOf_32 : decode cX6_numberOf 32 = .ok (.if_icmp .eq 32, 3) := by decide +kernel
theorem dX6_numberOf_35 : decode cX6_numberOf 35 = .ok (.bipush 10, 2) := by decide +kernel
theorem dX6_numberOf_37 : decode cX6_numberOf 37 = .ok (.aload_n 0, 1) := by decide +kernel
theorem dX6_numberOf_38 : decode cX6_numberOf 38 = .ok (.aload_n 0, 1) := by decide +kernel
theorem dX6_numberOf_39 : decode cX6_numberOf 39 = .ok (.getfield 24, 3) := by decide +kernel
theorem dX6_numberOf_42 : decode cX6_numberOf 42 = .ok (.invokevirtual 80, 3) := by decide +kernel
theorem dX6_numberOf_45 : decode cX6_numberOf 45 = .ok (.bipush 48, 2) := by decide +kernel
theorem dX6_numberOf_47 : decode cX6_numberOf 47 = .ok (.isub, 1) := by decide +kernel
theorem dX6_numberOf_48 : decode cX6_numberOf 48 = .ok (.imul, 1) := by decide +kernel
theorem dX6_numberOf_49 : decode cX6_numberOf 49 = .ok (.aload_n 0, 1) := by decide +kernel
theorem dX6_numberOf_50 : decode cX6_numberOf 50 = .ok (.aload_n 0, 1) := by decide +kernel
theorem dX6_numberOf_51 : decode cX6_numberOf 51 = .ok (.getfield 24, 3) := by decide +kernel
theorem dX6_numberOf_54 : decode cX6_numberOf 54 = .ok (.iconst 1, 1) := by decide +kernel
theorem dX6_numberOf_55 : decode cX6_numberOf 55 = .ok (.iadd, 1) := by decide +kernel
theorem dX6_numberOf_56 : decode cX6_numberOf 56 = .ok (.invokevirtual 80, 3) := by decide +kernel
theorem dX6_numberOf_59 : decode cX6_numberOf 59 = .ok (.iadd, 1) := by decide +kernel
theorem dX6_numberOf_60 : decode cX6_numberOf 60 = .ok (.bipush 48, 2) := by decide +kernel
theorem dX6_numberOf_62 : decode cX6_numberOf 62 = .ok (.isub, 1) := by decide +kernel
theorem dX6_numberOf_63 : decode cX6_numberOf 63 = .ok (.ireturn, 1) := by decide +kernel
theorem dX6_numberOf_64 : decode cX6_numberOf 64 = .ok (.iconst (-1), 1) := by decide +kernel
theorem dX6_numberOf_65 : decode cX6_numberOf 65 = .ok (.ireturn, 1) := by decide +kernel
set_option maxRecDepth 20000 in
theorem ggX6_loneLetter_X6_byteAt : GoodIn wsX6_loneLetter wsX6_byteAt := goodIn_r _ [6, 7, 8, 12, 13, 14] (by decide +kernel) (by decide +kernel)
set_option maxRecDepth 20000 in
theorem gX6_loneLetter_X6_byteAt : GoodIn wsX6_loneLetter (wsV RX6 80 RX6 yX6_byteAt wsX6_byteAt) := goodIn_app (goodIn_of _ (by decide +kernel)) ggX6_loneLetter_X6_byteAt
set_option maxRecDepth 20000 in
theorem ggX6_loneLetter_X6_isLetter : GoodIn wsX6_loneLetter wsX6_isLetter := goodIn_r _ [11] (by decide +kernel) (by decide +kernel)
set_option maxRecDepth 20000 in
theorem gX6_loneLetter_X6_isLetter : GoodIn wsX6_loneLetter (va_wsS RX6 94 yX6_isLetter wsX6_isLetter) := goodIn_app (goodIn_of _ (by decide +kernel)) ggX6_loneLetter_X6_isLetter
theorem dX6_loneLetter_0 : decode cX6_loneLetter 0 = .ok (.aload_n 0, 1) := by decide +kernel
theorem dX6_loneLetter_1 : decode cX6_loneLetter 1 = .ok (.aload_n 0, 1) := by decide +kernel
theorem dX6_loneLetter_2 : decode cX6_loneLetter 2 = .ok (.getfield 24, 3) := by decide +kernel
theorem dX6_loneLetter_5 : decode cX6_loneLetter 5 = .ok (.iconst 1, 1) := by decide +kernel
theorem dX6_loneLetter_6 : decode cX6_loneLetter 6 = .ok (.iadd, 1) := by decide +kernel
theorem dX6_loneLetter_7 : decode cX6_loneLetter 7 = .ok (.invokevirtual 80, 3) := by decide +kernel
theorem dX6_loneLetter_10 : decode cX6_loneLetter 10 = .ok (.invokestatic 94, 3) := by decide +kernel
theorem dX6_loneLetter_13 : decode cX6_loneLetter 13 = .ok (.ifCond .eq 7, 3) := by decide +kernel
theorem dX6_loneLetter_16 : decode cX6_loneLetter 16 = .ok (.iconst (-1), 1) := by decide +kernel
theorem dX6_loneLetter_17 : decode cX6_loneLetter 17 = .ok (.goto 11, 3) := by decide +kernel
theorem dX6_loneLetter_20 : decode cX6_loneLetter 20 = .ok (.aload_n 0, 1) := by decide +kernel
theorem dX6_loneLetter_21 : decode cX6_loneLetter 21 = .ok (.aload_n 0, 1) := by decide +kernel
theorem dX6_loneLetter_22 : decode cX6_loneLetter 22 = .ok (.getfield 24, 3) := by decide +kernel
theorem dX6_loneLetter_25 : decode cX6_loneLetter 25 = .ok (.invokevirtual 80, 3) := by decide +kernel
theorem dX6_loneLetter_28 : decode cX6_loneLetter 28 = .ok (.ireturn, 1) := by decide +kernel
set_option maxRecDepth 20000 in
theorem ggX6_skipBlanks_X6_byteAt : GoodIn wsX6_skipBlanks wsX6_byteAt := goodIn_r _ [7, 2, 8, 9, 10, 11] (by decide +kernel) (by decide +kernel)
set_option maxRecDepth 20000 in
theorem gX6_skipBlanks_X6_byteAt : GoodIn wsX6_skipBlanks (wsV RX6 80 RX6 yX6_byteAt wsX6_byteAt) := goodIn_app (goodIn_of _ (by decide +kernel)) ggX6_skipBlanks_X6_byteAt
theorem dX6_skipBlanks_0 : decode cX6_skipBlanks 0 = .ok (.aload_n 0, 1) := by decide +kernel
theorem dX6_skipBlanks_1 : decode cX6_skipBlanks 1 = .ok (.getfield 24, 3) := by decide +kernel
theorem dX6_skipBlanks_4 : decode cX6_skipBlanks 4 = .ok (.aload_n 0, 1) := by decide +kernel
theorem dX6_skipBlanks_5 : decode cX6_skipBlanks 5 = .ok (.getfield 15, 3) := by decide +kernel
theorem dX6_skipBlanks_8 : decode cX6_skipBlanks 8 = .ok (.if_icmp .ge 29, 3) := by decide +kernel
theorem dX6_skipBlanks_11 : decode cX6_skipBlanks 11 = .ok (.aload_n 0, 1) := by decide +kernel
theorem dX6_skipBlanks_12 : decode cX6_skipBlanks 12 = .ok (.aload_n 0, 1) := by decide +kernel
theorem dX6_skipBlanks_13 : decode cX6_skipBlanks 13 = .ok (.getfield 24, 3) := by decide +kernel
theorem dX6_skipBlanks_16 : decode cX6_skipBlanks 16 = .ok (.invokevirtual 80, 3) := by decide +kernel
theorem dX6_skipBlanks_19 : decode cX6_skipBlanks 19 = .ok (.bipush 32, 2) := by decide +kernel
theorem dX6_skipBlanks_21 : decode cX6_skipBlanks 21 = .ok (.if_icmp .ne 16, 3) := by decide +kernel
theorem dX6_skipBlanks_24 : decode cX6_skipBlanks 24 = .ok (.aload_n 0, 1) := by decide +kernel
theorem dX6_skipBlanks_25 : decode cX6_skipBlanks 25 = .ok (.dup, 1) := by decide +kernel
theorem dX6_skipBlanks_26 : decode cX6_skipBlanks 26 = .ok (.getfield 24, 3) := by decide +kernel
theorem dX6_skipBlanks_29 : decode cX6_skipBlanks 29 = .ok (.iconst 1, 1) := by decide +kernel
theorem dX6_skipBlanks_30 : decode cX6_skipBlanks 30 = .ok (.iadd, 1) := by decide +kernel
theorem dX6_skipBlanks_31 : decode cX6_skipBlanks 31 = .ok (.putfield 24, 3) := by decide +kernel
theorem dX6_skipBlanks_34 : decode cX6_skipBlanks 34 = .ok (.goto (-34), 3) := by decide +kernel
theorem dX6_skipBlanks_37 : decode cX6_skipBlanks 37 = .ok (.return_, 1) := by decide +kernel
theorem dX6_byteAt_0 : decode cX6_byteAt 0 = .ok (.iload_n 1, 1) := by decide +kernel
theorem dX6_byteAt_1 : decode cX6_byteAt 1 = .ok (.ifCond .lt 26, 3) := by decide +kernel
theorem dX6_byteAt_4 : decode cX6_byteAt 4 = .ok (.iload_n 1, 1) := by decide +kernel
theorem dX6_byteAt_5 : decode cX6_byteAt 5 = .ok (.aload_n 0, 1) := by decide +kernel
theorem dX6_byteAt_6 : decode cX6_byteAt 6 = .ok (.getfield 15, 3) := by decide +kernel
theorem dX6_byteAt_9 : decode cX6_byteAt 9 = .ok (.if_icmp .ge 18, 3) := by decide +kernel
theorem dX6_byteAt_12 : decode cX6_byteAt 12 = .ok (.iload_n 1, 1) := by decide +kernel
theorem dX6_byteAt_13 : decode cX6_byteAt 13 = .ok (.bipush 120, 2) := by decide +kernel
theorem dX6_byteAt_15 : decode cX6_byteAt 15 = .ok (.if_icmp .ge 12, 3) := by decide +kernel
theorem dX6_byteAt_18 : decode cX6_byteAt 18 = .ok (.aload_n 0, 1) := by decide +kernel
theorem dX6_byteAt_19 : decode cX6_byteAt 19 = .ok (.getfield 9, 3) := by decide +kernel
theorem dX6_byteAt_22 : decode cX6_byteAt 22 = .ok (.iload_n 1, 1) := by decide +kernel
theorem dX6_byteAt_23 : decode cX6_byteAt 23 = .ok (.iaload, 1) := by decide +kernel
theorem dX6_byteAt_24 : decode cX6_byteAt 24 = .ok (.goto 4, 3) := by decide +kernel
theorem dX6_byteAt_27 : decode cX6_byteAt 27 = .ok (.iconst (-1), 1) := by decide +kernel
theorem dX6_byteAt_28 : decode cX6_byteAt 28 = .ok (.ireturn, 1) := by decide +kernel
theorem dX6_isDigit_0 : decode cX6_isDigit 0 = .ok (.iload_n 0, 1) := by decide +kernel
theorem dX6_isDigit_1 : decode cX6_isDigit 1 = .ok (.bipush 48, 2) := by decide +kernel
theorem dX6_isDigit_3 : decode cX6_isDigit 3 = .ok (.if_icmp .lt 13, 3) := by decide +kernel
theorem dX6_isDigit_6 : decode cX6_isDigit 6 = .ok (.iload_n 0, 1) := by decide +kernel
theorem dX6_isDigit_7 : decode cX6_isDigit 7 = .ok (.bipush 57, 2) := by decide +kernel
theorem dX6_isDigit_9 : decode cX6_isDigit 9 = .ok (.if_icmp .gt 7, 3) := by decide +kernel
theorem dX6_isDigit_12 : decode cX6_isDigit 12 = .ok (.iconst 1, 1) := by decide +kernel
theorem dX6_isDigit_13 : decode cX6_isDigit 13 = .ok (.goto 4, 3) := by decide +kernel
theorem dX6_isDigit_16 : decode cX6_isDigit 16 = .ok (.iconst 0, 1) := by decide +kernel
theorem dX6_isDigit_17 : decode cX6_isDigit 17 = .ok (.ireturn, 1) := by decide +kernel
theorem dX6_isLetter_0 : decode cX6_isLetter 0 = .ok (.iload_n 0, 1) := by decide +kernel
theorem dX6_isLetter_1 : decode cX6_isLetter 1 = .ok (.bipush 97, 2) := by decide +kernel
theorem dX6_isLetter_3 : decode cX6_isLetter 3 = .ok (.if_icmp .lt 13, 3) := by decide +kernel
theorem dX6_isLetter_6 : decode cX6_isLetter 6 = .ok (.iload_n 0, 1) := by decide +kernel
theorem dX6_isLetter_7 : decode cX6_isLetter 7 = .ok (.bipush 122, 2) := by decide +kernel
theorem dX6_isLetter_9 : decode cX6_isLetter 9 = .ok (.if_icmp .gt 7, 3) := by decide +kernel
theorem dX6_isLetter_12 : decode cX6_isLetter 12 = .ok (.iconst 1, 1) := by decide +kernel
theorem dX6_isLetter_13 : decode cX6_isLetter 13 = .ok (.goto 4, 3) := by decide +kernel
theorem dX6_isLetter_16 : decode cX6_isLetter 16 = .ok (.iconst 0, 1) := by decide +kernel
theorem dX6_isLetter_17 : decode cX6_isLetter 17 = .ok (.ireturn, 1) := by decide +kernel
theorem dX7_init_0 : decode cX7_init 0 = .ok (.aload_n 0, 1) := by decide +kernel
theorem dX7_init_1 : decode cX7_init 1 = .ok (.invokespecial 3, 3) := by decide +kernel
theorem dX7_init_4 : decode cX7_init 4 = .ok (.aload_n 0, 1) := by decide +kernel
theorem dX7_init_5 : decode cX7_init 5 = .ok (.iconst 4, 1) := by decide +kernel
theorem dX7_init_6 : decode cX7_init 6 = .ok (.putfield 9, 3) := by decide +kernel
theorem dX7_init_9 : decode cX7_init 9 = .ok (.aload_n 0, 1) := by decide +kernel
theorem dX7_init_10 : decode cX7_init 10 = .ok (.bipush 9, 2) := by decide +kernel
theorem dX7_init_12 : decode cX7_init 12 = .ok (.newarray .int, 2) := by decide +kernel
theorem dX7_init_14 : decode cX7_init 14 = .ok (.putfield 15, 3) := by decide +kernel
theorem dX7_init_17 : decode cX7_init 17 = .ok (.aload_n 0, 1) := by decide +kernel
theorem dX7_init_18 : decode cX7_init 18 = .ok (.bipush 9, 2) := by decide +kernel
theorem dX7_init_20 : decode cX7_init 20 = .ok (.newarray .int, 2) := by decide +kernel
theorem dX7_init_22 : decode cX7_init 22 = .ok (.putfield 19, 3) := by decide +kernel
theorem dX7_init_25 : decode cX7_init 25 = .ok (.aload_n 0, 1) := by decide +kernel
theorem dX7_init_26 : decode cX7_init 26 = .ok (.bipush 9, 2) := by decide +kernel
theorem dX7_init_28 : decode cX7_init 28 = .ok (.newarray .int, 2) := by decide +kernel
theorem dX7_init_30 : decode cX7_init 30 = .ok (.putfield 22, 3) := by decide +kernel
theorem dX7_init_33 : decode cX7_init 33 = .ok (.aload_n 0, 1) := by decide +kernel
theorem dX7_init_34 : decode cX7_init 34 = .ok (.bipush 6, 2) := by decide +kernel
theorem dX7_init_36 : decode cX7_init 36 = .ok (.newarray .int, 2) := by decide +kernel
theorem dX7_init_38 : decode cX7_init 38 = .ok (.putfield 25, 3) := by decide +kernel
theorem dX7_init_41 : decode cX7_init 41 = .ok (.aload_n 0, 1) := by decide +kernel
theorem dX7_init_42 : decode cX7_init 42 = .ok (.bipush 6, 2) := by decide +kernel
theorem dX7_init_44 : decode cX7_init 44 = .ok (.newarray .int, 2) := by decide +kernel
theorem dX7_init_46 : decode cX7_init 46 = .ok (.putfield 28, 3) := by decide +kernel
theorem dX7_init_49 : decode cX7_init 49 = .ok (.return_, 1) := by decide +kernel
theorem dX7_begin_0 : decode cX7_begin 0 = .ok (.aload_n 0, 1) := by decide +kernel
theorem dX7_begin_1 : decode cX7_begin 1 = .ok (.iconst 4, 1) := by decide +kernel
theorem dX7_begin_2 : decode cX7_begin 2 = .ok (.putfield 9, 3) := by decide +kernel
theorem dX7_begin_5 : decode cX7_begin 5 = .ok (.aload_n 0, 1) := by decide +kernel
theorem dX7_begin_6 : decode cX7_begin 6 = .ok (.iconst 0, 1) := by decide +kernel
theorem dX7_begin_7 : decode cX7_begin 7 = .ok (.putfield 31, 3) := by decide +kernel
theorem dX7_begin_10 : decode cX7_begin 10 = .ok (.aload_n 0, 1) := by decide +kernel
theorem dX7_begin_11 : decode cX7_begin 11 = .ok (.iconst 0, 1) := by decide +kernel
theorem dX7_begin_12 : decode cX7_begin 12 = .ok (.putfield 34, 3) := by decide +kernel
theorem dX7_begin_15 : decode cX7_begin 15 = .ok (.return_, 1) := by decide +kernel
theorem dX7_become_0 : decode cX7_become 0 = .ok (.aload_n 0, 1) := by decide +kernel
theorem dX7_become_1 : decode cX7_become 1 = .ok (.aload_n 1, 1) := by decide +kernel
theorem dX7_become_2 : decode cX7_become 2 = .ok (.getfield 9, 3) := by decide +kernel
theorem dX7_become_5 : decode cX7_become 5 = .ok (.putfield 9, 3) := by decide +kernel
theorem dX7_become_8 : decode cX7_become 8 = .ok (.aload_n 0, 1) := by decide +kernel
theorem dX7_become_9 : decode cX7_become 9 = .ok (.aload_n 1, 1) := by decide +kernel
theorem dX7_become_10 : decode cX7_become 10 = .ok (.getfield 31, 3) := by decide +kernel
theorem dX7_become_13 : decode cX7_become 13 = .ok (.putfield 31, 3) := by decide +kernel
theorem dX7_become_16 : decode cX7_become 16 = .ok (.aload_n 0, 1) := by decide +kernel
theorem dX7_become_17 : decode cX7_become 17 = .ok (.aload_n 1, 1) := by decide +kernel
theorem dX7_become_18 : decode cX7_become 18 = .ok (.getfield 34, 3) := by decide +kernel
theorem dX7_become_21 : decode cX7_become 21 = .ok (.putfield 34, 3) := by decide +kernel
theorem dX7_become_24 : decode cX7_become 24 = .ok (.aload_n 1, 1) := by decide +kernel
theorem dX7_become_25 : decode cX7_become 25 = .ok (.getfield 15, 3) := by decide +kernel
theorem dX7_become_28 : decode cX7_become 28 = .ok (.iconst 0, 1) := by decide +kernel
theorem dX7_become_29 : decode cX7_become 29 = .ok (.aload_n 0, 1) := by decide +kernel
theorem dX7_become_30 : decode cX7_become 30 = .ok (.getfield 15, 3) := by decide +kernel
theorem dX7_become_33 : decode cX7_become 33 = .ok (.iconst 0, 1) := by decide +kernel
theorem dX7_become_34 : decode cX7_become 34 = .ok (.bipush 9, 2) := by decide +kernel
theorem dX7_become_36 : decode cX7_become 36 = .ok (.invokestatic 37, 3) := by decide +kernel
theorem dX7_become_39 : decode cX7_become 39 = .ok (.aload_n 1, 1) := by decide +kernel
theorem dX7_become_40 : decode cX7_become 40 = .ok (.getfield 19, 3) := by decide +kernel
theorem dX7_become_43 : decode cX7_become 43 = .ok (.iconst 0, 1) := by decide +kernel
theorem dX7_become_44 : decode cX7_become 44 = .ok (.aload_n 0, 1) := by decide +kernel
theorem dX7_become_45 : decode cX7_become 45 = .ok (.getfield 19, 3) := by decide +kernel
theorem dX7_become_48 : decode cX7_become 48 = .ok (.iconst 0, 1) := by decide +kernel
theorem dX7_become_49 : decode cX7_become 49 = .ok (.bipush 9, 2) := by decide +kernel
theorem dX7_become_51 : decode cX7_become 51 = .ok (.invokestatic 37, 3) := by decide +kernel
theorem dX7_become_54 : decode cX7_become 54 = .ok (.aload_n 1, 1) := by decide +kernel
theorem dX7_become_55 : decode cX7_become 55 = .ok (.getfield 22, 3) := by decide +kernel
theorem dX7_become_58 : decode cX7_become 58 = .ok (.iconst 0, 1) := by decide +kernel
theorem dX7_become_59 : decode cX7_become 59 = .ok (.aload_n 0, 1) := by decide +kernel
theorem dX7_become_60 : decode cX7_become 60 = .ok (.getfield 22, 3) := by decide +kernel
theorem dX7_become_63 : decode cX7_become 63 = .ok (.iconst 0, 1) := by decide +kernel
theorem dX7_become_64 : decode cX7_become 64 = .ok (.bipush 9, 2) := by decide +kernel
theorem dX7_become_66 : decode cX7_become 66 = .ok (.invokestatic 37, 3) := by decide +kernel
theorem dX7_become_69 : decode cX7_become 69 = .ok (.aload_n 1, 1) := by decide +kernel
theorem dX7_become_70 : decode cX7_become 70 = .ok (.getfield 25, 3) := by decide +kernel
theorem dX7_become_73 : decode cX7_become 73 = .ok (.iconst 0, 1) := by decide +kernel
theorem dX7_become_74 : decode cX7_become 74 = .ok (.aload_n 0, 1) := by decide +kernel
theorem dX7_become_75 : decode cX7_become 75 = .ok (.getfield 25, 3) := by decide +kernel
theorem dX7_become_78 : decode cX7_become 78 = .ok (.iconst 0, 1) := by decide +kernel
theorem dX7_become_79 : decode cX7_become 79 = .ok (.bipush 6, 2) := by decide +kernel
theorem dX7_become_81 : decode cX7_become 81 = .ok (.invokestatic 37, 3) := by decide +kernel
theorem dX7_become_84 : decode cX7_become 84 = .ok (.aload_n 1, 1) := by decide +kernel
theorem dX7_become_85 : decode cX7_become 85 = .ok (.getfield 28, 3) := by decide +kernel
theorem dX7_become_88 : decode cX7_become 88 = .ok (.iconst 0, 1) := by decide +kernel
theorem dX7_become_89 : decode cX7_become 89 = .ok (.aload_n 0, 1) := by decide +kernel
theorem dX7_become_90 : decode cX7_become 90 = .ok (.getfield 28, 3) := by decide +kernel
theorem dX7_become_93 : decode cX7_become 93 = .ok (.iconst 0, 1) := by decide +kernel
theorem dX7_become_94 : decode cX7_become 94 = .ok (.bipush 6, 2) := by decide +kernel
theorem dX7_become_96 : decode cX7_become 96 = .ok (.invokestatic 37, 3) := by decide +kernel
theorem dX7_become_99 : decode cX7_become 99 = .ok (.return_, 1) := by decide +kernel
theorem dX7_endsOf_0 : decode cX7_endsOf 0 = .ok (.iconst 1, 1) := by decide +kernel
theorem dX7_endsOf_1 : decode cX7_endsOf 1 = .ok (.aload_n 0, 1) := by decide +kernel
theorem dX7_endsOf_2 : decode cX7_endsOf 2 = .ok (.getfield 15, 3) := by decide +kernel
theorem dX7_endsOf_5 : decode cX7_endsOf 5 = .ok (.iload_n 1, 1) := by decide +kernel
theorem dX7_endsOf_6 : decode cX7_endsOf 6 = .ok (.iaload, 1) := by decide +kernel
theorem dX7_endsOf_7 : decode cX7_endsOf 7 = .ok (.ishl, 1) := by decide +kernel
theorem dX7_endsOf_8 : decode cX7_endsOf 8 = .ok (.iconst 1, 1) := by decide +kernel
theorem dX7_endsOf_9 : decode cX7_endsOf 9 = .ok (.aload_n 0, 1) := by decide +kernel
theorem dX7_endsOf_10 : decode cX7_endsOf 10 = .ok (.getfield 19, 3) := by decide +kernel
theorem dX7_endsOf_13 : decode cX7_endsOf 13 = .ok (.iload_n 1, 1) := by decide +kernel
theorem dX7_endsOf_14 : decode cX7_endsOf 14 = .ok (.iaload, 1) := by decide +kernel
theorem dX7_endsOf_15 : decode cX7_endsOf 15 = .ok (.ishl, 1) := by decide +kernel
theorem dX7_endsOf_16 : decode cX7_endsOf 16 = .ok (.ior, 1) := by decide +kernel
theorem dX7_endsOf_17 : decode cX7_endsOf 17 = .ok (.ireturn, 1) := by decide +kernel
set_option maxRecDepth 20000 in
theorem ggX8_init_X4_init : GoodIn wsX8_init wsX4_init := goodIn_r _ [12, 8, 13, 14, 15, 16, 17, 18, 2, 3, 19, 20, 21, 22, 23, 24, 25, 26, 27, 28, 29, 30, 31, 32, 33, 36, 37, 38, 39, 40, 41, 42, 43] (by decide +kernel) (by decide +kernel)
set_option maxRecDepth 20000 in
theorem gX8_init_X4_init : GoodIn wsX8_init (wsX4_init) := ggX8_init_X4_init
theorem dX8_init_0 : decode cX8_init 0 = .ok (.aload_n 0, 1) := by decide +kernel
theorem dX8_init_1 : decode cX8_init 1 = .ok (.invokespecial 5, 3) := by decide +kernel
theorem dX8_init_4 : decode cX8_init 4 = .ok (.aload_n 0, 1) := by decide +kernel
theorem dX8_init_5 : decode cX8_init 5 = .ok (.new 11, 3) := by decide +kernel
theorem dX8_init_8 : decode cX8_init 8 = .ok (.dup, 1) := by decide +kernel
theorem dX8_init_9 : decode cX8_init 9 = .ok (.invokespecial 13, 3) := by decide +kernel
theorem dX8_init_12 : decode cX8_init 12 = .ok (.putfield 14, 3) := by decide +kernel
theorem dX8_init_15 : decode cX8_init 15 = .ok (.aload_n 0, 1) := by decide +kernel
theorem dX8_init_16 : decode cX8_init 16 = .ok (.bipush 8, 2) := by decide +kernel
theorem dX8_init_18 : decode cX8_init 18 = .ok (.newarray .int, 2) := by decide +kernel
theorem dX8_init_20 : decode cX8_init 20 = .ok (.putfield 18, 3) := by decide +kernel
theorem dX8_init_23 : decode cX8_init 23 = .ok (.return_, 1) := by decide +kernel
theorem dX8_widthIn_0 : decode cX8_widthIn 0 = .ok (.iload_n 0, 1) := by decide +kernel
theorem dX8_widthIn_1 : decode cX8_widthIn 1 = .ok (.sipush 8192, 3) := by decide +kernel
theorem dX8_widthIn_4 : decode cX8_widthIn 4 = .ok (.idiv, 1) := by decide +kernel
theorem dX8_widthIn_5 : decode cX8_widthIn 5 = .ok (.ireturn, 1) := by decide +kernel
theorem dX8_streetsIn_0 : decode cX8_streetsIn 0 = .ok (.iload_n 0, 1) := by decide +kernel
theorem dX8_streetsIn_1 : decode cX8_streetsIn 1 = .ok (.sipush 512, 3) := by decide +kernel
theorem dX8_streetsIn_4 : decode cX8_streetsIn 4 = .ok (.irem, 1) := by decide +kernel
theorem dX8_streetsIn_5 : decode cX8_streetsIn 5 = .ok (.ireturn, 1) := by decide +kernel
theorem dX8_tenTo_0 : decode cX8_tenTo 0 = .ok (.iconst 1, 1) := by decide +kernel
theorem dX8_tenTo_1 : decode cX8_tenTo 1 = .ok (.istore_n 1, 1) := by decide +kernel
theorem dX8_tenTo_2 : decode cX8_tenTo 2 = .ok (.iconst 0, 1) := by decide +kernel
theorem dX8_tenTo_3 : decode cX8_tenTo 3 = .ok (.istore_n 2, 1) := by decide +kernel
theorem dX8_tenTo_4 : decode cX8_tenTo 4 = .ok (.iload_n 2, 1) := by decide +kernel
theorem dX8_tenTo_5 : decode cX8_tenTo 5 = .ok (.iload_n 0, 1) := by decide +kernel
theorem dX8_tenTo_6 : decode cX8_tenTo 6 = .ok (.if_icmp .ge 20, 3) := by decide +kernel
theorem dX8_tenTo_9 : decode cX8_tenTo 9 = .ok (.iload_n 2, 1) := by decide +kernel
theorem dX8_tenTo_10 : decode cX8_tenTo 10 = .ok (.bipush 9, 2) := by decide +kernel
theorem dX8_tenTo_12 : decode cX8_tenTo 12 = .ok (.if_icmp .ge 14, 3) := by decide +kernel
theorem dX8_tenTo_15 : decode cX8_tenTo 15 = .ok (.iload_n 1, 1) := by decide +kernel
theorem dX8_tenTo_16 : decode cX8_tenTo 16 = .ok (.bipush 10, 2) := by decide +kernel
theorem dX8_tenTo_18 : decode cX8_tenTo 18 = .ok (.imul, 1) := by decide +kernel
theorem dX8_tenTo_19 : decode cX8_tenTo 19 = .ok (.istore_n 1, 1) := by decide +kernel
theorem dX8_tenTo_20 : decode cX8_tenTo 20 = .ok (.iinc 2 1, 3) := by decide +kernel
theorem dX8_tenTo_23 : decode cX8_tenTo 23 = .ok (.goto (-19), 3) := by decide +kernel
theorem dX8_tenTo_26 : decode cX8_tenTo 26 = .ok (.iload_n 1, 1) := by decide +kernel
theorem dX8_tenTo_27 : decode cX8_tenTo 27 = .ok (.ireturn, 1) := by decide +kernel
set_option maxRecDepth 20000 in
theorem ggX8_widestWay_X8_fewestStreets : GoodIn wsX8_widestWay wsX8_fewestStreets := goodIn_r _ [5, 6, 7, 8, 9, 10, 11, 4, 12, 13, 14, 15, 16, 17, 18, 19, 20, 21, 22, 23, 24, 25, 26, 27, 28, 29, 30, 31, 32, 33, 34, 35, 36, 37, 38, 39, 40, 41, 42, 43, 44, 45, 46] (by decide +kernel) (by decide +kernel)
set_option maxRecDepth 20000 in
theorem gX8_widestWay_X8_fewestStreets : GoodIn wsX8_widestWay (wsV RX8 22 RX8 yX8_fewestStreets wsX8_fewestStreets) := goodIn_app (goodIn_of _ (by decide +kernel)) ggX8_widestWay_X8_fewestStreets
theorem dX8_widestWay_0 : decode cX8_widestWay 0 = .ok (.bipush 10, 2) := by decide +kernel
theorem dX8_widestWay_2 : decode cX8_widestWay 2 = .ok (.istore_n 3, 1) := by decide +kernel
theorem dX8_widestWay_3 : decode cX8_widestWay 3 = .ok (.iload_n 3, 1) := by decide +kernel
theorem dX8_widestWay_4 : decode cX8_widestWay 4 = .ok (.iconst 1, 1) := by decide +kernel
theorem dX8_widestWay_5 : decode cX8_widestWay 5 = .ok (.if_icmp .lt 23, 3) := by decide +kernel
theorem dX8_widestWay_8 : decode cX8_widestWay 8 = .ok (.aload_n 0, 1) := by decide +kernel
theorem dX8_widestWay_9 : decode cX8_widestWay 9 = .ok (.iload_n 1, 1) := by decide +kernel
theorem dX8_widestWay_10 : decode cX8_widestWay 10 = .ok (.iload_n 2, 1) := by decide +kernel
theorem dX8_widestWay_11 : decode cX8_widestWay 11 = .ok (.iload_n 3, 1) := by decide +kernel
theorem dX8_widestWay_12 : decode cX8_widestWay 12 = .ok (.invokevirtual 22, 3) := by decide +kernel
theorem dX8_widestWay_15 : decode cX8_widestWay 15 = .ok (.bipush (-9), 2) := by decide +kernel
theorem dX8_widestWay_17 : decode cX8_widestWay 17 = .ok (.if_icmp .eq 5, 3) := by decide +kernel
theorem dX8_widestWay_20 : decode cX8_widestWay 20 = .ok (.iload_n 3, 1) := by decide +kernel
theorem dX8_widestWay_21 : decode cX8_widestWay 21 = .ok (.ireturn, 1) := by decide +kernel
theorem dX8_widestWay_22 : decode cX8_widestWay 22 = .ok (.iinc 3 (-1), 3) := by decide +kernel
theorem dX8_widestWay_25 : decode cX8_widestWay 25 = .ok (.goto (-22), 3) := by decide +kernel
theorem dX8_widestWay_28 : decode cX8_widestWay 28 = .ok (.bipush (-9), 2) := by decide +kernel
theorem dX8_widestWay_30 : decode cX8_widestWay 30 = .ok (.ireturn, 1) := by decide +kernel
set_option maxRecDepth 20000 in
theorem ggX8_fewestStreets_X8_oneStreetOn : GoodIn wsX8_fewestStreets wsX8_oneStreetOn := goodIn_r _ [8, 1, 9, 10, 11, 12, 13, 14, 15, 16, 17, 18, 19, 24, 25, 26, 27, 28, 29, 30, 31, 32, 33, 34, 35, 36, 37, 38, 39, 40, 41, 42] (by decide +kernel) (by decide +kernel)
set_option maxRecDepth 20000 in
theorem gX8_fewestStreets_X8_oneStreetOn : GoodIn wsX8_fewestStreets (wsV RX8 30 RX8 yX8_oneStreetOn wsX8_oneStreetOn) := goodIn_app (goodIn_of _ (by decide +kernel)) ggX8_fewestStreets_X8_oneStreetOn
set_option maxRecDepth 20000 in
theorem ggX8_fewestStreets_X5_has : GoodIn wsX8_fewestStreets wsX5_has := goodIn_r _ [23] (by decide +kernel) (by decide +kernel)
set_option maxRecDepth 20000 in
theorem gX8_fewestStreets_X5_has : GoodIn wsX8_fewestStreets (va_wsS RX8 34 yX5_has wsX5_has) := goodIn_app (goodIn_of _ (by decide +kernel)) ggX8_fewestStreets_X5_has
theorem dX8_fewestStreets_0 : decode cX8_fewestStreets 0 = .ok (.iconst 1, 1) := by decide +kernel
theorem dX8_fewestStreets_1 : decode cX8_fewestStreets 1 = .ok (.iload_n 1, 1) := by decide +kernel
theorem dX8_fewestStreets_2 : decode cX8_fewestStreets 2 = .ok (.ishl, 1) := by decide +kernel
theorem dX8_fewestStreets_3 : decode cX8_fewestStreets 3 = .ok (.istore 4, 2) := by decide +kernel
theorem dX8_fewestStreets_5 : decode cX8_fewestStreets 5 = .ok (.iconst 1, 1) := by decide +kernel
theorem dX8_fewestStreets_6 : decode cX8_fewestStreets 6 = .ok (.istore 5, 2) := by decide +kernel
theorem dX8_fewestStreets_8 : decode cX8_fewestStreets 8 = .ok (.iload 5, 2) := by decide +kernel
theorem dX8_fewestStreets_10 : decode cX8_fewestStreets 10 = .ok (.aload_n 0, 1) := by decide +kernel
theorem dX8_fewestStreets_11 : decode cX8_fewestStreets 11 = .ok (.getfield 14, 3) := by decide +kernel
theorem dX8_fewestStreets_14 : decode cX8_fewestStreets 14 = .ok (.getfield 26, 3) := by decide +kernel
theorem dX8_fewestStreets_17 : decode cX8_fewestStreets 17 = .ok (.if_icmp .ge 30, 3) := by decide +kernel
theorem dX8_fewestStreets_20 : decode cX8_fewestStreets 20 = .ok (.aload_n 0, 1) := by decide +kernel
theorem dX8_fewestStreets_21 : decode cX8_fewestStreets 21 = .ok (.iload 4, 2) := by decide +kernel
theorem dX8_fewestStreets_23 : decode cX8_fewestStreets 23 = .ok (.iload_n 3, 1) := by decide +kernel
theorem dX8_fewestStreets_24 : decode cX8_fewestStreets 24 = .ok (.invokevirtual 30, 3) := by decide +kernel
theorem dX8_fewestStreets_27 : decode cX8_fewestStreets 27 = .ok (.istore 4, 2) := by decide +kernel
theorem dX8_fewestStreets_29 : decode cX8_fewestStreets 29 = .ok (.iload 4, 2) := by decide +kernel
theorem dX8_fewestStreets_31 : decode cX8_fewestStreets 31 = .ok (.iload_n 2, 1) := by decide +kernel
theorem dX8_fewestStreets_32 : decode cX8_fewestStreets 32 = .ok (.invokestatic 34, 3) := by decide +kernel
theorem dX8_fewestStreets_35 : decode cX8_fewestStreets 35 = .ok (.ifCond .eq 6, 3) := by decide +kernel
theorem dX8_fewestStreets_38 : decode cX8_fewestStreets 38 = .ok (.iload 5, 2) := by decide +kernel
theorem dX8_fewestStreets_40 : decode cX8_fewestStreets 40 = .ok (.ireturn, 1) := by decide +kernel
theorem dX8_fewestStreets_41 : decode cX8_fewestStreets 41 = .ok (.iinc 5 1, 3) := by decide +kernel
theorem dX8_fewestStreets_44 : decode cX8_fewestStreets 44 = .ok (.goto (-36), 3) := by decide +kernel
theorem dX8_fewestStreets_47 : decode cX8_fewestStreets 47 = .ok (.bipush (-9), 2) := by decide +kernel
theorem dX8_fewestStreets_49 : decode cX8_fewestStreets 49 = .ok (.ireturn, 1) := by decide +kernel
set_option maxRecDepth 20000 in
theorem ggX8_oneStreetOn_X7_endsOf : GoodIn wsX8_oneStreetOn wsX7_endsOf := goodIn_r _ [10, 11, 12, 15, 16, 17, 18, 19, 20, 21, 22, 23, 24, 25, 26, 27, 28, 29, 30, 31] (by decide +kernel) (by decide +kernel)
set_option maxRecDepth 20000 in
theorem gX8_oneStreetOn_X7_endsOf_u46X4 : GoodIn wsX8_oneStreetOn (va_wsU RX8 46 RX4 "KindStreets$Town" ⟨"KindStreets$Plan", "endsOf", "(I)I"⟩ yX7_endsOf wsX7_endsOf) := goodIn_app (goodIn_of _ (by decide +kernel)) ggX8_oneStreetOn_X7_endsOf
theorem dX8_oneStreetOn_0 : decode cX8_oneStreetOn 0 = .ok (.iload_n 1, 1) := by decide +kernel
theorem dX8_oneStreetOn_1 : decode cX8_oneStreetOn 1 = .ok (.istore_n 3, 1) := by decide +kernel
theorem dX8_oneStreetOn_2 : decode cX8_oneStreetOn 2 = .ok (.iconst 0, 1) := by decide +kernel
theorem dX8_oneStreetOn_3 : decode cX8_oneStreetOn 3 = .ok (.istore 4, 2) := by decide +kernel
theorem dX8_oneStreetOn_5 : decode cX8_oneStreetOn 5 = .ok (.iload 4, 2) := by decide +kernel
theorem dX8_oneStreetOn_7 : decode cX8_oneStreetOn 7 = .ok (.aload_n 0, 1) := by decide +kernel
theorem dX8_oneStreetOn_8 : decode cX8_oneStreetOn 8 = .ok (.getfield 14, 3) := by decide +kernel
theorem dX8_oneStreetOn_11 : decode cX8_oneStreetOn 11 = .ok (.getfield 40, 3) := by decide +kernel
theorem dX8_oneStreetOn_14 : decode cX8_oneStreetOn 14 = .ok (.if_icmp .ge 49, 3) := by decide +kernel
theorem dX8_oneStreetOn_17 : decode cX8_oneStreetOn 17 = .ok (.aload_n 0, 1) := by decide +kernel
theorem dX8_oneStreetOn_18 : decode cX8_oneStreetOn 18 = .ok (.getfield 14, 3) := by decide +kernel
theorem dX8_oneStreetOn_21 : decode cX8_oneStreetOn 21 = .ok (.getfield 43, 3) := by decide +kernel
theorem dX8_oneStreetOn_24 : decode cX8_oneStreetOn 24 = .ok (.iload 4, 2) := by decide +kernel
theorem dX8_oneStreetOn_26 : decode cX8_oneStreetOn 26 = .ok (.iaload, 1) := by decide +kernel
theorem dX8_oneStreetOn_27 : decode cX8_oneStreetOn 27 = .ok (.iload_n 2, 1) := by decide +kernel
theorem dX8_oneStreetOn_28 : decode cX8_oneStreetOn 28 = .ok (.if_icmp .lt 29, 3) := by decide +kernel
theorem dX8_oneStreetOn_31 : decode cX8_oneStreetOn 31 = .ok (.iload_n 1, 1) := by decide +kernel
theorem dX8_oneStreetOn_32 : decode cX8_oneStreetOn 32 = .ok (.aload_n 0, 1) := by decide +kernel
theorem dX8_oneStreetOn_33 : decode cX8_oneStreetOn 33 = .ok (.getfield 14, 3) := by decide +kernel
theorem dX8_oneStreetOn_36 : decode cX8_oneStreetOn 36 = .ok (.iload 4, 2) := by decide +kernel
theorem dX8_oneStreetOn_38 : decode cX8_oneStreetOn 38 = .ok (.invokevirtual 46, 3) := by decide +kernel
theorem dX8_oneStreetOn_41 : decode cX8_oneStreetOn 41 = .ok (.iand, 1) := by decide +kernel
theorem dX8_oneStreetOn_42 : decode cX8_oneStreetOn 42 = .ok (.ifCond .eq 15, 3) := by decide +kernel
theorem dX8_oneStreetOn_45 : decode cX8_oneStreetOn 45 = .ok (.iload_n 3, 1) := by decide +kernel
theorem dX8_oneStreetOn_46 : decode cX8_oneStreetOn 46 = .ok (.aload_n 0, 1) := by decide +kernel
theorem dX8_oneStreetOn_47 : decode cX8_oneStreetOn 47 = .ok (.getfield 14, 3) := by decide +kernel
theorem dX8_oneStreetOn_50 : decode cX8_oneStreetOn 50 = .ok (.iload 4, 2) := by decide +kernel
theorem dX8_oneStreetOn_52 : decode cX8_oneStreetOn 52 = .ok (.invokevirtual 46, 3) := by decide +kernel
theorem dX8_oneStreetOn_55 : decode cX8_oneStreetOn 55 = .ok (.ior, 1) := by decide +kernel
theorem dX8_oneStreetOn_56 : decode cX8_oneStreetOn 56 = .ok (.istore_n 3, 1) := by decide +kernel
theorem dX8_oneStreetOn_57 : decode cX8_oneStreetOn 57 = .ok (.iinc 4 1, 3) := by decide +kernel
theorem dX8_oneStreetOn_60 : decode cX8_oneStreetOn 60 = .ok (.goto (-55), 3) := by decide +kernel
theorem dX8_oneStreetOn_63 : decode cX8_oneStreetOn 63 = .ok (.iload_n 3, 1) := by decide +kernel
theorem dX8_oneStreetOn_64 : decode cX8_oneStreetOn 64 = .ok (.ireturn, 1) := by decide +kernel
set_option maxRecDepth 20000 in
theorem ggX8_leastCut_X5_allOf : GoodIn wsX8_leastCut wsX5_allOf := goodIn_r _ [12] (by decide +kernel) (by decide +kernel)
set_option maxRecDepth 20000 in
theorem gX8_leastCut_X5_allOf : GoodIn wsX8_leastCut (va_wsS RX8 51 yX5_allOf wsX5_allOf) := goodIn_app (goodIn_of _ (by decide +kernel)) ggX8_leastCut_X5_allOf
set_option maxRecDepth 20000 in
theorem ggX8_leastCut_X5_has : GoodIn wsX8_leastCut wsX5_has := goodIn_r _ [15] (by decide +kernel) (by decide +kernel)
set_option maxRecDepth 20000 in
theorem gX8_leastCut_X5_has : GoodIn wsX8_leastCut (va_wsS RX8 34 yX5_has wsX5_has) := goodIn_app (goodIn_of _ (by decide +kernel)) ggX8_leastCut_X5_has
set_option maxRecDepth 20000 in
theorem ggX8_leastCut_X8_cutAround : GoodIn wsX8_leastCut wsX8_cutAround := goodIn_r _ [20, 2, 21, 22, 23, 24, 25, 26, 27, 28, 29, 30, 31, 32, 33, 14, 11, 15, 34, 35, 36, 37, 38, 39, 40, 41, 42, 43, 44, 45, 46, 47, 48, 49, 50, 51, 52] (by decide +kernel) (by decide +kernel)
set_option maxRecDepth 20000 in
theorem gX8_leastCut_X8_cutAround : GoodIn wsX8_leastCut (wsV RX8 54 RX8 yX8_cutAround wsX8_cutAround) := goodIn_app (goodIn_of _ (by decide +kernel)) ggX8_leastCut_X8_cutAround
theorem dX8_leastCut_0 : decode cX8_leastCut 0 = .ok (.ldc 50, 2) := by decide +kernel
theorem dX8_leastCut_2 : decode cX8_leastCut 2 = .ok (.istore_n 3, 1) := by decide +kernel
theorem dX8_leastCut_3 : decode cX8_leastCut 3 = .ok (.iconst 0, 1) := by decide +kernel
theorem dX8_leastCut_4 : decode cX8_leastCut 4 = .ok (.istore 4, 2) := by decide +kernel
theorem dX8_leastCut_6 : decode cX8_leastCut 6 = .ok (.iload 4, 2) := by decide +kernel
theorem dX8_leastCut_8 : decode cX8_leastCut 8 = .ok (.aload_n 0, 1) := by decide +kernel
theorem dX8_leastCut_9 : decode cX8_leastCut 9 = .ok (.getfield 14, 3) := by decide +kernel
theorem dX8_leastCut_12 : decode cX8_leastCut 12 = .ok (.getfield 26, 3) := by decide +kernel
theorem dX8_leastCut_15 : decode cX8_leastCut 15 = .ok (.invokestatic 51, 3) := by decide +kernel
theorem dX8_leastCut_18 : decode cX8_leastCut 18 = .ok (.if_icmp .gt 38, 3) := by decide +kernel
theorem dX8_leastCut_21 : decode cX8_leastCut 21 = .ok (.iload 4, 2) := by decide +kernel
theorem dX8_leastCut_23 : decode cX8_leastCut 23 = .ok (.iload_n 1, 1) := by decide +kernel
theorem dX8_leastCut_24 : decode cX8_leastCut 24 = .ok (.invokestatic 34, 3) := by decide +kernel
theorem dX8_leastCut_27 : decode cX8_leastCut 27 = .ok (.ifCond .eq 23, 3) := by decide +kernel
theorem dX8_leastCut_30 : decode cX8_leastCut 30 = .ok (.iload 4, 2) := by decide +kernel
theorem dX8_leastCut_32 : decode cX8_leastCut 32 = .ok (.iload_n 2, 1) := by decide +kernel
theorem dX8_leastCut_33 : decode cX8_leastCut 33 = .ok (.invokestatic 34, 3) := by decide +kernel
theorem dX8_leastCut_36 : decode cX8_leastCut 36 = .ok (.ifCond .ne 14, 3) := by decide +kernel
theorem dX8_leastCut_39 : decode cX8_leastCut 39 = .ok (.iload_n 3, 1) := by decide +kernel
theorem dX8_leastCut_40 : decode cX8_leastCut 40 = .ok (.aload_n 0, 1) := by decide +kernel
theorem dX8_leastCut_41 : decode cX8_leastCut 41 = .ok (.iload 4, 2) := by decide +kernel
theorem dX8_leastCut_43 : decode cX8_leastCut 43 = .ok (.invokevirtual 54, 3) := by decide +kernel
theorem dX8_leastCut_46 : decode cX8_leastCut 46 = .ok (.invokestatic 57, 3) := by decide +kernel
theorem dX8_leastCut_49 : decode cX8_leastCut 49 = .ok (.istore_n 3, 1) := by decide +kernel
theorem dX8_leastCut_50 : decode cX8_leastCut 50 = .ok (.iinc 4 1, 3) := by decide +kernel
theorem dX8_leastCut_53 : decode cX8_leastCut 53 = .ok (.goto (-47), 3) := by decide +kernel
theorem dX8_leastCut_56 : decode cX8_leastCut 56 = .ok (.iload_n 3, 1) := by decide +kernel
theorem dX8_leastCut_57 : decode cX8_leastCut 57 = .ok (.ireturn, 1) := by decide +kernel
set_option maxRecDepth 20000 in
theorem ggX8_cutAround_X4_leadsOut : GoodIn wsX8_cutAround wsX4_leadsOut := goodIn_r _ [9, 10, 11, 12, 13, 14, 15, 16, 17, 20, 21, 22, 23, 24, 25, 26, 27, 28, 29, 30, 31, 32, 33, 34, 35, 36] (by decide +kernel) (by decide +kernel)
set_option maxRecDepth 20000 in
theorem gX8_cutAround_X4_leadsOut : GoodIn wsX8_cutAround (wsV RX8 62 RX4 yX4_leadsOut wsX4_leadsOut) := goodIn_app (goodIn_of _ (by decide +kernel)) ggX8_cutAround_X4_leadsOut
theorem dX8_cutAround_0 : decode cX8_cutAround 0 = .ok (.iconst 0, 1) := by decide +kernel
theorem dX8_cutAround_1 : decode cX8_cutAround 1 = .ok (.istore_n 2, 1) := by decide +kernel
theorem dX8_cutAround_2 : decode cX8_cutAround 2 = .ok (.iconst 0, 1) := by decide +kernel
theorem dX8_cutAround_3 : decode cX8_cutAround 3 = .ok (.istore_n 3, 1) := by decide +kernel
theorem dX8_cutAround_4 : decode cX8_cutAround 4 = .ok (.iload_n 3, 1) := by decide +kernel
theorem dX8_cutAround_5 : decode cX8_cutAround 5 = .ok (.aload_n 0, 1) := by decide +kernel
theorem dX8_cutAround_6 : decode cX8_cutAround 6 = .ok (.getfield 14, 3) := by decide +kernel
theorem dX8_cutAround_9 : decode cX8_cutAround 9 = .ok (.getfield 40, 3) := by decide +kernel
theorem dX8_cutAround_12 : decode cX8_cutAround 12 = .ok (.if_icmp .ge 45, 3) := by decide +kernel
theorem dX8_cutAround_15 : decode cX8_cutAround 15 = .ok (.aload_n 0, 1) := by decide +kernel
theorem dX8_cutAround_16 : decode cX8_cutAround 16 = .ok (.getfield 14, 3) := by decide +kernel
theorem dX8_cutAround_19 : decode cX8_cutAround 19 = .ok (.iload_n 3, 1) := by decide +kernel
theorem dX8_cutAround_20 : decode cX8_cutAround 20 = .ok (.iload_n 1, 1) := by decide +kernel
theorem dX8_cutAround_21 : decode cX8_cutAround 21 = .ok (.invokevirtual 62, 3) := by decide +kernel
theorem dX8_cutAround_24 : decode cX8_cutAround 24 = .ok (.ifCond .eq 27, 3) := by decide +kernel
theorem dX8_cutAround_27 : decode cX8_cutAround 27 = .ok (.iload_n 2, 1) := by decide +kernel
theorem dX8_cutAround_28 : decode cX8_cutAround 28 = .ok (.aload_n 0, 1) := by decide +kernel
theorem dX8_cutAround_29 : decode cX8_cutAround 29 = .ok (.getfield 14, 3) := by decide +kernel
theorem dX8_cutAround_32 : decode cX8_cutAround 32 = .ok (.getfield 43, 3) := by decide +kernel
theorem dX8_cutAround_35 : decode cX8_cutAround 35 = .ok (.iload_n 3, 1) := by decide +kernel
theorem dX8_cutAround_36 : decode cX8_cutAround 36 = .ok (.iaload, 1) := by decide +kernel
theorem dX8_cutAround_37 : decode cX8_cutAround 37 = .ok (.sipush 8192, 3) := by decide +kernel
theorem dX8_cutAround_40 : decode cX8_cutAround 40 = .ok (.imul, 1) := by decide +kernel
theorem dX8_cutAround_41 : decode cX8_cutAround 41 = .ok (.sipush 512, 3) := by decide +kernel
theorem dX8_cutAround_44 : decode cX8_cutAround 44 = .ok (.iadd, 1) := by decide +kernel
theorem dX8_cutAround_45 : decode cX8_cutAround 45 = .ok (.iconst 1, 1) := by decide +kernel
theorem dX8_cutAround_46 : decode cX8_cutAround 46 = .ok (.iload_n 3, 1) := by decide +kernel
theorem dX8_cutAround_47 : decode cX8_cutAround 47 = .ok (.ishl, 1) := by decide +kernel
theorem dX8_cutAround_48 : decode cX8_cutAround 48 = .ok (.iadd, 1) := by decide +kernel
theorem dX8_cutAround_49 : decode cX8_cutAround 49 = .ok (.iadd, 1) := by decide +kernel
theorem dX8_cutAround_50 : decode cX8_cutAround 50 = .ok (.istore_n 2, 1) := by decide +kernel
theorem dX8_cutAround_51 : decode cX8_cutAround 51 = .ok (.iinc 3 1, 3) := by decide +kernel
theorem dX8_cutAround_54 : decode cX8_cutAround 54 = .ok (.goto (-50), 3) := by decide +kernel
theorem dX8_cutAround_57 : decode cX8_cutAround 57 = .ok (.iload_n 2, 1) := by decide +kernel
theorem dX8_cutAround_58 : decode cX8_cutAround 58 = .ok (.ireturn, 1) := by decide +kernel
set_option maxRecDepth 20000 in
theorem ggX8_leastPrice_J7_fill_53178 : GoodIn wsX8_leastPrice wsJ7_fill_53178 := goodIn_r _ [12] (by decide +kernel) (by decide +kernel)
set_option maxRecDepth 20000 in
theorem gX8_leastPrice_J7_fill_53178 : GoodIn wsX8_leastPrice (va_wsS RX8 65 yJ7_fill_53178 wsJ7_fill_53178) := goodIn_app (goodIn_of _ (by decide +kernel)) ggX8_leastPrice_J7_fill_53178
set_option maxRecDepth 20000 in
theorem ggX8_leastPrice_X8_goBothWays : GoodIn wsX8_leastPrice wsX8_goBothWays := goodIn_r _ [17, 3, 18, 19, 20, 21, 1, 22, 23, 24, 25, 26, 27, 28, 29, 30, 31, 32, 33, 34, 35, 36, 37, 38, 39, 40, 41, 42, 43, 44] (by decide +kernel) (by decide +kernel)
set_option maxRecDepth 20000 in
theorem gX8_leastPrice_X8_goBothWays : GoodIn wsX8_leastPrice (wsV RX8 71 RX8 yX8_goBothWays wsX8_goBothWays) := goodIn_app (goodIn_of _ (by decide +kernel)) ggX8_leastPrice_X8_goBothWays
theorem dX8_leastPrice_0 : decode cX8_leastPrice 0 = .ok (.aload_n 0, 1) := by decide +kernel
theorem dX8_leastPrice_1 : decode cX8_leastPrice 1 = .ok (.getfield 18, 3) := by decide +kernel
theorem dX8_leastPrice_4 : decode cX8_leastPrice 4 = .ok (.ldc 50, 2) := by decide +kernel
theorem dX8_leastPrice_6 : decode cX8_leastPrice 6 = .ok (.invokestatic 65, 3) := by decide +kernel
theorem dX8_leastPrice_9 : decode cX8_leastPrice 9 = .ok (.aload_n 0, 1) := by decide +kernel
theorem dX8_leastPrice_10 : decode cX8_leastPrice 10 = .ok (.getfield 18, 3) := by decide +kernel
theorem dX8_leastPrice_13 : decode cX8_leastPrice 13 = .ok (.iload_n 1, 1) := by decide +kernel
theorem dX8_leastPrice_14 : decode cX8_leastPrice 14 = .ok (.iconst 0, 1) := by decide +kernel
theorem dX8_leastPrice_15 : decode cX8_leastPrice 15 = .ok (.iastore, 1) := by decide +kernel
theorem dX8_leastPrice_16 : decode cX8_leastPrice 16 = .ok (.iconst 1, 1) := by decide +kernel
theorem dX8_leastPrice_17 : decode cX8_leastPrice 17 = .ok (.istore 4, 2) := by decide +kernel
theorem dX8_leastPrice_19 : decode cX8_leastPrice 19 = .ok (.iload 4, 2) := by decide +kernel
theorem dX8_leastPrice_21 : decode cX8_leastPrice 21 = .ok (.aload_n 0, 1) := by decide +kernel
theorem dX8_leastPrice_22 : decode cX8_leastPrice 22 = .ok (.getfield 14, 3) := by decide +kernel
theorem dX8_leastPrice_25 : decode cX8_leastPrice 25 = .ok (.getfield 26, 3) := by decide +kernel
theorem dX8_leastPrice_28 : decode cX8_leastPrice 28 = .ok (.if_icmp .ge 62, 3) := by decide +kernel
theorem dX8_leastPrice_31 : decode cX8_leastPrice 31 = .ok (.iconst 0, 1) := by decide +kernel
theorem dX8_leastPrice_32 : decode cX8_leastPrice 32 = .ok (.istore 5, 2) := by decide +kernel
theorem dX8_leastPrice_34 : decode cX8_leastPrice 34 = .ok (.iload 5, 2) := by decide +kernel
theorem dX8_leastPrice_36 : decode cX8_leastPrice 36 = .ok (.aload_n 0, 1) := by decide +kernel
theorem dX8_leastPrice_37 : decode cX8_leastPrice 37 = .ok (.getfield 14, 3) := by decide +kernel
theorem dX8_leastPrice_40 : decode cX8_leastPrice 40 = .ok (.getfield 40, 3) := by decide +kernel
theorem dX8_leastPrice_43 : decode cX8_leastPrice 43 = .ok (.if_icmp .ge 41, 3) := by decide +kernel
theorem dX8_leastPrice_46 : decode cX8_leastPrice 46 = .ok (.aload_n 0, 1) := by decide +kernel
theorem dX8_leastPrice_47 : decode cX8_leastPrice 47 = .ok (.iload 5, 2) := by decide +kernel
theorem dX8_leastPrice_49 : decode cX8_leastPrice 49 = .ok (.aload_n 0, 1) := by decide +kernel
theorem dX8_leastPrice_50 : decode cX8_leastPrice 50 = .ok (.getfield 14, 3) := by decide +kernel
theorem dX8_leastPrice_53 : decode cX8_leastPrice 53 = .ok (.getfield 43, 3) := by decide +kernel
theorem dX8_leastPrice_56 : decode cX8_leastPrice 56 = .ok (.iload 5, 2) := by decide +kernel
theorem dX8_leastPrice_58 : decode cX8_leastPrice 58 = .ok (.iaload, 1) := by decide +kernel
theorem dX8_leastPrice_59 : decode cX8_leastPrice 59 = .ok (.iload_n 3, 1) := by decide +kernel
theorem dX8_leastPrice_60 : decode cX8_leastPrice 60 = .ok (.if_icmp .lt 7, 3) := by decide +kernel
theorem dX8_leastPrice_63 : decode cX8_leastPrice 63 = .ok (.iconst 0, 1) := by decide +kernel
theorem dX8_leastPrice_64 : decode cX8_leastPrice 64 = .ok (.goto 11, 3) := by decide +kernel
theorem dX8_leastPrice_67 : decode cX8_leastPrice 67 = .ok (.sipush 512, 3) := by decide +kernel
theorem dX8_leastPrice_70 : decode cX8_leastPrice 70 = .ok (.iconst 1, 1) := by decide +kernel
theorem dX8_leastPrice_71 : decode cX8_leastPrice 71 = .ok (.iload 5, 2) := by decide +kernel
theorem dX8_leastPrice_73 : decode cX8_leastPrice 73 = .ok (.ishl, 1) := by decide +kernel
theorem dX8_leastPrice_74 : decode cX8_leastPrice 74 = .ok (.iadd, 1) := by decide +kernel
theorem dX8_leastPrice_75 : decode cX8_leastPrice 75 = .ok (.invokevirtual 71, 3) := by decide +kernel
theorem dX8_leastPrice_78 : decode cX8_leastPrice 78 = .ok (.iinc 5 1, 3) := by decide +kernel
theorem dX8_leastPrice_81 : decode cX8_leastPrice 81 = .ok (.goto (-47), 3) := by decide +kernel
theorem dX8_leastPrice_84 : decode cX8_leastPrice 84 = .ok (.iinc 4 1, 3) := by decide +kernel
theorem dX8_leastPrice_87 : decode cX8_leastPrice 87 = .ok (.goto (-68), 3) := by decide +kernel
theorem dX8_leastPrice_90 : decode cX8_leastPrice 90 = .ok (.aload_n 0, 1) := by decide +kernel
theorem dX8_leastPrice_91 : decode cX8_leastPrice 91 = .ok (.getfield 18, 3) := by decide +kernel
theorem dX8_leastPrice_94 : decode cX8_leastPrice 94 = .ok (.iload_n 2, 1) := by decide +kernel
theorem dX8_leastPrice_95 : decode cX8_leastPrice 95 = .ok (.iaload, 1) := by decide +kernel
theorem dX8_leastPrice_96 : decode cX8_leastPrice 96 = .ok (.ireturn, 1) := by decide +kernel
theorem dX8_goBothWays_0 : decode cX8_goBothWays 0 = .ok (.aload_n 0, 1) := by decide +kernel
theorem dX8_goBothWays_1 : decode cX8_goBothWays 1 = .ok (.getfield 14, 3) := by decide +kernel
theorem dX8_goBothWays_4 : decode cX8_goBothWays 4 = .ok (.getfield 75, 3) := by decide +kernel
theorem dX8_goBothWays_7 : decode cX8_goBothWays 7 = .ok (.iload_n 1, 1) := by decide +kernel
theorem dX8_goBothWays_8 : decode cX8_goBothWays 8 = .ok (.iaload, 1) := by decide +kernel
theorem dX8_goBothWays_9 : decode cX8_goBothWays 9 = .ok (.istore_n 3, 1) := by decide +kernel
theorem dX8_goBothWays_10 : decode cX8_goBothWays 10 = .ok (.aload_n 0, 1) := by decide +kernel
theorem dX8_goBothWays_11 : decode cX8_goBothWays 11 = .ok (.getfield 14, 3) := by decide +kernel
theorem dX8_goBothWays_14 : decode cX8_goBothWays 14 = .ok (.getfield 78, 3) := by decide +kernel
theorem dX8_goBothWays_17 : decode cX8_goBothWays 17 = .ok (.iload_n 1, 1) := by decide +kernel
theorem dX8_goBothWays_18 : decode cX8_goBothWays 18 = .ok (.iaload, 1) := by decide +kernel
theorem dX8_goBothWays_19 : decode cX8_goBothWays 19 = .ok (.istore 4, 2) := by decide +kernel
theorem dX8_goBothWays_21 : decode cX8_goBothWays 21 = .ok (.aload_n 0, 1) := by decide +kernel
theorem dX8_goBothWays_22 : decode cX8_goBothWays 22 = .ok (.getfield 18, 3) := by decide +kernel
theorem dX8_goBothWays_25 : decode cX8_goBothWays 25 = .ok (.iload_n 3, 1) := by decide +kernel
theorem dX8_goBothWays_26 : decode cX8_goBothWays 26 = .ok (.aload_n 0, 1) := by decide +kernel
theorem dX8_goBothWays_27 : decode cX8_goBothWays 27 = .ok (.getfield 18, 3) := by decide +kernel
theorem dX8_goBothWays_30 : decode cX8_goBothWays 30 = .ok (.iload_n 3, 1) := by decide +kernel
theorem dX8_goBothWays_31 : decode cX8_goBothWays 31 = .ok (.iaload, 1) := by decide +kernel
theorem dX8_goBothWays_32 : decode cX8_goBothWays 32 = .ok (.aload_n 0, 1) := by decide +kernel
theorem dX8_goBothWays_33 : decode cX8_goBothWays 33 = .ok (.getfield 18, 3) := by decide +kernel
theorem dX8_goBothWays_36 : decode cX8_goBothWays 36 = .ok (.iload 4, 2) := by decide +kernel
theorem dX8_goBothWays_38 : decode cX8_goBothWays 38 = .ok (.iaload, 1) := by decide +kernel
theorem dX8_goBothWays_39 : decode cX8_goBothWays 39 = .ok (.iload_n 2, 1) := by decide +kernel
theorem dX8_goBothWays_40 : decode cX8_goBothWays 40 = .ok (.iadd, 1) := by decide +kernel
theorem dX8_goBothWays_41 : decode cX8_goBothWays 41 = .ok (.invokestatic 57, 3) := by decide +kernel
theorem dX8_goBothWays_44 : decode cX8_goBothWays 44 = .ok (.iastore, 1) := by decide +kernel
theorem dX8_goBothWays_45 : decode cX8_goBothWays 45 = .ok (.aload_n 0, 1) := by decide +kernel
theorem dX8_goBothWays_46 : decode cX8_goBothWays 46 = .ok (.getfield 18, 3) := by decide +kernel
theorem dX8_goBothWays_49 : decode cX8_goBothWays 49 = .ok (.iload 4, 2) := by decide +kernel
theorem dX8_goBothWays_51 : decode cX8_goBothWays 51 = .ok (.aload_n 0, 1) := by decide +kernel
theorem dX8_goBothWays_52 : decode cX8_goBothWays 52 = .ok (.getfield 18, 3) := by decide +kernel
theorem dX8_goBothWays_55 : decode cX8_goBothWays 55 = .ok (.iload 4, 2) := by decide +kernel
theorem dX8_goBothWays_57 : decode cX8_goBothWays 57 = .ok (.iaload, 1) := by decide +kernel
theorem dX8_goBothWays_58 : decode cX8_goBothWays 58 = .ok (.aload_n 0, 1) := by decide +kernel
theorem dX8_goBothWays_59 : decode cX8_goBothWays 59 = .ok (.getfield 18, 3) := by decide +kernel
theorem dX8_goBothWays_62 : decode cX8_goBothWays 62 = .ok (.iload_n 3, 1) := by decide +kernel
theorem dX8_goBothWays_63 : decode cX8_goBothWays 63 = .ok (.iaload, 1) := by decide +kernel
theorem dX8_goBothWays_64 : decode cX8_goBothWays 64 = .ok (.iload_n 2, 1) := by decide +kernel
theorem dX8_goBothWays_65 : decode cX8_goBothWays 65 = .ok (.iadd, 1) := by decide +kernel
theorem dX8_goBothWays_66 : decode cX8_goBothWays 66 = .ok (.invokestatic 57, 3) := by decide +kernel
theorem dX8_goBothWays_69 : decode cX8_goBothWays 69 = .ok (.iastore, 1) := by decide +kernel
theorem dX8_goBothWays_70 : decode cX8_goBothWays 70 = .ok (.return_, 1) := by decide +kernel
set_option maxRecDepth 20000 in
theorem ggX8_chances_X5_has : GoodIn wsX8_chances wsX5_has := goodIn_r _ [5] (by decide +kernel) (by decide +kernel)
set_option maxRecDepth 20000 in
theorem gX8_chances_X5_has : GoodIn wsX8_chances (va_wsS RX8 34 yX5_has wsX5_has) := goodIn_app (goodIn_of _ (by decide +kernel)) ggX8_chances_X5_has
set_option maxRecDepth 20000 in
theorem ggX8_chances_J6_bitCount_0f7a4 : GoodIn wsX8_chances wsJ6_bitCount_0f7a4 := goodIn_r _ [9, 10, 11, 12] (by decide +kernel) (by decide +kernel)
set_option maxRecDepth 20000 in
theorem gX8_chances_J6_bitCount_0f7a4 : GoodIn wsX8_chances (va_wsS RX8 81 yJ6_bitCount_0f7a4 wsJ6_bitCount_0f7a4) := goodIn_app (goodIn_of _ (by decide +kernel)) ggX8_chances_J6_bitCount_0f7a4
set_option maxRecDepth 20000 in
theorem ggX8_chances_X8_tenTo : GoodIn wsX8_chances wsX8_tenTo := goodIn_r _ [16] (by decide +kernel) (by decide +kernel)
set_option maxRecDepth 20000 in
theorem gX8_chances_X8_tenTo : GoodIn wsX8_chances (va_wsS RX8 86 yX8_tenTo wsX8_tenTo) := goodIn_app (goodIn_of _ (by decide +kernel)) ggX8_chances_X8_tenTo
set_option maxRecDepth 20000 in
theorem ggX8_chances_X8_streetOut : GoodIn wsX8_chances wsX8_streetOut := goodIn_r _ [20, 1, 21, 22, 2, 3, 4, 5, 23, 24, 25, 26, 27, 28, 29, 30, 31, 32, 47, 48, 49, 50, 51, 52, 53, 54, 55, 56, 57, 58, 59, 60, 61, 62, 63, 64, 65] (by decide +kernel) (by decide +kernel)
set_option maxRecDepth 20000 in
theorem gX8_chances_X8_streetOut : GoodIn wsX8_chances (wsV RX8 89 RX8 yX8_streetOut wsX8_streetOut) := goodIn_app (goodIn_of _ (by decide +kernel)) ggX8_chances_X8_streetOut
set_option maxRecDepth 20000 in
theorem ggX8_chances_X5_without : GoodIn wsX8_chances wsX5_without := goodIn_r _ [35] (by decide +kernel) (by decide +kernel)
set_option maxRecDepth 20000 in
theorem gX8_chances_X5_without : GoodIn wsX8_chances (va_wsS RX8 92 yX5_without wsX5_without) := goodIn_app (goodIn_of _ (by decide +kernel)) ggX8_chances_X5_without
set_option maxRecDepth 20000 in
theorem ggX8_chances_X7_endsOf : GoodIn wsX8_chances wsX7_endsOf := goodIn_r _ [41, 42, 43, 49, 50, 51, 52, 53, 54, 55, 56, 57, 58, 59, 60, 61, 62, 63, 64, 65] (by decide +kernel) (by decide +kernel)
set_option maxRecDepth 20000 in
theorem gX8_chances_X7_endsOf_u46X4 : GoodIn wsX8_chances (va_wsU RX8 46 RX4 "KindStreets$Town" ⟨"KindStreets$Plan", "endsOf", "(I)I"⟩ yX7_endsOf wsX7_endsOf) := goodIn_app (goodIn_of _ (by decide +kernel)) ggX8_chances_X7_endsOf
set_option maxRecDepth 20000 in
theorem ggX8_chances_X8_chances : GoodIn wsX8_chances wsX8_chances := goodIn_r _ [0, 1, 2, 3, 4, 5, 6, 7, 8, 9, 10, 11, 12, 13, 14, 15, 16, 17, 18, 19, 20, 21, 22, 23, 24, 25, 26, 27, 28, 29, 30, 31, 32, 33, 34, 35, 36, 37, 38, 39, 40, 41, 42, 43, 44, 45, 46, 47, 48, 49, 50, 51, 52, 53, 54, 55, 56, 57, 58, 59, 60, 61, 62, 63, 64, 65] (by decide +kernel) (by decide +kernel)
set_option maxRecDepth 20000 in
theorem gX8_chances_X8_chances : GoodIn wsX8_chances (wsV RX8 95 RX8 yX8_chances wsX8_chances) := goodIn_app (goodIn_of _ (by decide +kernel)) ggX8_chances_X8_chances
theorem dX8_chances_0 : decode cX8_chances 0 = .ok (.iload_n 1, 1) := by decide +kernel
theorem dX8_chances_1 : decode cX8_chances 1 = .ok (.iload_n 3, 1) := by decide +kernel
theorem dX8_chances_2 : decode cX8_chances 2 = .ok (.invokestatic 34, 3) := by decide +kernel
theorem dX8_chances_5 : decode cX8_chances 5 = .ok (.ifCond .eq 11, 3) := by decide +kernel
theorem dX8_chances_8 : decode cX8_chances 8 = .ok (.iload_n 2, 1) := by decide +kernel
theorem dX8_chances_9 : decode cX8_chances 9 = .ok (.invokestatic 81, 3) := by decide +kernel
theorem dX8_chances_12 : decode cX8_chances 12 = .ok (.invokestatic 86, 3) := by decide +kernel
theorem dX8_chances_15 : decode cX8_chances 15 = .ok (.ireturn, 1) := by decide +kernel
theorem dX8_chances_16 : decode cX8_chances 16 = .ok (.aload_n 0, 1) := by decide +kernel
theorem dX8_chances_17 : decode cX8_chances 17 = .ok (.iload_n 1, 1) := by decide +kernel
theorem dX8_chances_18 : decode cX8_chances 18 = .ok (.iload_n 2, 1) := by decide +kernel
theorem dX8_chances_19 : decode cX8_chances 19 = .ok (.invokevirtual 89, 3) := by decide +kernel
theorem dX8_chances_22 : decode cX8_chances 22 = .ok (.istore 5, 2) := by decide +kernel
theorem dX8_chances_24 : decode cX8_chances 24 = .ok (.iload 5, 2) := by decide +kernel
theorem dX8_chances_26 : decode cX8_chances 26 = .ok (.bipush (-9), 2) := by decide +kernel
theorem dX8_chances_28 : decode cX8_chances 28 = .ok (.if_icmp .ne 5, 3) := by decide +kernel
theorem dX8_chances_31 : decode cX8_chances 31 = .ok (.iconst 0, 1) := by decide +kernel
theorem dX8_chances_32 : decode cX8_chances 32 = .ok (.ireturn, 1) := by decide +kernel
theorem dX8_chances_33 : decode cX8_chances 33 = .ok (.iload_n 2, 1) := by decide +kernel
theorem dX8_chances_34 : decode cX8_chances 34 = .ok (.iload 5, 2) := by decide +kernel
theorem dX8_chances_36 : decode cX8_chances 36 = .ok (.invokestatic 92, 3) := by decide +kernel
theorem dX8_chances_39 : decode cX8_chances 39 = .ok (.istore 6, 2) := by decide +kernel
theorem dX8_chances_41 : decode cX8_chances 41 = .ok (.bipush 10, 2) := by decide +kernel
theorem dX8_chances_43 : decode cX8_chances 43 = .ok (.iload 4, 2) := by decide +kernel
theorem dX8_chances_45 : decode cX8_chances 45 = .ok (.isub, 1) := by decide +kernel
theorem dX8_chances_46 : decode cX8_chances 46 = .ok (.aload_n 0, 1) := by decide +kernel
theorem dX8_chances_47 : decode cX8_chances 47 = .ok (.iload_n 1, 1) := by decide +kernel
theorem dX8_chances_48 : decode cX8_chances 48 = .ok (.aload_n 0, 1) := by decide +kernel
theorem dX8_chances_49 : decode cX8_chances 49 = .ok (.getfield 14, 3) := by decide +kernel
theorem dX8_chances_52 : decode cX8_chances 52 = .ok (.iload 5, 2) := by decide +kernel
theorem dX8_chances_54 : decode cX8_chances 54 = .ok (.invokevirtual 46, 3) := by decide +kernel
theorem dX8_chances_57 : decode cX8_chances 57 = .ok (.ior, 1) := by decide +kernel
theorem dX8_chances_58 : decode cX8_chances 58 = .ok (.iload 6, 2) := by decide +kernel
theorem dX8_chances_60 : decode cX8_chances 60 = .ok (.iload_n 3, 1) := by decide +kernel
theorem dX8_chances_61 : decode cX8_chances 61 = .ok (.iload 4, 2) := by decide +kernel
theorem dX8_chances_63 : decode cX8_chances 63 = .ok (.invokevirtual 95, 3) := by decide +kernel
theorem dX8_chances_66 : decode cX8_chances 66 = .ok (.imul, 1) := by decide +kernel
theorem dX8_chances_67 : decode cX8_chances 67 = .ok (.iload 4, 2) := by decide +kernel
theorem dX8_chances_69 : decode cX8_chances 69 = .ok (.aload_n 0, 1) := by decide +kernel
theorem dX8_chances_70 : decode cX8_chances 70 = .ok (.iload_n 1, 1) := by decide +kernel
theorem dX8_chances_71 : decode cX8_chances 71 = .ok (.iload 6, 2) := by decide +kernel
theorem dX8_chances_73 : decode cX8_chances 73 = .ok (.iload_n 3, 1) := by decide +kernel
theorem dX8_chances_74 : decode cX8_chances 74 = .ok (.iload 4, 2) := by decide +kernel
theorem dX8_chances_76 : decode cX8_chances 76 = .ok (.invokevirtual 95, 3) := by decide +kernel
theorem dX8_chances_79 : decode cX8_chances 79 = .ok (.imul, 1) := by decide +kernel
theorem dX8_chances_80 : decode cX8_chances 80 = .ok (.iadd, 1) := by decide +kernel
theorem dX8_chances_81 : decode cX8_chances 81 = .ok (.ireturn, 1) := by decide +kernel
set_option maxRecDepth 20000 in
theorem ggX8_streetOut_X5_has : GoodIn wsX8_streetOut wsX5_has := goodIn_r _ [7] (by decide +kernel) (by decide +kernel)
set_option maxRecDepth 20000 in
theorem gX8_streetOut_X5_has : GoodIn wsX8_streetOut (va_wsS RX8 34 yX5_has wsX5_has) := goodIn_app (goodIn_of _ (by decide +kernel)) ggX8_streetOut_X5_has
set_option maxRecDepth 20000 in
theorem ggX8_streetOut_X4_leadsOut : GoodIn wsX8_streetOut wsX4_leadsOut := goodIn_r _ [12, 13, 14, 15, 16, 17, 5, 6, 7, 20, 21, 22, 23, 24, 25, 26, 27, 28, 29, 30, 31, 32, 33, 34, 35, 36] (by decide +kernel) (by decide +kernel)
set_option maxRecDepth 20000 in
theorem gX8_streetOut_X4_leadsOut : GoodIn wsX8_streetOut (wsV RX8 62 RX4 yX4_leadsOut wsX4_leadsOut) := goodIn_app (goodIn_of _ (by decide +kernel)) ggX8_streetOut_X4_leadsOut
theorem dX8_streetOut_0 : decode cX8_streetOut 0 = .ok (.iconst 0, 1) := by decide +kernel
theorem dX8_streetOut_1 : decode cX8_streetOut 1 = .ok (.istore_n 3, 1) := by decide +kernel
theorem dX8_streetOut_2 : decode cX8_streetOut 2 = .ok (.iload_n 3, 1) := by decide +kernel
theorem dX8_streetOut_3 : decode cX8_streetOut 3 = .ok (.aload_n 0, 1) := by decide +kernel
theorem dX8_streetOut_4 : decode cX8_streetOut 4 = .ok (.getfield 14, 3) := by decide +kernel
theorem dX8_streetOut_7 : decode cX8_streetOut 7 = .ok (.getfield 40, 3) := by decide +kernel
theorem dX8_streetOut_10 : decode cX8_streetOut 10 = .ok (.if_icmp .ge 31, 3) := by decide +kernel
theorem dX8_streetOut_13 : decode cX8_streetOut 13 = .ok (.iload_n 2, 1) := by decide +kernel
theorem dX8_streetOut_14 : decode cX8_streetOut 14 = .ok (.iload_n 3, 1) := by decide +kernel
theorem dX8_streetOut_15 : decode cX8_streetOut 15 = .ok (.invokestatic 34, 3) := by decide +kernel
theorem dX8_streetOut_18 : decode cX8_streetOut 18 = .ok (.ifCond .eq 17, 3) := by decide +kernel
theorem dX8_streetOut_21 : decode cX8_streetOut 21 = .ok (.aload_n 0, 1) := by decide +kernel
theorem dX8_streetOut_22 : decode cX8_streetOut 22 = .ok (.getfield 14, 3) := by decide +kernel
theorem dX8_streetOut_25 : decode cX8_streetOut 25 = .ok (.iload_n 3, 1) := by decide +kernel
theorem dX8_streetOut_26 : decode cX8_streetOut 26 = .ok (.iload_n 1, 1) := by decide +kernel
theorem dX8_streetOut_27 : decode cX8_streetOut 27 = .ok (.invokevirtual 62, 3) := by decide +kernel
theorem dX8_streetOut_30 : decode cX8_streetOut 30 = .ok (.ifCond .eq 5, 3) := by decide +kernel
theorem dX8_streetOut_33 : decode cX8_streetOut 33 = .ok (.iload_n 3, 1) := by decide +kernel
theorem dX8_streetOut_34 : decode cX8_streetOut 34 = .ok (.ireturn, 1) := by decide +kernel
theorem dX8_streetOut_35 : decode cX8_streetOut 35 = .ok (.iinc 3 1, 3) := by decide +kernel
theorem dX8_streetOut_38 : decode cX8_streetOut 38 = .ok (.goto (-36), 3) := by decide +kernel
theorem dX8_streetOut_41 : decode cX8_streetOut 41 = .ok (.bipush (-9), 2) := by decide +kernel
theorem dX8_streetOut_43 : decode cX8_streetOut 43 = .ok (.ireturn, 1) := by decide +kernel
theorem dJ6_bitCount_0f7a4_0 : decode cJ6_bitCount_0f7a4 0 = .ok (.iload_n 0, 1) := by decide +kernel
theorem dJ6_bitCount_0f7a4_1 : decode cJ6_bitCount_0f7a4 1 = .ok (.iload_n 0, 1) := by decide +kernel
theorem dJ6_bitCount_0f7a4_2 : decode cJ6_bitCount_0f7a4 2 = .ok (.iconst 1, 1) := by decide +kernel
theorem dJ6_bitCount_0f7a4_3 : decode cJ6_bitCount_0f7a4 3 = .ok (.iushr, 1) := by decide +kernel
theorem dJ6_bitCount_0f7a4_4 : decode cJ6_bitCount_0f7a4 4 = .ok (.ldc_w 265, 3) := by decide +kernel
theorem dJ6_bitCount_0f7a4_7 : decode cJ6_bitCount_0f7a4 7 = .ok (.iand, 1) := by decide +kernel
theorem dJ6_bitCount_0f7a4_8 : decode cJ6_bitCount_0f7a4 8 = .ok (.isub, 1) := by decide +kernel
theorem dJ6_bitCount_0f7a4_9 : decode cJ6_bitCount_0f7a4 9 = .ok (.istore_n 0, 1) := by decide +kernel
theorem dJ6_bitCount_0f7a4_10 : decode cJ6_bitCount_0f7a4 10 = .ok (.iload_n 0, 1) := by decide +kernel
theorem dJ6_bitCount_0f7a4_11 : decode cJ6_bitCount_0f7a4 11 = .ok (.ldc_w 266, 3) := by decide +kernel
theorem dJ6_bitCount_0f7a4_14 : decode cJ6_bitCount_0f7a4 14 = .ok (.iand, 1) := by decide +kernel
theorem dJ6_bitCount_0f7a4_15 : decode cJ6_bitCount_0f7a4 15 = .ok (.iload_n 0, 1) := by decide +kernel
theorem dJ6_bitCount_0f7a4_16 : decode cJ6_bitCount_0f7a4 16 = .ok (.iconst 2, 1) := by decide +kernel
theorem dJ6_bitCount_0f7a4_17 : decode cJ6_bitCount_0f7a4 17 = .ok (.iushr, 1) := by decide +kernel
theorem dJ6_bitCount_0f7a4_18 : decode cJ6_bitCount_0f7a4 18 = .ok (.ldc_w 266, 3) := by decide +kernel
theorem dJ6_bitCount_0f7a4_21 : decode cJ6_bitCount_0f7a4 21 = .ok (.iand, 1) := by decide +kernel
theorem dJ6_bitCount_0f7a4_22 : decode cJ6_bitCount_0f7a4 22 = .ok (.iadd, 1) := by decide +kernel
theorem dJ6_bitCount_0f7a4_23 : decode cJ6_bitCount_0f7a4 23 = .ok (.istore_n 0, 1) := by decide +kernel
theorem dJ6_bitCount_0f7a4_24 : decode cJ6_bitCount_0f7a4 24 = .ok (.iload_n 0, 1) := by decide +kernel
theorem dJ6_bitCount_0f7a4_25 : decode cJ6_bitCount_0f7a4 25 = .ok (.iload_n 0, 1) := by decide +kernel
theorem dJ6_bitCount_0f7a4_26 : decode cJ6_bitCount_0f7a4 26 = .ok (.iconst 4, 1) := by decide +kernel
theorem dJ6_bitCount_0f7a4_27 : decode cJ6_bitCount_0f7a4 27 = .ok (.iushr, 1) := by decide +kernel
theorem dJ6_bitCount_0f7a4_28 : decode cJ6_bitCount_0f7a4 28 = .ok (.iadd, 1) := by decide +kernel
theorem dJ6_bitCount_0f7a4_29 : decode cJ6_bitCount_0f7a4 29 = .ok (.ldc_w 267, 3) := by decide +kernel
theorem dJ6_bitCount_0f7a4_32 : decode cJ6_bitCount_0f7a4 32 = .ok (.iand, 1) := by decide +kernel
theorem dJ6_bitCount_0f7a4_33 : decode cJ6_bitCount_0f7a4 33 = .ok (.istore_n 0, 1) := by decide +kernel
theorem dJ6_bitCount_0f7a4_34 : decode cJ6_bitCount_0f7a4 34 = .ok (.iload_n 0, 1) := by decide +kernel
theorem dJ6_bitCount_0f7a4_35 : decode cJ6_bitCount_0f7a4 35 = .ok (.iload_n 0, 1) := by decide +kernel
theorem dJ6_bitCount_0f7a4_36 : decode cJ6_bitCount_0f7a4 36 = .ok (.bipush 8, 2) := by decide +kernel
theorem dJ6_bitCount_0f7a4_38 : decode cJ6_bitCount_0f7a4 38 = .ok (.iushr, 1) := by decide +kernel
theorem dJ6_bitCount_0f7a4_39 : decode cJ6_bitCount_0f7a4 39 = .ok (.iadd, 1) := by decide +kernel
theorem dJ6_bitCount_0f7a4_40 : decode cJ6_bitCount_0f7a4 40 = .ok (.istore_n 0, 1) := by decide +kernel
theorem dJ6_bitCount_0f7a4_41 : decode cJ6_bitCount_0f7a4 41 = .ok (.iload_n 0, 1) := by decide +kernel
theorem dJ6_bitCount_0f7a4_42 : decode cJ6_bitCount_0f7a4 42 = .ok (.iload_n 0, 1) := by decide +kernel
theorem dJ6_bitCount_0f7a4_43 : decode cJ6_bitCount_0f7a4 43 = .ok (.bipush 16, 2) := by decide +kernel
theorem dJ6_bitCount_0f7a4_45 : decode cJ6_bitCount_0f7a4 45 = .ok (.iushr, 1) := by decide +kernel
theorem dJ6_bitCount_0f7a4_46 : decode cJ6_bitCount_0f7a4 46 = .ok (.iadd, 1) := by decide +kernel
theorem dJ6_bitCount_0f7a4_47 : decode cJ6_bitCount_0f7a4 47 = .ok (.istore_n 0, 1) := by decide +kernel
theorem dJ6_bitCount_0f7a4_48 : decode cJ6_bitCount_0f7a4 48 = .ok (.iload_n 0, 1) := by decide +kernel
theorem dJ6_bitCount_0f7a4_49 : decode cJ6_bitCount_0f7a4 49 = .ok (.bipush 63, 2) := by decide +kernel
theorem dJ6_bitCount_0f7a4_51 : decode cJ6_bitCount_0f7a4 51 = .ok (.iand, 1) := by decide +kernel
theorem dJ6_bitCount_0f7a4_52 : decode cJ6_bitCount_0f7a4 52 = .ok (.ireturn, 1) := by decide +kernel
theorem dJ9_max_7cf53_0 : decode cJ9_max_7cf53 0 = .ok (.iload_n 0, 1) := by decide +kernel
theorem dJ9_max_7cf53_1 : decode cJ9_max_7cf53 1 = .ok (.iload_n 1, 1) := by decide +kernel
theorem dJ9_max_7cf53_2 : decode cJ9_max_7cf53 2 = .ok (.if_icmp .lt 7, 3) := by decide +kernel
theorem dJ9_max_7cf53_5 : decode cJ9_max_7cf53 5 = .ok (.iload_n 0, 1) := by decide +kernel
theorem dJ9_max_7cf53_6 : decode cJ9_max_7cf53 6 = .ok (.goto 4, 3) := by decide +kernel
theorem dJ9_max_7cf53_9 : decode cJ9_max_7cf53 9 = .ok (.iload_n 1, 1) := by decide +kernel
theorem dJ9_max_7cf53_10 : decode cJ9_max_7cf53 10 = .ok (.ireturn, 1) := by decide +kernel
theorem dJ9_min_7cf53_0 : decode cJ9_min_7cf53 0 = .ok (.iload_n 0, 1) := by decide +kernel
theorem dJ9_min_7cf53_1 : decode cJ9_min_7cf53 1 = .ok (.iload_n 1, 1) := by decide +kernel
theorem dJ9_min_7cf53_2 : decode cJ9_min_7cf53 2 = .ok (.if_icmp .gt 7, 3) := by decide +kernel
theorem dJ9_min_7cf53_5 : decode cJ9_min_7cf53 5 = .ok (.iload_n 0, 1) := by decide +kernel
theorem dJ9_min_7cf53_6 : decode cJ9_min_7cf53 6 = .ok (.goto 4, 3) := by decide +kernel
theorem dJ9_min_7cf53_9 : decode cJ9_min_7cf53 9 = .ok (.iload_n 1, 1) := by decide +kernel
theorem dJ9_min_7cf53_10 : decode cJ9_min_7cf53 10 = .ok (.ireturn, 1) := by decide +kernel
theorem dJ7_fill_53178_0 : decode cJ7_fill_53178 0 = .ok (.iconst 0, 1) := by decide +kernel
theorem dJ7_fill_53178_1 : decode cJ7_fill_53178 1 = .ok (.istore_n 2, 1) := by decide +kernel
theorem dJ7_fill_53178_2 : decode cJ7_fill_53178 2 = .ok (.aload_n 0, 1) := by decide +kernel
theorem dJ7_fill_53178_3 : decode cJ7_fill_53178 3 = .ok (.arraylength, 1) := by decide +kernel
theorem dJ7_fill_53178_4 : decode cJ7_fill_53178 4 = .ok (.istore_n 3, 1) := by decide +kernel
theorem dJ7_fill_53178_5 : decode cJ7_fill_53178 5 = .ok (.iload_n 2, 1) := by decide +kernel
theorem dJ7_fill_53178_6 : decode cJ7_fill_53178 6 = .ok (.iload_n 3, 1) := by decide +kernel
theorem dJ7_fill_53178_7 : decode cJ7_fill_53178 7 = .ok (.if_icmp .ge 13, 3) := by decide +kernel
theorem dJ7_fill_53178_10 : decode cJ7_fill_53178 10 = .ok (.aload_n 0, 1) := by decide +kernel
theorem dJ7_fill_53178_11 : decode cJ7_fill_53178 11 = .ok (.iload_n 2, 1) := by decide +kernel
theorem dJ7_fill_53178_12 : decode cJ7_fill_53178 12 = .ok (.iload_n 1, 1) := by decide +kernel
theorem dJ7_fill_53178_13 : decode cJ7_fill_53178 13 = .ok (.iastore, 1) := by decide +kernel
theorem dJ7_fill_53178_14 : decode cJ7_fill_53178 14 = .ok (.iinc 2 1, 3) := by decide +kernel
theorem dJ7_fill_53178_17 : decode cJ7_fill_53178 17 = .ok (.goto (-12), 3) := by decide +kernel
theorem dJ7_fill_53178_20 : decode cJ7_fill_53178 20 = .ok (.return_, 1) := by decide +kernel
end
section
set_option maxRecDepth 20000 in
theorem ggX9_init_X6_init : GoodIn wsX9_init wsX6_init := goodIn_r _ [32, 33, 2, 3, 34, 35, 92, 93, 94] (by decide +kernel) (by decide +kernel)
set_option maxRecDepth 20000 in
theorem gX9_init_X6_init : GoodIn wsX9_init (wsX6_init) := ggX9_init_X6_init
set_option maxRecDepth 20000 in
theorem ggX9_init_X7_init : GoodIn wsX9_init wsX7_init := goodIn_r _ [38, 39, 2, 3, 40, 34, 41, 42, 43, 44, 45, 124, 125, 126, 127, 128, 129, 130, 131, 132, 105, 106, 107, 108, 109, 110, 111, 112] (by decide +kernel) (by decide +kernel)
set_option maxRecDepth 20000 in
theorem gX9_init_X7_init : GoodIn wsX9_init (wsX7_init) := ggX9_init_X7_init
set_option maxRecDepth 20000 in
theorem ggX9_init_X3_init : GoodIn wsX9_init wsX3_init := goodIn_r _ [48, 49, 2, 3, 50, 51, 52, 53, 54, 55, 56, 57, 58, 34, 59, 60, 61, 62, 133, 134, 135, 136, 137, 113, 114, 115] (by decide +kernel) (by decide +kernel)
set_option maxRecDepth 20000 in
theorem gX9_init_X3_init : GoodIn wsX9_init (wsX3_init) := ggX9_init_X3_init
set_option maxRecDepth 20000 in
theorem ggX9_init_X8_init : GoodIn wsX9_init wsX8_init := goodIn_r _ [65, 66, 2, 3, 67, 68, 69, 70, 34, 71, 72, 73, 74, 75, 76, 37, 10, 38, 39, 40, 41, 42, 43, 44, 45, 124, 125, 126, 127, 128, 129, 130, 131, 132, 116, 117, 105, 106, 107, 108, 109, 110, 111, 112] (by decide +kernel) (by decide +kernel)
set_option maxRecDepth 20000 in
theorem gX9_init_X8_init : GoodIn wsX9_init (wsX8_init) := ggX9_init_X8_init
set_option maxRecDepth 20000 in
theorem ggX9_init_X0_init : GoodIn wsX9_init wsX0_init := goodIn_r _ [79, 80, 2, 3, 34, 81, 82, 68, 69, 83, 84, 73, 74, 75, 76, 37, 10, 38, 39, 40, 41, 42, 43, 44, 45, 118, 119, 124, 125, 126, 127, 128, 129, 130, 131, 132, 105, 106, 107, 108, 109, 110, 111, 112] (by decide +kernel) (by decide +kernel)
set_option maxRecDepth 20000 in
theorem gX9_init_X0_init : GoodIn wsX9_init (wsX0_init) := ggX9_init_X0_init
set_option maxRecDepth 20000 in
theorem ggX9_init_X1_init : GoodIn wsX9_init wsX1_init := goodIn_r _ [87, 88, 2, 3, 34, 89, 90, 91, 120, 121, 122, 123] (by decide +kernel) (by decide +kernel)
set_option maxRecDepth 20000 in
theorem gX9_init_X1_init : GoodIn wsX9_init (wsX1_init) := ggX9_init_X1_init
theorem dX9_init_0 : decode cX9_init 0 = .ok (.aload_n 0, 1) := by decide +kernel
theorem dX9_init_1 : decode cX9_init 1 = .ok (.invokespecial 1, 3) := by decide +kernel
theorem dX9_init_4 : decode cX9_init 4 = .ok (.aload_n 0, 1) := by decide +kernel
theorem dX9_init_5 : decode cX9_init 5 = .ok (.new 7, 3) := by decide +kernel
theorem dX9_init_8 : decode cX9_init 8 = .ok (.dup, 1) := by decide +kernel
theorem dX9_init_9 : decode cX9_init 9 = .ok (.invokespecial 9, 3) := by decide +kernel
theorem dX9_init_12 : decode cX9_init 12 = .ok (.putfield 10, 3) := by decide +kernel
theorem dX9_init_15 : decode cX9_init 15 = .ok (.aload_n 0, 1) := by decide +kernel
theorem dX9_init_16 : decode cX9_init 16 = .ok (.new 16, 3) := by decide +kernel
theorem dX9_init_19 : decode cX9_init 19 = .ok (.dup, 1) := by decide +kernel
theorem dX9_init_20 : decode cX9_init 20 = .ok (.invokespecial 18, 3) := by decide +kernel
theorem dX9_init_23 : decode cX9_init 23 = .ok (.putfield 19, 3) := by decide +kernel
theorem dX9_init_26 : decode cX9_init 26 = .ok (.aload_n 0, 1) := by decide +kernel
theorem dX9_init_27 : decode cX9_init 27 = .ok (.new 16, 3) := by decide +kernel
theorem dX9_init_30 : decode cX9_init 30 = .ok (.dup, 1) := by decide +kernel
theorem dX9_init_31 : decode cX9_init 31 = .ok (.invokespecial 18, 3) := by decide +kernel
theorem dX9_init_34 : decode cX9_init 34 = .ok (.putfield 23, 3) := by decide +kernel
theorem dX9_init_37 : decode cX9_init 37 = .ok (.aload_n 0, 1) := by decide +kernel
theorem dX9_init_38 : decode cX9_init 38 = .ok (.new 26, 3) := by decide +kernel
theorem dX9_init_41 : decode cX9_init 41 = .ok (.dup, 1) := by decide +kernel
theorem dX9_init_42 : decode cX9_init 42 = .ok (.invokespecial 28, 3) := by decide +kernel
theorem dX9_init_45 : decode cX9_init 45 = .ok (.putfield 29, 3) := by decide +kernel
theorem dX9_init_48 : decode cX9_init 48 = .ok (.aload_n 0, 1) := by decide +kernel
theorem dX9_init_49 : decode cX9_init 49 = .ok (.iconst 2, 1) := by decide +kernel
theorem dX9_init_50 : decode cX9_init 50 = .ok (.anewarray 26, 3) := by decide +kernel
theorem dX9_init_53 : decode cX9_init 53 = .ok (.dup, 1) := by decide +kernel
theorem dX9_init_54 : decode cX9_init 54 = .ok (.iconst 0, 1) := by decide +kernel
theorem dX9_init_55 : decode cX9_init 55 = .ok (.new 26, 3) := by decide +kernel
theorem dX9_init_58 : decode cX9_init 58 = .ok (.dup, 1) := by decide +kernel
theorem dX9_init_59 : decode cX9_init 59 = .ok (.invokespecial 28, 3) := by decide +kernel
theorem dX9_init_62 : decode cX9_init 62 = .ok (.aastore, 1) := by decide +kernel
theorem dX9_init_63 : decode cX9_init 63 = .ok (.dup, 1) := by decide +kernel
theorem dX9_init_64 : decode cX9_init 64 = .ok (.iconst 1, 1) := by decide +kernel
theorem dX9_init_65 : decode cX9_init 65 = .ok (.new 26, 3) := by decide +kernel
theorem dX9_init_68 : decode cX9_init 68 = .ok (.dup, 1) := by decide +kernel
theorem dX9_init_69 : decode cX9_init 69 = .ok (.invokespecial 28, 3) := by decide +kernel
theorem dX9_init_72 : decode cX9_init 72 = .ok (.aastore, 1) := by decide +kernel
theorem dX9_init_73 : decode cX9_init 73 = .ok (.putfield 33, 3) := by decide +kernel
theorem dX9_init_76 : decode cX9_init 76 = .ok (.aload_n 0, 1) := by decide +kernel
theorem dX9_init_77 : decode cX9_init 77 = .ok (.new 37, 3) := by decide +kernel
theorem dX9_init_80 : decode cX9_init 80 = .ok (.dup, 1) := by decide +kernel
theorem dX9_init_81 : decode cX9_init 81 = .ok (.invokespecial 39, 3) := by decide +kernel
theorem dX9_init_84 : decode cX9_init 84 = .ok (.putfield 40, 3) := by decide +kernel
theorem dX9_init_87 : decode cX9_init 87 = .ok (.aload_n 0, 1) := by decide +kernel
theorem dX9_init_88 : decode cX9_init 88 = .ok (.new 44, 3) := by decide +kernel
theorem dX9_init_91 : decode cX9_init 91 = .ok (.dup, 1) := by decide +kernel
theorem dX9_init_92 : decode cX9_init 92 = .ok (.invokespecial 46, 3) := by decide +kernel
theorem dX9_init_95 : decode cX9_init 95 = .ok (.putfield 47, 3) := by decide +kernel
theorem dX9_init_98 : decode cX9_init 98 = .ok (.aload_n 0, 1) := by decide +kernel
theorem dX9_init_99 : decode cX9_init 99 = .ok (.new 51, 3) := by decide +kernel
theorem dX9_init_102 : decode cX9_init 102 = .ok (.dup, 1) := by decide +kernel
theorem dX9_init_103 : decode cX9_init 103 = .ok (.invokespecial 53, 3) := by decide +kernel
theorem dX9_init_106 : decode cX9_init 106 = .ok (.putfield 54, 3) := by decide +kernel
theorem dX9_init_109 : decode cX9_init 109 = .ok (.return_, 1) := by decide +kernel
set_option maxRecDepth 20000 in
theorem ggX9_type_X9_isWithin : GoodIn wsX9_type wsX9_isWithin := goodIn_r _ [6] (by decide +kernel) (by decide +kernel)
set_option maxRecDepth 20000 in
theorem gX9_type_X9_isWithin : GoodIn wsX9_type (va_wsS RX9 58 yX9_isWithin wsX9_isWithin) := goodIn_app (goodIn_of _ (by decide +kernel)) ggX9_type_X9_isWithin
set_option maxRecDepth 20000 in
theorem ggX9_type_X6_add : GoodIn wsX9_type wsX6_add := goodIn_r _ [11, 12, 13, 24, 25, 26] (by decide +kernel) (by decide +kernel)
set_option maxRecDepth 20000 in
theorem gX9_type_X6_add : GoodIn wsX9_type (wsV RX9 66 RX6 yX6_add wsX6_add) := goodIn_app (goodIn_of _ (by decide +kernel)) ggX9_type_X6_add
theorem dX9_type_0 : decode cX9_type 0 = .ok (.iload_n 1, 1) := by decide +kernel
theorem dX9_type_1 : decode cX9_type 1 = .ok (.iconst 0, 1) := by decide +kernel
theorem dX9_type_2 : decode cX9_type 2 = .ok (.sipush 255, 3) := by decide +kernel
theorem dX9_type_5 : decode cX9_type 5 = .ok (.invokestatic 58, 3) := by decide +kernel
theorem dX9_type_8 : decode cX9_type 8 = .ok (.ifCond .ne 5, 3) := by decide +kernel
theorem dX9_type_11 : decode cX9_type 11 = .ok (.iconst (-1), 1) := by decide +kernel
theorem dX9_type_12 : decode cX9_type 12 = .ok (.ireturn, 1) := by decide +kernel
theorem dX9_type_13 : decode cX9_type 13 = .ok (.aload_n 0, 1) := by decide +kernel
theorem dX9_type_14 : decode cX9_type 14 = .ok (.getfield 10, 3) := by decide +kernel
theorem dX9_type_17 : decode cX9_type 17 = .ok (.getfield 62, 3) := by decide +kernel
theorem dX9_type_20 : decode cX9_type 20 = .ok (.bipush 120, 2) := by decide +kernel
theorem dX9_type_22 : decode cX9_type 22 = .ok (.if_icmp .lt 6, 3) := by decide +kernel
theorem dX9_type_25 : decode cX9_type 25 = .ok (.bipush (-3), 2) := by decide +kernel
theorem dX9_type_27 : decode cX9_type 27 = .ok (.ireturn, 1) := by decide +kernel
theorem dX9_type_28 : decode cX9_type 28 = .ok (.aload_n 0, 1) := by decide +kernel
theorem dX9_type_29 : decode cX9_type 29 = .ok (.getfield 10, 3) := by decide +kernel
theorem dX9_type_32 : decode cX9_type 32 = .ok (.iload_n 1, 1) := by decide +kernel
theorem dX9_type_33 : decode cX9_type 33 = .ok (.invokevirtual 66, 3) := by decide +kernel
theorem dX9_type_36 : decode cX9_type 36 = .ok (.aload_n 0, 1) := by decide +kernel
theorem dX9_type_37 : decode cX9_type 37 = .ok (.getfield 10, 3) := by decide +kernel
theorem dX9_type_40 : decode cX9_type 40 = .ok (.getfield 62, 3) := by decide +kernel
theorem dX9_type_43 : decode cX9_type 43 = .ok (.ireturn, 1) := by decide +kernel
theorem dX9_clear_0 : decode cX9_clear 0 = .ok (.aload_n 0, 1) := by decide +kernel
theorem dX9_clear_1 : decode cX9_clear 1 = .ok (.getfield 10, 3) := by decide +kernel
theorem dX9_clear_4 : decode cX9_clear 4 = .ok (.getfield 62, 3) := by decide +kernel
theorem dX9_clear_7 : decode cX9_clear 7 = .ok (.istore_n 1, 1) := by decide +kernel
theorem dX9_clear_8 : decode cX9_clear 8 = .ok (.aload_n 0, 1) := by decide +kernel
theorem dX9_clear_9 : decode cX9_clear 9 = .ok (.getfield 10, 3) := by decide +kernel
theorem dX9_clear_12 : decode cX9_clear 12 = .ok (.iconst 0, 1) := by decide +kernel
theorem dX9_clear_13 : decode cX9_clear 13 = .ok (.putfield 62, 3) := by decide +kernel
theorem dX9_clear_16 : decode cX9_clear 16 = .ok (.iload_n 1, 1) := by decide +kernel
theorem dX9_clear_17 : decode cX9_clear 17 = .ok (.ireturn, 1) := by decide +kernel
set_option maxRecDepth 20000 in
theorem ggX9_town_X6_readInto : GoodIn wsX9_town wsX6_readInto := goodIn_r _ [13, 14, 15, 16, 17, 18, 19, 20, 21, 22, 23, 24, 25, 26, 27, 28, 29, 12, 30, 31, 32, 33, 34, 35, 36, 37, 38, 39, 40, 41, 42, 43, 44, 45, 46, 47, 48, 49, 50, 51, 52, 53, 54, 55, 56, 57, 58, 59, 60, 61, 62, 63, 64, 65, 66, 67, 68, 69, 70, 71, 72, 73, 74, 75, 76, 77, 78, 79, 80, 81, 82, 83, 84, 85, 140, 141, 142, 143, 144, 145, 146, 147, 148, 149, 150, 151, 152, 153, 154, 155, 156, 157, 158, 159] (by decide +kernel) (by decide +kernel)
set_option maxRecDepth 20000 in
theorem gX9_town_X6_readInto : GoodIn wsX9_town (wsV RX9 70 RX6 yX6_readInto wsX6_readInto) := goodIn_app (goodIn_of _ (by decide +kernel)) ggX9_town_X6_readInto
set_option maxRecDepth 20000 in
theorem ggX9_town_X7_become : GoodIn wsX9_town wsX7_become := goodIn_r _ [90, 22, 23, 24, 91, 92, 93, 94, 95, 96, 97, 98, 99, 143, 144, 145, 146, 147, 148, 149, 150, 151, 152, 153, 154, 155, 156, 157, 158, 159] (by decide +kernel) (by decide +kernel)
set_option maxRecDepth 20000 in
theorem gX9_town_X7_become_u74X4 : GoodIn wsX9_town (va_wsU RX9 74 RX4 "KindStreets$Town" ⟨"KindStreets$Town", "become", "(LKindStreets$Town;)V"⟩ yX7_become wsX7_become) := goodIn_app (goodIn_of _ (by decide +kernel)) ggX9_town_X7_become
set_option maxRecDepth 20000 in
theorem gX9_town_X7_become : GoodIn wsX9_town (wsV RX9 74 RX7 yX7_become wsX7_become) := goodIn_app (goodIn_of _ (by decide +kernel)) ggX9_town_X7_become
set_option maxRecDepth 20000 in
theorem ggX9_town_X3_begin : GoodIn wsX9_town wsX3_begin := goodIn_r _ [106, 107, 108, 109, 110, 111, 112, 113, 114, 115, 116, 93, 94, 95, 117, 118, 119, 120, 121, 122, 123, 124, 125, 160, 161, 162, 143, 144, 145, 146, 147, 148, 149, 150, 151, 152, 153, 154, 155, 156, 157, 158, 159, 163, 164, 165, 166, 167] (by decide +kernel) (by decide +kernel)
set_option maxRecDepth 20000 in
theorem gX9_town_X3_begin : GoodIn wsX9_town (wsV RX9 78 RX3 yX3_begin wsX3_begin) := goodIn_app (goodIn_of _ (by decide +kernel)) ggX9_town_X3_begin
theorem dX9_town_0 : decode cX9_town 0 = .ok (.aload_n 0, 1) := by decide +kernel
theorem dX9_town_1 : decode cX9_town 1 = .ok (.getfield 10, 3) := by decide +kernel
theorem dX9_town_4 : decode cX9_town 4 = .ok (.aload_n 0, 1) := by decide +kernel
theorem dX9_town_5 : decode cX9_town 5 = .ok (.getfield 19, 3) := by decide +kernel
theorem dX9_town_8 : decode cX9_town 8 = .ok (.invokevirtual 70, 3) := by decide +kernel
theorem dX9_town_11 : decode cX9_town 11 = .ok (.istore_n 1, 1) := by decide +kernel
theorem dX9_town_12 : decode cX9_town 12 = .ok (.iload_n 1, 1) := by decide +kernel
theorem dX9_town_13 : decode cX9_town 13 = .ok (.ifCond .ge 5, 3) := by decide +kernel
theorem dX9_town_16 : decode cX9_town 16 = .ok (.iload_n 1, 1) := by decide +kernel
theorem dX9_town_17 : decode cX9_town 17 = .ok (.ireturn, 1) := by decide +kernel
theorem dX9_town_18 : decode cX9_town 18 = .ok (.aload_n 0, 1) := by decide +kernel
theorem dX9_town_19 : decode cX9_town 19 = .ok (.getfield 23, 3) := by decide +kernel
theorem dX9_town_22 : decode cX9_town 22 = .ok (.aload_n 0, 1) := by decide +kernel
theorem dX9_town_23 : decode cX9_town 23 = .ok (.getfield 19, 3) := by decide +kernel
theorem dX9_town_26 : decode cX9_town 26 = .ok (.invokevirtual 74, 3) := by decide +kernel
theorem dX9_town_29 : decode cX9_town 29 = .ok (.aload_n 0, 1) := by decide +kernel
theorem dX9_town_30 : decode cX9_town 30 = .ok (.getfield 29, 3) := by decide +kernel
theorem dX9_town_33 : decode cX9_town 33 = .ok (.aload_n 0, 1) := by decide +kernel
theorem dX9_town_34 : decode cX9_town 34 = .ok (.getfield 23, 3) := by decide +kernel
theorem dX9_town_37 : decode cX9_town 37 = .ok (.invokevirtual 78, 3) := by decide +kernel
theorem dX9_town_40 : decode cX9_town 40 = .ok (.aload_n 0, 1) := by decide +kernel
theorem dX9_town_41 : decode cX9_town 41 = .ok (.iconst 0, 1) := by decide +kernel
theorem dX9_town_42 : decode cX9_town 42 = .ok (.putfield 81, 3) := by decide +kernel
theorem dX9_town_45 : decode cX9_town 45 = .ok (.aload_n 0, 1) := by decide +kernel
theorem dX9_town_46 : decode cX9_town 46 = .ok (.getfield 54, 3) := by decide +kernel
theorem dX9_town_49 : decode cX9_town 49 = .ok (.iconst 0, 1) := by decide +kernel
theorem dX9_town_50 : decode cX9_town 50 = .ok (.putfield 84, 3) := by decide +kernel
theorem dX9_town_53 : decode cX9_town 53 = .ok (.aload_n 0, 1) := by decide +kernel
theorem dX9_town_54 : decode cX9_town 54 = .ok (.getfield 10, 3) := by decide +kernel
theorem dX9_town_57 : decode cX9_town 57 = .ok (.iconst 0, 1) := by decide +kernel
theorem dX9_town_58 : decode cX9_town 58 = .ok (.putfield 62, 3) := by decide +kernel
theorem dX9_town_61 : decode cX9_town 61 = .ok (.iload_n 1, 1) := by decide +kernel
theorem dX9_town_62 : decode cX9_town 62 = .ok (.ireturn, 1) := by decide +kernel
set_option maxRecDepth 20000 in
theorem ggX9_street_X9_isStreet : GoodIn wsX9_street wsX9_isStreet := goodIn_r _ [13, 1, 14, 15, 16, 12, 17, 47, 48, 49, 50, 51, 52, 53, 54, 55, 56, 57, 58, 59, 60, 61, 62, 63, 64, 65, 66, 67, 68, 69, 70, 71, 72, 73] (by decide +kernel) (by decide +kernel)
set_option maxRecDepth 20000 in
theorem gX9_street_X9_isStreet : GoodIn wsX9_street (wsV RX9 87 RX9 yX9_isStreet wsX9_isStreet) := goodIn_app (goodIn_of _ (by decide +kernel)) ggX9_street_X9_isStreet
set_option maxRecDepth 20000 in
theorem ggX9_street_X2_widthOf : GoodIn wsX9_street wsX2_widthOf := goodIn_r _ [22, 23, 24, 25, 26, 27, 21, 28, 29, 30, 31, 32, 77, 78, 79, 80, 81] (by decide +kernel) (by decide +kernel)
set_option maxRecDepth 20000 in
theorem gX9_street_X2_widthOf : GoodIn wsX9_street (wsV RX9 113 RX2 yX2_widthOf wsX2_widthOf) := goodIn_app (goodIn_of _ (by decide +kernel)) ggX9_street_X2_widthOf
set_option maxRecDepth 20000 in
theorem ggX9_street_X9_livingIn : GoodIn wsX9_street wsX9_livingIn := goodIn_r _ [36, 37, 38, 39, 12, 40, 1, 41, 4, 5, 42, 43, 44, 45, 46, 47, 48, 49, 50, 51, 52, 53, 54, 55, 56, 57, 58, 59, 60, 61, 62, 63, 64, 65, 66, 67, 68, 69, 70, 71, 72, 73, 74, 75, 76, 77, 78, 79, 80, 81] (by decide +kernel) (by decide +kernel)
set_option maxRecDepth 20000 in
theorem gX9_street_X9_livingIn : GoodIn wsX9_street (wsV RX9 117 RX9 yX9_livingIn wsX9_livingIn) := goodIn_app (goodIn_of _ (by decide +kernel)) ggX9_street_X9_livingIn
theorem dX9_street_0 : decode cX9_street 0 = .ok (.aload_n 0, 1) := by decide +kernel
theorem dX9_street_1 : decode cX9_street 1 = .ok (.iload_n 1, 1) := by decide +kernel
theorem dX9_street_2 : decode cX9_street 2 = .ok (.invokevirtual 87, 3) := by decide +kernel
theorem dX9_street_5 : decode cX9_street 5 = .ok (.ifCond .ne 5, 3) := by decide +kernel
theorem dX9_street_8 : decode cX9_street 8 = .ok (.iconst (-1), 1) := by decide +kernel
theorem dX9_street_9 : decode cX9_street 9 = .ok (.ireturn, 1) := by decide +kernel
theorem dX9_street_10 : decode cX9_street 10 = .ok (.iload_n 2, 1) := by decide +kernel
theorem dX9_street_11 : decode cX9_street 11 = .ok (.tableswitch 118 0 6 #[41, 51, 61, 74, 87, 100, 112], 41) := by decide +kernel
theorem dX9_street_52 : decode cX9_street 52 = .ok (.aload_n 0, 1) := by decide +kernel
theorem dX9_street_53 : decode cX9_street 53 = .ok (.getfield 23, 3) := by decide +kernel
theorem dX9_street_56 : decode cX9_street 56 = .ok (.getfield 91, 3) := by decide +kernel
theorem dX9_street_59 : decode cX9_street 59 = .ok (.iload_n 1, 1) := by decide +kernel
theorem dX9_street_60 : decode cX9_street 60 = .ok (.iaload, 1) := by decide +kernel
theorem dX9_street_61 : decode cX9_street 61 = .ok (.ireturn, 1) := by decide +kernel
theorem dX9_street_62 : decode cX9_street 62 = .ok (.aload_n 0, 1) := by decide +kernel
theorem dX9_street_63 : decode cX9_street 63 = .ok (.getfield 23, 3) := by decide +kernel
theorem dX9_street_66 : decode cX9_street 66 = .ok (.getfield 95, 3) := by decide +kernel
theorem dX9_street_69 : decode cX9_street 69 = .ok (.iload_n 1, 1) := by decide +kernel
theorem dX9_street_70 : decode cX9_street 70 = .ok (.iaload, 1) := by decide +kernel
theorem dX9_street_71 : decode cX9_street 71 = .ok (.ireturn, 1) := by decide +kernel
theorem dX9_street_72 : decode cX9_street 72 = .ok (.aload_n 0, 1) := by decide +kernel
theorem dX9_street_73 : decode cX9_street 73 = .ok (.getfield 29, 3) := by decide +kernel
theorem dX9_street_76 : decode cX9_street 76 = .ok (.getfield 98, 3) := by decide +kernel
theorem dX9_street_79 : decode cX9_street 79 = .ok (.getfield 102, 3) := by decide +kernel
theorem dX9_street_82 : decode cX9_street 82 = .ok (.iload_n 1, 1) := by decide +kernel
theorem dX9_street_83 : decode cX9_street 83 = .ok (.iaload, 1) := by decide +kernel
theorem dX9_street_84 : decode cX9_street 84 = .ok (.ireturn, 1) := by decide +kernel
theorem dX9_street_85 : decode cX9_street 85 = .ok (.aload_n 0, 1) := by decide +kernel
theorem dX9_street_86 : decode cX9_street 86 = .ok (.getfield 29, 3) := by decide +kernel
theorem dX9_street_89 : decode cX9_street 89 = .ok (.getfield 98, 3) := by decide +kernel
theorem dX9_street_92 : decode cX9_street 92 = .ok (.getfield 107, 3) := by decide +kernel
theorem dX9_street_95 : decode cX9_street 95 = .ok (.iload_n 1, 1) := by decide +kernel
theorem dX9_street_96 : decode cX9_street 96 = .ok (.iaload, 1) := by decide +kernel
theorem dX9_street_97 : decode cX9_street 97 = .ok (.ireturn, 1) := by decide +kernel
theorem dX9_street_98 : decode cX9_street 98 = .ok (.aload_n 0, 1) := by decide +kernel
theorem dX9_street_99 : decode cX9_street 99 = .ok (.getfield 29, 3) := by decide +kernel
theorem dX9_street_102 : decode cX9_street 102 = .ok (.getfield 98, 3) := by decide +kernel
theorem dX9_street_105 : decode cX9_street 105 = .ok (.getfield 110, 3) := by decide +kernel
theorem dX9_street_108 : decode cX9_street 108 = .ok (.iload_n 1, 1) := by decide +kernel
theorem dX9_street_109 : decode cX9_street 109 = .ok (.iaload, 1) := by decide +kernel
theorem dX9_street_110 : decode cX9_street 110 = .ok (.ireturn, 1) := by decide +kernel
theorem dX9_street_111 : decode cX9_street 111 = .ok (.aload_n 0, 1) := by decide +kernel
theorem dX9_street_112 : decode cX9_street 112 = .ok (.getfield 29, 3) := by decide +kernel
theorem dX9_street_115 : decode cX9_street 115 = .ok (.getfield 98, 3) := by decide +kernel
theorem dX9_street_118 : decode cX9_street 118 = .ok (.iload_n 1, 1) := by decide +kernel
theorem dX9_street_119 : decode cX9_street 119 = .ok (.invokevirtual 113, 3) := by decide +kernel
theorem dX9_street_122 : decode cX9_street 122 = .ok (.ireturn, 1) := by decide +kernel
theorem dX9_street_123 : decode cX9_street 123 = .ok (.aload_n 0, 1) := by decide +kernel
theorem dX9_street_124 : decode cX9_street 124 = .ok (.iload_n 1, 1) := by decide +kernel
theorem dX9_street_125 : decode cX9_street 125 = .ok (.invokevirtual 117, 3) := by decide +kernel
theorem dX9_street_128 : decode cX9_street 128 = .ok (.ireturn, 1) := by decide +kernel
theorem dX9_street_129 : decode cX9_street 129 = .ok (.iconst (-1), 1) := by decide +kernel
theorem dX9_street_130 : decode cX9_street 130 = .ok (.ireturn, 1) := by decide +kernel
set_option maxRecDepth 20000 in
theorem ggX9_citizen_X9_isCitizen : GoodIn wsX9_citizen wsX9_isCitizen := goodIn_r _ [10, 4, 11, 12, 13, 9, 14, 45, 46, 47, 48, 49, 50, 51, 52, 53, 54, 63, 64, 65, 66, 67, 68, 69, 70, 71, 72, 73, 74, 75, 76, 77, 78, 79] (by decide +kernel) (by decide +kernel)
set_option maxRecDepth 20000 in
theorem gX9_citizen_X9_isCitizen : GoodIn wsX9_citizen (wsV RX9 120 RX9 yX9_isCitizen wsX9_isCitizen) := goodIn_app (goodIn_of _ (by decide +kernel)) ggX9_citizen_X9_isCitizen
set_option maxRecDepth 20000 in
theorem ggX9_citizen_X9_witnessesOf : GoodIn wsX9_citizen wsX9_witnessesOf := goodIn_r _ [18, 1, 2, 3, 19, 20, 21, 9, 22, 4, 23, 24, 25, 26, 27, 28, 29, 30, 31, 32, 33, 34, 35, 36, 37, 11, 38, 39, 40, 41, 42, 43, 44, 45, 46, 47, 48, 49, 50, 51, 52, 53, 54, 55, 56, 57, 58, 59, 60, 61, 62, 63, 64, 65, 66, 67, 68, 69, 70, 71, 72, 73, 74, 75, 76, 77, 78, 79] (by decide +kernel) (by decide +kernel)
set_option maxRecDepth 20000 in
theorem gX9_citizen_X9_witnessesOf : GoodIn wsX9_citizen (wsV RX9 129 RX9 yX9_witnessesOf wsX9_witnessesOf) := goodIn_app (goodIn_of _ (by decide +kernel)) ggX9_citizen_X9_witnessesOf
theorem dX9_citizen_0 : decode cX9_citizen 0 = .ok (.aload_n 0, 1) := by decide +kernel
theorem dX9_citizen_1 : decode cX9_citizen 1 = .ok (.iload_n 1, 1) := by decide +kernel
theorem dX9_citizen_2 : decode cX9_citizen 2 = .ok (.invokevirtual 120, 3) := by decide +kernel
theorem dX9_citizen_5 : decode cX9_citizen 5 = .ok (.ifCond .ne 5, 3) := by decide +kernel
theorem dX9_citizen_8 : decode cX9_citizen 8 = .ok (.iconst (-1), 1) := by decide +kernel
theorem dX9_citizen_9 : decode cX9_citizen 9 = .ok (.ireturn, 1) := by decide +kernel
theorem dX9_citizen_10 : decode cX9_citizen 10 = .ok (.iload_n 2, 1) := by decide +kernel
theorem dX9_citizen_11 : decode cX9_citizen 11 = .ok (.tableswitch 54 0 2 #[25, 38, 48], 25) := by decide +kernel
theorem dX9_citizen_36 : decode cX9_citizen 36 = .ok (.aload_n 0, 1) := by decide +kernel
theorem dX9_citizen_37 : decode cX9_citizen 37 = .ok (.getfield 29, 3) := by decide +kernel
theorem dX9_citizen_40 : decode cX9_citizen 40 = .ok (.getfield 98, 3) := by decide +kernel
theorem dX9_citizen_43 : decode cX9_citizen 43 = .ok (.getfield 123, 3) := by decide +kernel
theorem dX9_citizen_46 : decode cX9_citizen 46 = .ok (.iload_n 1, 1) := by decide +kernel
theorem dX9_citizen_47 : decode cX9_citizen 47 = .ok (.iaload, 1) := by decide +kernel
theorem dX9_citizen_48 : decode cX9_citizen 48 = .ok (.ireturn, 1) := by decide +kernel
theorem dX9_citizen_49 : decode cX9_citizen 49 = .ok (.aload_n 0, 1) := by decide +kernel
theorem dX9_citizen_50 : decode cX9_citizen 50 = .ok (.getfield 23, 3) := by decide +kernel
theorem dX9_citizen_53 : decode cX9_citizen 53 = .ok (.getfield 126, 3) := by decide +kernel
theorem dX9_citizen_56 : decode cX9_citizen 56 = .ok (.iload_n 1, 1) := by decide +kernel
theorem dX9_citizen_57 : decode cX9_citizen 57 = .ok (.iaload, 1) := by decide +kernel
theorem dX9_citizen_58 : decode cX9_citizen 58 = .ok (.ireturn, 1) := by decide +kernel
theorem dX9_citizen_59 : decode cX9_citizen 59 = .ok (.aload_n 0, 1) := by decide +kernel
theorem dX9_citizen_60 : decode cX9_citizen 60 = .ok (.iload_n 1, 1) := by decide +kernel
theorem dX9_citizen_61 : decode cX9_citizen 61 = .ok (.invokevirtual 129, 3) := by decide +kernel
theorem dX9_citizen_64 : decode cX9_citizen 64 = .ok (.ireturn, 1) := by decide +kernel
theorem dX9_citizen_65 : decode cX9_citizen 65 = .ok (.iconst (-1), 1) := by decide +kernel
theorem dX9_citizen_66 : decode cX9_citizen 66 = .ok (.ireturn, 1) := by decide +kernel
set_option maxRecDepth 20000 in
theorem ggX9_does_X9_isCitizen : GoodIn wsX9_does wsX9_isCitizen := goodIn_r _ [11, 12, 13, 14, 15, 10, 16, 95, 96, 97, 98, 99, 100, 101, 102, 103, 104, 113, 114, 115, 116, 117, 118, 119, 120, 121, 122, 123, 124, 125, 126, 127, 128, 129] (by decide +kernel) (by decide +kernel)
set_option maxRecDepth 20000 in
theorem gX9_does_X9_isCitizen : GoodIn wsX9_does (wsV RX9 120 RX9 yX9_isCitizen wsX9_isCitizen) := goodIn_app (goodIn_of _ (by decide +kernel)) ggX9_does_X9_isCitizen
set_option maxRecDepth 20000 in
theorem ggX9_does_X9_isWithin : GoodIn wsX9_does wsX9_isWithin := goodIn_r _ [16] (by decide +kernel) (by decide +kernel)
set_option maxRecDepth 20000 in
theorem gX9_does_X9_isWithin : GoodIn wsX9_does (va_wsS RX9 58 yX9_isWithin wsX9_isWithin) := goodIn_app (goodIn_of _ (by decide +kernel)) ggX9_does_X9_isWithin
set_option maxRecDepth 20000 in
theorem ggX9_does_X3_remember : GoodIn wsX9_does wsX3_remember := goodIn_r _ [21, 22, 23, 24, 25, 26, 27, 20, 28, 29, 30, 31, 32, 33, 34, 35, 36, 37, 38, 39, 40, 41, 42, 105, 106, 107, 108, 109, 110, 111, 112] (by decide +kernel) (by decide +kernel)
set_option maxRecDepth 20000 in
theorem gX9_does_X3_remember : GoodIn wsX9_does (wsV RX9 132 RX3 yX3_remember wsX3_remember) := goodIn_app (goodIn_of _ (by decide +kernel)) ggX9_does_X3_remember
set_option maxRecDepth 20000 in
theorem ggX9_does_X9_witnessesOf : GoodIn wsX9_does wsX9_witnessesOf := goodIn_r _ [46, 1, 2, 3, 47, 48, 49, 10, 50, 12, 51, 52, 53, 54, 55, 56, 57, 58, 59, 60, 61, 62, 63, 64, 65, 13, 66, 67, 68, 69, 70, 71, 72, 95, 96, 97, 98, 99, 100, 101, 102, 103, 104, 105, 106, 107, 108, 109, 110, 111, 112, 113, 114, 115, 116, 117, 118, 119, 120, 121, 122, 123, 124, 125, 126, 127, 128, 129] (by decide +kernel) (by decide +kernel)
set_option maxRecDepth 20000 in
theorem gX9_does_X9_witnessesOf : GoodIn wsX9_does (wsV RX9 129 RX9 yX9_witnessesOf wsX9_witnessesOf) := goodIn_app (goodIn_of _ (by decide +kernel)) ggX9_does_X9_witnessesOf
set_option maxRecDepth 20000 in
theorem ggX9_does_J6_bitCount_0f7a4 : GoodIn wsX9_does wsJ6_bitCount_0f7a4 := goodIn_r _ [76, 77, 78, 79] (by decide +kernel) (by decide +kernel)
set_option maxRecDepth 20000 in
theorem gX9_does_J6_bitCount_0f7a4 : GoodIn wsX9_does (va_wsS RX9 135 yJ6_bitCount_0f7a4 wsJ6_bitCount_0f7a4) := goodIn_app (goodIn_of _ (by decide +kernel)) ggX9_does_J6_bitCount_0f7a4
set_option maxRecDepth 20000 in
theorem ggX9_does_X9_raise : GoodIn wsX9_does wsX9_raise := goodIn_r _ [82, 83, 84, 85, 86] (by decide +kernel) (by decide +kernel)
set_option maxRecDepth 20000 in
theorem gX9_does_X9_raise : GoodIn wsX9_does (va_wsS RX9 140 yX9_raise wsX9_raise) := goodIn_app (goodIn_of _ (by decide +kernel)) ggX9_does_X9_raise
set_option maxRecDepth 20000 in
theorem ggX9_does_X2_widthOf : GoodIn wsX9_does wsX2_widthOf := goodIn_r _ [90, 34, 40, 42, 91, 92, 32, 93, 94, 84, 85, 86, 108, 109, 110, 111, 112] (by decide +kernel) (by decide +kernel)
set_option maxRecDepth 20000 in
theorem gX9_does_X2_widthOf : GoodIn wsX9_does (wsV RX9 113 RX2 yX2_widthOf wsX2_widthOf) := goodIn_app (goodIn_of _ (by decide +kernel)) ggX9_does_X2_widthOf
theorem dX9_does_0 : decode cX9_does 0 = .ok (.aload_n 0, 1) := by decide +kernel
theorem dX9_does_1 : decode cX9_does 1 = .ok (.iload_n 1, 1) := by decide +kernel
theorem dX9_does_2 : decode cX9_does 2 = .ok (.invokevirtual 120, 3) := by decide +kernel
theorem dX9_does_5 : decode cX9_does 5 = .ok (.ifCond .eq 22, 3) := by decide +kernel
theorem dX9_does_8 : decode cX9_does 8 = .ok (.iload_n 2, 1) := by decide +kernel
theorem dX9_does_9 : decode cX9_does 9 = .ok (.iconst 1, 1) := by decide +kernel
theorem dX9_does_10 : decode cX9_does 10 = .ok (.bipush 9, 2) := by decide +kernel
theorem dX9_does_12 : decode cX9_does 12 = .ok (.invokestatic 58, 3) := by decide +kernel
theorem dX9_does_15 : decode cX9_does 15 = .ok (.ifCond .eq 12, 3) := by decide +kernel
theorem dX9_does_18 : decode cX9_does 18 = .ok (.iload_n 3, 1) := by decide +kernel
theorem dX9_does_19 : decode cX9_does 19 = .ok (.iconst 0, 1) := by decide +kernel
theorem dX9_does_20 : decode cX9_does 20 = .ok (.iconst 1, 1) := by decide +kernel
theorem dX9_does_21 : decode cX9_does 21 = .ok (.invokestatic 58, 3) := by decide +kernel
theorem dX9_does_24 : decode cX9_does 24 = .ok (.ifCond .ne 5, 3) := by decide +kernel
theorem dX9_does_27 : decode cX9_does 27 = .ok (.iconst (-1), 1) := by decide +kernel
theorem dX9_does_28 : decode cX9_does 28 = .ok (.ireturn, 1) := by decide +kernel
theorem dX9_does_29 : decode cX9_does 29 = .ok (.aload_n 0, 1) := by decide +kernel
theorem dX9_does_30 : decode cX9_does 30 = .ok (.getfield 29, 3) := by decide +kernel
theorem dX9_does_33 : decode cX9_does 33 = .ok (.invokevirtual 132, 3) := by decide +kernel
theorem dX9_does_36 : decode cX9_does 36 = .ok (.aload_n 0, 1) := by decide +kernel
theorem dX9_does_37 : decode cX9_does 37 = .ok (.getfield 29, 3) := by decide +kernel
theorem dX9_does_40 : decode cX9_does 40 = .ok (.getfield 98, 3) := by decide +kernel
theorem dX9_does_43 : decode cX9_does 43 = .ok (.getfield 123, 3) := by decide +kernel
theorem dX9_does_46 : decode cX9_does 46 = .ok (.iload_n 1, 1) := by decide +kernel
theorem dX9_does_47 : decode cX9_does 47 = .ok (.iaload, 1) := by decide +kernel
theorem dX9_does_48 : decode cX9_does 48 = .ok (.istore 4, 2) := by decide +kernel
theorem dX9_does_50 : decode cX9_does 50 = .ok (.iload_n 3, 1) := by decide +kernel
theorem dX9_does_51 : decode cX9_does 51 = .ok (.ifCond .ne 7, 3) := by decide +kernel
theorem dX9_does_54 : decode cX9_does 54 = .ok (.iconst 1, 1) := by decide +kernel
theorem dX9_does_55 : decode cX9_does 55 = .ok (.goto 4, 3) := by decide +kernel
theorem dX9_does_58 : decode cX9_does 58 = .ok (.iconst 0, 1) := by decide +kernel
theorem dX9_does_59 : decode cX9_does 59 = .ok (.istore 5, 2) := by decide +kernel
theorem dX9_does_61 : decode cX9_does 61 = .ok (.aload_n 0, 1) := by decide +kernel
theorem dX9_does_62 : decode cX9_does 62 = .ok (.iload_n 1, 1) := by decide +kernel
theorem dX9_does_63 : decode cX9_does 63 = .ok (.invokevirtual 129, 3) := by decide +kernel
theorem dX9_does_66 : decode cX9_does 66 = .ok (.invokestatic 135, 3) := by decide +kernel
theorem dX9_does_69 : decode cX9_does 69 = .ok (.iconst 2, 1) := by decide +kernel
theorem dX9_does_70 : decode cX9_does 70 = .ok (.if_icmp .lt 40, 3) := by decide +kernel
theorem dX9_does_73 : decode cX9_does 73 = .ok (.iload 5, 2) := by decide +kernel
theorem dX9_does_75 : decode cX9_does 75 = .ok (.ifCond .eq 16, 3) := by decide +kernel
theorem dX9_does_78 : decode cX9_does 78 = .ok (.aload_n 0, 1) := by decide +kernel
theorem dX9_does_79 : decode cX9_does 79 = .ok (.getfield 29, 3) := by decide +kernel
theorem dX9_does_82 : decode cX9_does 82 = .ok (.getfield 98, 3) := by decide +kernel
theorem dX9_does_85 : decode cX9_does 85 = .ok (.getfield 102, 3) := by decide +kernel
theorem dX9_does_88 : decode cX9_does 88 = .ok (.goto 13, 3) := by decide +kernel
theorem dX9_does_91 : decode cX9_does 91 = .ok (.aload_n 0, 1) := by decide +kernel
theorem dX9_does_92 : decode cX9_does 92 = .ok (.getfield 29, 3) := by decide +kernel
theorem dX9_does_95 : decode cX9_does 95 = .ok (.getfield 98, 3) := by decide +kernel
theorem dX9_does_98 : decode cX9_does 98 = .ok (.getfield 110, 3) := by decide +kernel
theorem dX9_does_101 : decode cX9_does 101 = .ok (.iload 4, 2) := by decide +kernel
theorem dX9_does_103 : decode cX9_does 103 = .ok (.iload_n 2, 1) := by decide +kernel
theorem dX9_does_104 : decode cX9_does 104 = .ok (.invokestatic 140, 3) := by decide +kernel
theorem dX9_does_107 : decode cX9_does 107 = .ok (.goto 24, 3) := by decide +kernel
theorem dX9_does_110 : decode cX9_does 110 = .ok (.iload 5, 2) := by decide +kernel
theorem dX9_does_112 : decode cX9_does 112 = .ok (.ifCond .eq 19, 3) := by decide +kernel
theorem dX9_does_115 : decode cX9_does 115 = .ok (.aload_n 0, 1) := by decide +kernel
theorem dX9_does_116 : decode cX9_does 116 = .ok (.getfield 29, 3) := by decide +kernel
theorem dX9_does_119 : decode cX9_does 119 = .ok (.getfield 98, 3) := by decide +kernel
theorem dX9_does_122 : decode cX9_does 122 = .ok (.getfield 107, 3) := by decide +kernel
theorem dX9_does_125 : decode cX9_does 125 = .ok (.iload 4, 2) := by decide +kernel
theorem dX9_does_127 : decode cX9_does 127 = .ok (.iload_n 2, 1) := by decide +kernel
theorem dX9_does_128 : decode cX9_does 128 = .ok (.invokestatic 140, 3) := by decide +kernel
theorem dX9_does_131 : decode cX9_does 131 = .ok (.aload_n 0, 1) := by decide +kernel
theorem dX9_does_132 : decode cX9_does 132 = .ok (.getfield 29, 3) := by decide +kernel
theorem dX9_does_135 : decode cX9_does 135 = .ok (.getfield 98, 3) := by decide +kernel
theorem dX9_does_138 : decode cX9_does 138 = .ok (.iload 4, 2) := by decide +kernel
theorem dX9_does_140 : decode cX9_does 140 = .ok (.invokevirtual 113, 3) := by decide +kernel
theorem dX9_does_143 : decode cX9_does 143 = .ok (.ireturn, 1) := by decide +kernel
set_option maxRecDepth 20000 in
theorem ggX9_wills_X9_isStreet : GoodIn wsX9_wills wsX9_isStreet := goodIn_r _ [9, 10, 11, 12, 13, 8, 14, 48, 49, 50, 51, 52, 53, 54, 55, 56, 57, 66, 67, 68, 69, 70, 71, 72, 73, 74, 75, 76, 77, 78, 79, 80, 81, 82] (by decide +kernel) (by decide +kernel)
set_option maxRecDepth 20000 in
theorem gX9_wills_X9_isStreet : GoodIn wsX9_wills (wsV RX9 87 RX9 yX9_isStreet wsX9_isStreet) := goodIn_app (goodIn_of _ (by decide +kernel)) ggX9_wills_X9_isStreet
set_option maxRecDepth 20000 in
theorem ggX9_wills_X3_remember : GoodIn wsX9_wills wsX3_remember := goodIn_r _ [19, 20, 21, 22, 23, 24, 25, 18, 26, 27, 28, 29, 30, 31, 32, 33, 34, 35, 36, 37, 38, 39, 40, 58, 59, 60, 61, 62, 63, 64, 65] (by decide +kernel) (by decide +kernel)
set_option maxRecDepth 20000 in
theorem gX9_wills_X3_remember : GoodIn wsX9_wills (wsV RX9 132 RX3 yX3_remember wsX3_remember) := goodIn_app (goodIn_of _ (by decide +kernel)) ggX9_wills_X3_remember
set_option maxRecDepth 20000 in
theorem ggX9_wills_X9_raise : GoodIn wsX9_wills wsX9_raise := goodIn_r _ [43, 44, 45, 46, 47] (by decide +kernel) (by decide +kernel)
set_option maxRecDepth 20000 in
theorem gX9_wills_X9_raise : GoodIn wsX9_wills (va_wsS RX9 140 yX9_raise wsX9_raise) := goodIn_app (goodIn_of _ (by decide +kernel)) ggX9_wills_X9_raise
theorem dX9_wills_0 : decode cX9_wills 0 = .ok (.aload_n 0, 1) := by decide +kernel
theorem dX9_wills_1 : decode cX9_wills 1 = .ok (.iload_n 1, 1) := by decide +kernel
theorem dX9_wills_2 : decode cX9_wills 2 = .ok (.invokevirtual 87, 3) := by decide +kernel
theorem dX9_wills_5 : decode cX9_wills 5 = .ok (.ifCond .ne 5, 3) := by decide +kernel
theorem dX9_wills_8 : decode cX9_wills 8 = .ok (.iconst (-1), 1) := by decide +kernel
theorem dX9_wills_9 : decode cX9_wills 9 = .ok (.ireturn, 1) := by decide +kernel
theorem dX9_wills_10 : decode cX9_wills 10 = .ok (.aload_n 0, 1) := by decide +kernel
theorem dX9_wills_11 : decode cX9_wills 11 = .ok (.getfield 29, 3) := by decide +kernel
theorem dX9_wills_14 : decode cX9_wills 14 = .ok (.getfield 98, 3) := by decide +kernel
theorem dX9_wills_17 : decode cX9_wills 17 = .ok (.getfield 107, 3) := by decide +kernel
theorem dX9_wills_20 : decode cX9_wills 20 = .ok (.iload_n 1, 1) := by decide +kernel
theorem dX9_wills_21 : decode cX9_wills 21 = .ok (.iaload, 1) := by decide +kernel
theorem dX9_wills_22 : decode cX9_wills 22 = .ok (.istore_n 2, 1) := by decide +kernel
theorem dX9_wills_23 : decode cX9_wills 23 = .ok (.iload_n 2, 1) := by decide +kernel
theorem dX9_wills_24 : decode cX9_wills 24 = .ok (.ifCond .ne 6, 3) := by decide +kernel
theorem dX9_wills_27 : decode cX9_wills 27 = .ok (.bipush (-2), 2) := by decide +kernel
theorem dX9_wills_29 : decode cX9_wills 29 = .ok (.ireturn, 1) := by decide +kernel
theorem dX9_wills_30 : decode cX9_wills 30 = .ok (.aload_n 0, 1) := by decide +kernel
theorem dX9_wills_31 : decode cX9_wills 31 = .ok (.getfield 29, 3) := by decide +kernel
theorem dX9_wills_34 : decode cX9_wills 34 = .ok (.invokevirtual 132, 3) := by decide +kernel
theorem dX9_wills_37 : decode cX9_wills 37 = .ok (.aload_n 0, 1) := by decide +kernel
theorem dX9_wills_38 : decode cX9_wills 38 = .ok (.getfield 29, 3) := by decide +kernel
theorem dX9_wills_41 : decode cX9_wills 41 = .ok (.getfield 98, 3) := by decide +kernel
theorem dX9_wills_44 : decode cX9_wills 44 = .ok (.getfield 102, 3) := by decide +kernel
theorem dX9_wills_47 : decode cX9_wills 47 = .ok (.iload_n 1, 1) := by decide +kernel
theorem dX9_wills_48 : decode cX9_wills 48 = .ok (.iload_n 2, 1) := by decide +kernel
theorem dX9_wills_49 : decode cX9_wills 49 = .ok (.invokestatic 140, 3) := by decide +kernel
theorem dX9_wills_52 : decode cX9_wills 52 = .ok (.aload_n 0, 1) := by decide +kernel
theorem dX9_wills_53 : decode cX9_wills 53 = .ok (.getfield 29, 3) := by decide +kernel
theorem dX9_wills_56 : decode cX9_wills 56 = .ok (.getfield 98, 3) := by decide +kernel
theorem dX9_wills_59 : decode cX9_wills 59 = .ok (.getfield 107, 3) := by decide +kernel
theorem dX9_wills_62 : decode cX9_wills 62 = .ok (.iload_n 1, 1) := by decide +kernel
theorem dX9_wills_63 : decode cX9_wills 63 = .ok (.iconst 0, 1) := by decide +kernel
theorem dX9_wills_64 : decode cX9_wills 64 = .ok (.iastore, 1) := by decide +kernel
theorem dX9_wills_65 : decode cX9_wills 65 = .ok (.iload_n 2, 1) := by decide +kernel
theorem dX9_wills_66 : decode cX9_wills 66 = .ok (.ireturn, 1) := by decide +kernel
set_option maxRecDepth 20000 in
theorem ggX9_moves_X9_isCitizen : GoodIn wsX9_moves wsX9_isCitizen := goodIn_r _ [8, 9, 10, 11, 12, 7, 13, 45, 46, 47, 48, 49, 50, 51, 52, 53, 54, 63, 64, 65, 66, 67, 68, 69, 70, 71, 72, 73, 74, 75, 76, 77, 78, 79] (by decide +kernel) (by decide +kernel)
set_option maxRecDepth 20000 in
theorem gX9_moves_X9_isCitizen : GoodIn wsX9_moves (wsV RX9 120 RX9 yX9_isCitizen wsX9_isCitizen) := goodIn_app (goodIn_of _ (by decide +kernel)) ggX9_moves_X9_isCitizen
set_option maxRecDepth 20000 in
theorem ggX9_moves_X9_isStreet : GoodIn wsX9_moves wsX9_isStreet := goodIn_r _ [17, 9, 18, 11, 12, 7, 13, 45, 46, 47, 48, 49, 50, 51, 52, 53, 54, 63, 64, 65, 66, 67, 68, 69, 70, 71, 72, 73, 74, 75, 76, 77, 78, 79] (by decide +kernel) (by decide +kernel)
set_option maxRecDepth 20000 in
theorem gX9_moves_X9_isStreet : GoodIn wsX9_moves (wsV RX9 87 RX9 yX9_isStreet wsX9_isStreet) := goodIn_app (goodIn_of _ (by decide +kernel)) ggX9_moves_X9_isStreet
set_option maxRecDepth 20000 in
theorem ggX9_moves_X3_remember : GoodIn wsX9_moves wsX3_remember := goodIn_r _ [23, 24, 25, 26, 27, 28, 29, 22, 30, 31, 32, 33, 34, 35, 36, 37, 38, 39, 40, 41, 42, 43, 44, 55, 56, 57, 58, 59, 60, 61, 62] (by decide +kernel) (by decide +kernel)
set_option maxRecDepth 20000 in
theorem gX9_moves_X3_remember : GoodIn wsX9_moves (wsV RX9 132 RX3 yX3_remember wsX3_remember) := goodIn_app (goodIn_of _ (by decide +kernel)) ggX9_moves_X3_remember
theorem dX9_moves_0 : decode cX9_moves 0 = .ok (.aload_n 0, 1) := by decide +kernel
theorem dX9_moves_1 : decode cX9_moves 1 = .ok (.iload_n 1, 1) := by decide +kernel
theorem dX9_moves_2 : decode cX9_moves 2 = .ok (.invokevirtual 120, 3) := by decide +kernel
theorem dX9_moves_5 : decode cX9_moves 5 = .ok (.ifCond .eq 11, 3) := by decide +kernel
theorem dX9_moves_8 : decode cX9_moves 8 = .ok (.aload_n 0, 1) := by decide +kernel
theorem dX9_moves_9 : decode cX9_moves 9 = .ok (.iload_n 2, 1) := by decide +kernel
theorem dX9_moves_10 : decode cX9_moves 10 = .ok (.invokevirtual 87, 3) := by decide +kernel
theorem dX9_moves_13 : decode cX9_moves 13 = .ok (.ifCond .ne 5, 3) := by decide +kernel
theorem dX9_moves_16 : decode cX9_moves 16 = .ok (.iconst (-1), 1) := by decide +kernel
theorem dX9_moves_17 : decode cX9_moves 17 = .ok (.ireturn, 1) := by decide +kernel
theorem dX9_moves_18 : decode cX9_moves 18 = .ok (.aload_n 0, 1) := by decide +kernel
theorem dX9_moves_19 : decode cX9_moves 19 = .ok (.getfield 29, 3) := by decide +kernel
theorem dX9_moves_22 : decode cX9_moves 22 = .ok (.getfield 98, 3) := by decide +kernel
theorem dX9_moves_25 : decode cX9_moves 25 = .ok (.getfield 123, 3) := by decide +kernel
theorem dX9_moves_28 : decode cX9_moves 28 = .ok (.iload_n 1, 1) := by decide +kernel
theorem dX9_moves_29 : decode cX9_moves 29 = .ok (.iaload, 1) := by decide +kernel
theorem dX9_moves_30 : decode cX9_moves 30 = .ok (.istore_n 3, 1) := by decide +kernel
theorem dX9_moves_31 : decode cX9_moves 31 = .ok (.iload_n 3, 1) := by decide +kernel
theorem dX9_moves_32 : decode cX9_moves 32 = .ok (.iload_n 2, 1) := by decide +kernel
theorem dX9_moves_33 : decode cX9_moves 33 = .ok (.if_icmp .ne 6, 3) := by decide +kernel
theorem dX9_moves_36 : decode cX9_moves 36 = .ok (.bipush (-2), 2) := by decide +kernel
theorem dX9_moves_38 : decode cX9_moves 38 = .ok (.ireturn, 1) := by decide +kernel
theorem dX9_moves_39 : decode cX9_moves 39 = .ok (.aload_n 0, 1) := by decide +kernel
theorem dX9_moves_40 : decode cX9_moves 40 = .ok (.getfield 29, 3) := by decide +kernel
theorem dX9_moves_43 : decode cX9_moves 43 = .ok (.invokevirtual 132, 3) := by decide +kernel
theorem dX9_moves_46 : decode cX9_moves 46 = .ok (.aload_n 0, 1) := by decide +kernel
theorem dX9_moves_47 : decode cX9_moves 47 = .ok (.getfield 29, 3) := by decide +kernel
theorem dX9_moves_50 : decode cX9_moves 50 = .ok (.getfield 98, 3) := by decide +kernel
theorem dX9_moves_53 : decode cX9_moves 53 = .ok (.getfield 123, 3) := by decide +kernel
theorem dX9_moves_56 : decode cX9_moves 56 = .ok (.iload_n 1, 1) := by decide +kernel
theorem dX9_moves_57 : decode cX9_moves 57 = .ok (.iload_n 2, 1) := by decide +kernel
theorem dX9_moves_58 : decode cX9_moves 58 = .ok (.iastore, 1) := by decide +kernel
theorem dX9_moves_59 : decode cX9_moves 59 = .ok (.iload_n 3, 1) := by decide +kernel
theorem dX9_moves_60 : decode cX9_moves 60 = .ok (.ireturn, 1) := by decide +kernel
set_option maxRecDepth 20000 in
theorem ggX9_night_X9_isWithin : GoodIn wsX9_night wsX9_isWithin := goodIn_r _ [7] (by decide +kernel) (by decide +kernel)
set_option maxRecDepth 20000 in
theorem gX9_night_X9_isWithin : GoodIn wsX9_night (va_wsS RX9 58 yX9_isWithin wsX9_isWithin) := goodIn_app (goodIn_of _ (by decide +kernel)) ggX9_night_X9_isWithin
set_option maxRecDepth 20000 in
theorem ggX9_night_X3_remember : GoodIn wsX9_night wsX3_remember := goodIn_r _ [12, 13, 14, 15, 16, 17, 18, 11, 19, 20, 21, 22, 23, 24, 25, 26, 27, 28, 29, 30, 31, 32, 33, 61, 62, 63, 64, 65, 66, 67, 68] (by decide +kernel) (by decide +kernel)
set_option maxRecDepth 20000 in
theorem gX9_night_X3_remember : GoodIn wsX9_night (wsV RX9 132 RX3 yX3_remember wsX3_remember) := goodIn_app (goodIn_of _ (by decide +kernel)) ggX9_night_X3_remember
set_option maxRecDepth 20000 in
theorem ggX9_night_X9_widthsTogether : GoodIn wsX9_night wsX9_widthsTogether := goodIn_r _ [37, 38, 39, 1, 2, 40, 41, 42, 23, 43, 25, 31, 33, 44, 45, 46, 47, 48, 49, 50, 51, 52, 53, 54, 55, 56, 57, 58, 59, 60, 69, 70, 71, 72, 73, 74, 75, 76, 77, 78, 79, 80, 81, 82, 83, 84, 85, 61, 62, 63, 64, 65, 66, 67, 68] (by decide +kernel) (by decide +kernel)
set_option maxRecDepth 20000 in
theorem gX9_night_X9_widthsTogether : GoodIn wsX9_night (wsV RX9 147 RX9 yX9_widthsTogether wsX9_widthsTogether) := goodIn_app (goodIn_of _ (by decide +kernel)) ggX9_night_X9_widthsTogether
theorem dX9_night_0 : decode cX9_night 0 = .ok (.iload_n 1, 1) := by decide +kernel
theorem dX9_night_1 : decode cX9_night 1 = .ok (.iconst 0, 1) := by decide +kernel
theorem dX9_night_2 : decode cX9_night 2 = .ok (.iconst 1, 1) := by decide +kernel
theorem dX9_night_3 : decode cX9_night 3 = .ok (.invokestatic 58, 3) := by decide +kernel
theorem dX9_night_6 : decode cX9_night 6 = .ok (.ifCond .ne 5, 3) := by decide +kernel
theorem dX9_night_9 : decode cX9_night 9 = .ok (.iconst (-1), 1) := by decide +kernel
theorem dX9_night_10 : decode cX9_night 10 = .ok (.ireturn, 1) := by decide +kernel
theorem dX9_night_11 : decode cX9_night 11 = .ok (.aload_n 0, 1) := by decide +kernel
theorem dX9_night_12 : decode cX9_night 12 = .ok (.getfield 29, 3) := by decide +kernel
theorem dX9_night_15 : decode cX9_night 15 = .ok (.getfield 98, 3) := by decide +kernel
theorem dX9_night_18 : decode cX9_night 18 = .ok (.getfield 144, 3) := by decide +kernel
theorem dX9_night_21 : decode cX9_night 21 = .ok (.iload_n 1, 1) := by decide +kernel
theorem dX9_night_22 : decode cX9_night 22 = .ok (.if_icmp .ne 6, 3) := by decide +kernel
theorem dX9_night_25 : decode cX9_night 25 = .ok (.bipush (-2), 2) := by decide +kernel
theorem dX9_night_27 : decode cX9_night 27 = .ok (.ireturn, 1) := by decide +kernel
theorem dX9_night_28 : decode cX9_night 28 = .ok (.aload_n 0, 1) := by decide +kernel
theorem dX9_night_29 : decode cX9_night 29 = .ok (.getfield 29, 3) := by decide +kernel
theorem dX9_night_32 : decode cX9_night 32 = .ok (.invokevirtual 132, 3) := by decide +kernel
theorem dX9_night_35 : decode cX9_night 35 = .ok (.aload_n 0, 1) := by decide +kernel
theorem dX9_night_36 : decode cX9_night 36 = .ok (.getfield 29, 3) := by decide +kernel
theorem dX9_night_39 : decode cX9_night 39 = .ok (.getfield 98, 3) := by decide +kernel
theorem dX9_night_42 : decode cX9_night 42 = .ok (.iload_n 1, 1) := by decide +kernel
theorem dX9_night_43 : decode cX9_night 43 = .ok (.putfield 144, 3) := by decide +kernel
theorem dX9_night_46 : decode cX9_night 46 = .ok (.aload_n 0, 1) := by decide +kernel
theorem dX9_night_47 : decode cX9_night 47 = .ok (.invokevirtual 147, 3) := by decide +kernel
theorem dX9_night_50 : decode cX9_night 50 = .ok (.ireturn, 1) := by decide +kernel
set_option maxRecDepth 20000 in
theorem ggX9_undo_X3_recall : GoodIn wsX9_undo wsX3_recall := goodIn_r _ [7, 8, 9, 10, 11, 12, 13, 14, 15, 16, 17, 18, 19, 20, 21, 22, 23, 24, 35, 36, 37, 38, 39, 40, 41, 42] (by decide +kernel) (by decide +kernel)
set_option maxRecDepth 20000 in
theorem gX9_undo_X3_recall : GoodIn wsX9_undo (wsV RX9 154 RX3 yX3_recall wsX3_recall) := goodIn_app (goodIn_of _ (by decide +kernel)) ggX9_undo_X3_recall
theorem dX9_undo_0 : decode cX9_undo 0 = .ok (.aload_n 0, 1) := by decide +kernel
theorem dX9_undo_1 : decode cX9_undo 1 = .ok (.getfield 29, 3) := by decide +kernel
theorem dX9_undo_4 : decode cX9_undo 4 = .ok (.getfield 151, 3) := by decide +kernel
theorem dX9_undo_7 : decode cX9_undo 7 = .ok (.ifCond .ne 6, 3) := by decide +kernel
theorem dX9_undo_10 : decode cX9_undo 10 = .ok (.bipush (-2), 2) := by decide +kernel
theorem dX9_undo_12 : decode cX9_undo 12 = .ok (.ireturn, 1) := by decide +kernel
theorem dX9_undo_13 : decode cX9_undo 13 = .ok (.aload_n 0, 1) := by decide +kernel
theorem dX9_undo_14 : decode cX9_undo 14 = .ok (.getfield 29, 3) := by decide +kernel
theorem dX9_undo_17 : decode cX9_undo 17 = .ok (.invokevirtual 154, 3) := by decide +kernel
theorem dX9_undo_20 : decode cX9_undo 20 = .ok (.aload_n 0, 1) := by decide +kernel
theorem dX9_undo_21 : decode cX9_undo 21 = .ok (.getfield 29, 3) := by decide +kernel
theorem dX9_undo_24 : decode cX9_undo 24 = .ok (.getfield 151, 3) := by decide +kernel
theorem dX9_undo_27 : decode cX9_undo 27 = .ok (.ireturn, 1) := by decide +kernel
set_option maxRecDepth 20000 in
theorem ggX9_now_X9_widthsTogether : GoodIn wsX9_now wsX9_widthsTogether := goodIn_r _ [8, 9, 10, 1, 2, 11, 12, 13, 14, 15, 16, 17, 18, 19, 20, 21, 22, 23, 24, 25, 31, 32, 33, 34, 35, 36, 37, 38, 39, 40, 49, 50, 51, 52, 53, 54, 55, 56, 57, 58, 59, 60, 61, 62, 63, 64, 65, 41, 42, 43, 44, 45, 46, 47, 48] (by decide +kernel) (by decide +kernel)
set_option maxRecDepth 20000 in
theorem gX9_now_X9_widthsTogether : GoodIn wsX9_now (wsV RX9 147 RX9 yX9_widthsTogether wsX9_widthsTogether) := goodIn_app (goodIn_of _ (by decide +kernel)) ggX9_now_X9_widthsTogether
set_option maxRecDepth 20000 in
theorem ggX9_now_X9_streetsWithHidden : GoodIn wsX9_now wsX9_streetsWithHidden := goodIn_r _ [29, 9, 10, 1, 2, 30, 31, 32, 33, 34, 35, 36, 37, 38, 39, 40, 49, 50, 51, 52, 53, 54, 55, 56, 57, 58, 59, 60, 61, 62, 63, 64, 65, 41, 42, 43, 44, 45, 46, 47, 48] (by decide +kernel) (by decide +kernel)
set_option maxRecDepth 20000 in
theorem gX9_now_X9_streetsWithHidden : GoodIn wsX9_now (wsV RX9 157 RX9 yX9_streetsWithHidden wsX9_streetsWithHidden) := goodIn_app (goodIn_of _ (by decide +kernel)) ggX9_now_X9_streetsWithHidden
theorem dX9_now_0 : decode cX9_now 0 = .ok (.iload_n 1, 1) := by decide +kernel
theorem dX9_now_1 : decode cX9_now 1 = .ok (.tableswitch 48 0 2 #[27, 38, 43], 27) := by decide +kernel
theorem dX9_now_28 : decode cX9_now 28 = .ok (.aload_n 0, 1) := by decide +kernel
theorem dX9_now_29 : decode cX9_now 29 = .ok (.getfield 29, 3) := by decide +kernel
theorem dX9_now_32 : decode cX9_now 32 = .ok (.getfield 98, 3) := by decide +kernel
theorem dX9_now_35 : decode cX9_now 35 = .ok (.getfield 144, 3) := by decide +kernel
theorem dX9_now_38 : decode cX9_now 38 = .ok (.ireturn, 1) := by decide +kernel
theorem dX9_now_39 : decode cX9_now 39 = .ok (.aload_n 0, 1) := by decide +kernel
theorem dX9_now_40 : decode cX9_now 40 = .ok (.invokevirtual 147, 3) := by decide +kernel
theorem dX9_now_43 : decode cX9_now 43 = .ok (.ireturn, 1) := by decide +kernel
theorem dX9_now_44 : decode cX9_now 44 = .ok (.aload_n 0, 1) := by decide +kernel
theorem dX9_now_45 : decode cX9_now 45 = .ok (.invokevirtual 157, 3) := by decide +kernel
theorem dX9_now_48 : decode cX9_now 48 = .ok (.ireturn, 1) := by decide +kernel
theorem dX9_now_49 : decode cX9_now 49 = .ok (.iconst (-1), 1) := by decide +kernel
theorem dX9_now_50 : decode cX9_now 50 = .ok (.ireturn, 1) := by decide +kernel
set_option maxRecDepth 20000 in
theorem ggX9_widest_X9_areUnlikeYards : GoodIn wsX9_widest wsX9_areUnlikeYards := goodIn_r _ [5, 6, 7, 8, 9, 4, 10, 87, 88, 89, 90, 91, 92, 93, 94, 95, 96, 97, 98, 99, 100, 101, 102, 103, 104, 105, 106, 107, 108, 109, 110, 111, 112, 113] (by decide +kernel) (by decide +kernel)
set_option maxRecDepth 20000 in
theorem gX9_widest_X9_areUnlikeYards : GoodIn wsX9_widest (wsV RX9 160 RX9 yX9_areUnlikeYards wsX9_areUnlikeYards) := goodIn_app (goodIn_of _ (by decide +kernel)) ggX9_widest_X9_areUnlikeYards
set_option maxRecDepth 20000 in
theorem ggX9_widest_X9_waysNow : GoodIn wsX9_widest wsX9_waysNow := goodIn_r _ [14, 15, 16, 6, 17, 18, 19, 20, 21, 22, 23, 24, 25, 26, 27, 28, 29, 30, 31, 32, 33, 34, 35, 36, 37, 38, 39, 40, 41, 42, 43, 44, 45, 46, 47, 48, 49, 50, 51, 52, 53, 54, 55, 56, 57, 58, 87, 88, 89, 90, 91, 92, 93, 94, 95, 96, 114, 115, 116, 117, 118, 97, 98, 99, 100, 101, 102, 103, 104, 105, 106, 107, 108, 109, 110, 111, 112, 113, 119, 120, 121, 122, 123] (by decide +kernel) (by decide +kernel)
set_option maxRecDepth 20000 in
theorem gX9_widest_X9_waysNow : GoodIn wsX9_widest (wsV RX9 164 RX9 yX9_waysNow wsX9_waysNow) := goodIn_app (goodIn_of _ (by decide +kernel)) ggX9_widest_X9_waysNow
set_option maxRecDepth 20000 in
theorem ggX9_widest_X8_widestWay : GoodIn wsX9_widest wsX8_widestWay := goodIn_r _ [63, 64, 65, 66, 62, 67, 68, 69, 70, 71, 72, 73, 74, 75, 76, 77, 78, 79, 80, 81, 30, 82, 35, 40, 83, 84, 85, 86, 114, 115, 97, 98, 99, 100, 101, 102, 103, 104, 105, 106, 107, 108, 109, 110, 111, 112, 113] (by decide +kernel) (by decide +kernel)
set_option maxRecDepth 20000 in
theorem gX9_widest_X8_widestWay : GoodIn wsX9_widest (wsV RX9 168 RX8 yX8_widestWay wsX8_widestWay) := goodIn_app (goodIn_of _ (by decide +kernel)) ggX9_widest_X8_widestWay
theorem dX9_widest_0 : decode cX9_widest 0 = .ok (.aload_n 0, 1) := by decide +kernel
theorem dX9_widest_1 : decode cX9_widest 1 = .ok (.iload_n 1, 1) := by decide +kernel
theorem dX9_widest_2 : decode cX9_widest 2 = .ok (.iload_n 2, 1) := by decide +kernel
theorem dX9_widest_3 : decode cX9_widest 3 = .ok (.invokevirtual 160, 3) := by decide +kernel
theorem dX9_widest_6 : decode cX9_widest 6 = .ok (.ifCond .eq 15, 3) := by decide +kernel
theorem dX9_widest_9 : decode cX9_widest 9 = .ok (.aload_n 0, 1) := by decide +kernel
theorem dX9_widest_10 : decode cX9_widest 10 = .ok (.invokevirtual 164, 3) := by decide +kernel
theorem dX9_widest_13 : decode cX9_widest 13 = .ok (.iload_n 1, 1) := by decide +kernel
theorem dX9_widest_14 : decode cX9_widest 14 = .ok (.iload_n 2, 1) := by decide +kernel
theorem dX9_widest_15 : decode cX9_widest 15 = .ok (.invokevirtual 168, 3) := by decide +kernel
theorem dX9_widest_18 : decode cX9_widest 18 = .ok (.goto 4, 3) := by decide +kernel
theorem dX9_widest_21 : decode cX9_widest 21 = .ok (.iconst (-1), 1) := by decide +kernel
theorem dX9_widest_22 : decode cX9_widest 22 = .ok (.ireturn, 1) := by decide +kernel
set_option maxRecDepth 20000 in
theorem ggX9_way_X9_areUnlikeYards : GoodIn wsX9_way wsX9_areUnlikeYards := goodIn_r _ [5, 6, 7, 8, 9, 4, 10, 83, 84, 85, 86, 87, 88, 89, 90, 91, 92, 93, 94, 95, 96, 97, 98, 99, 100, 101, 102, 103, 104, 105, 106, 107, 108, 109] (by decide +kernel) (by decide +kernel)
set_option maxRecDepth 20000 in
theorem gX9_way_X9_areUnlikeYards : GoodIn wsX9_way (wsV RX9 160 RX9 yX9_areUnlikeYards wsX9_areUnlikeYards) := goodIn_app (goodIn_of _ (by decide +kernel)) ggX9_way_X9_areUnlikeYards
set_option maxRecDepth 20000 in
theorem ggX9_way_X9_isWithin : GoodIn wsX9_way wsX9_isWithin := goodIn_r _ [10] (by decide +kernel) (by decide +kernel)
set_option maxRecDepth 20000 in
theorem gX9_way_X9_isWithin : GoodIn wsX9_way (va_wsS RX9 58 yX9_isWithin wsX9_isWithin) := goodIn_app (goodIn_of _ (by decide +kernel)) ggX9_way_X9_isWithin
set_option maxRecDepth 20000 in
theorem ggX9_way_X9_waysNow : GoodIn wsX9_way wsX9_waysNow := goodIn_r _ [14, 15, 16, 6, 17, 18, 19, 20, 21, 22, 23, 24, 25, 26, 27, 28, 29, 30, 31, 32, 33, 34, 35, 36, 37, 38, 39, 40, 41, 42, 43, 44, 45, 46, 47, 48, 49, 50, 51, 52, 53, 54, 55, 56, 57, 58, 83, 84, 85, 86, 87, 88, 89, 90, 91, 92, 110, 111, 112, 113, 114, 93, 94, 95, 96, 97, 98, 99, 100, 101, 102, 103, 104, 105, 106, 107, 108, 109, 115, 116, 117, 118, 119] (by decide +kernel) (by decide +kernel)
set_option maxRecDepth 20000 in
theorem gX9_way_X9_waysNow : GoodIn wsX9_way (wsV RX9 164 RX9 yX9_waysNow wsX9_waysNow) := goodIn_app (goodIn_of _ (by decide +kernel)) ggX9_way_X9_waysNow
set_option maxRecDepth 20000 in
theorem ggX9_way_X8_fewestStreets : GoodIn wsX9_way wsX8_fewestStreets := goodIn_r _ [63, 64, 65, 66, 67, 68, 69, 62, 70, 71, 72, 73, 74, 75, 76, 77, 30, 78, 35, 40, 79, 80, 81, 82, 110, 111, 93, 94, 95, 96, 97, 98, 99, 100, 101, 102, 103, 104, 105, 106, 107, 108, 109] (by decide +kernel) (by decide +kernel)
set_option maxRecDepth 20000 in
theorem gX9_way_X8_fewestStreets : GoodIn wsX9_way (wsV RX9 172 RX8 yX8_fewestStreets wsX8_fewestStreets) := goodIn_app (goodIn_of _ (by decide +kernel)) ggX9_way_X8_fewestStreets
theorem dX9_way_0 : decode cX9_way 0 = .ok (.aload_n 0, 1) := by decide +kernel
theorem dX9_way_1 : decode cX9_way 1 = .ok (.iload_n 1, 1) := by decide +kernel
theorem dX9_way_2 : decode cX9_way 2 = .ok (.iload_n 2, 1) := by decide +kernel
theorem dX9_way_3 : decode cX9_way 3 = .ok (.invokevirtual 160, 3) := by decide +kernel
theorem dX9_way_6 : decode cX9_way 6 = .ok (.ifCond .eq 13, 3) := by decide +kernel
theorem dX9_way_9 : decode cX9_way 9 = .ok (.iload_n 3, 1) := by decide +kernel
theorem dX9_way_10 : decode cX9_way 10 = .ok (.iconst 1, 1) := by decide +kernel
theorem dX9_way_11 : decode cX9_way 11 = .ok (.bipush 10, 2) := by decide +kernel
theorem dX9_way_13 : decode cX9_way 13 = .ok (.invokestatic 58, 3) := by decide +kernel
theorem dX9_way_16 : decode cX9_way 16 = .ok (.ifCond .ne 5, 3) := by decide +kernel
theorem dX9_way_19 : decode cX9_way 19 = .ok (.iconst (-1), 1) := by decide +kernel
theorem dX9_way_20 : decode cX9_way 20 = .ok (.ireturn, 1) := by decide +kernel
theorem dX9_way_21 : decode cX9_way 21 = .ok (.aload_n 0, 1) := by decide +kernel
theorem dX9_way_22 : decode cX9_way 22 = .ok (.invokevirtual 164, 3) := by decide +kernel
theorem dX9_way_25 : decode cX9_way 25 = .ok (.iload_n 1, 1) := by decide +kernel
theorem dX9_way_26 : decode cX9_way 26 = .ok (.iload_n 2, 1) := by decide +kernel
theorem dX9_way_27 : decode cX9_way 27 = .ok (.iload_n 3, 1) := by decide +kernel
theorem dX9_way_28 : decode cX9_way 28 = .ok (.invokevirtual 172, 3) := by decide +kernel
theorem dX9_way_31 : decode cX9_way 31 = .ok (.ireturn, 1) := by decide +kernel
set_option maxRecDepth 20000 in
theorem ggX9_flow_X9_areUnlikeYards : GoodIn wsX9_flow wsX9_areUnlikeYards := goodIn_r _ [5, 6, 7, 8, 9, 4, 10, 100, 101, 102, 103, 104, 105, 106, 107, 108, 109, 110, 111, 112, 113, 114, 115, 116, 117, 118, 119, 120, 121, 122, 123, 124, 125, 126] (by decide +kernel) (by decide +kernel)
set_option maxRecDepth 20000 in
theorem gX9_flow_X9_areUnlikeYards : GoodIn wsX9_flow (wsV RX9 160 RX9 yX9_areUnlikeYards wsX9_areUnlikeYards) := goodIn_app (goodIn_of _ (by decide +kernel)) ggX9_flow_X9_areUnlikeYards
set_option maxRecDepth 20000 in
theorem ggX9_flow_X9_isWithin : GoodIn wsX9_flow wsX9_isWithin := goodIn_r _ [10] (by decide +kernel) (by decide +kernel)
set_option maxRecDepth 20000 in
theorem gX9_flow_X9_isWithin : GoodIn wsX9_flow (va_wsS RX9 58 yX9_isWithin wsX9_isWithin) := goodIn_app (goodIn_of _ (by decide +kernel)) ggX9_flow_X9_isWithin
set_option maxRecDepth 20000 in
theorem ggX9_flow_X9_waysNow : GoodIn wsX9_flow wsX9_waysNow := goodIn_r _ [14, 15, 16, 6, 17, 18, 19, 20, 21, 22, 23, 24, 25, 26, 27, 28, 29, 30, 31, 32, 33, 34, 35, 36, 37, 38, 39, 40, 41, 42, 43, 44, 45, 46, 47, 48, 49, 50, 51, 52, 53, 54, 55, 56, 57, 58, 100, 101, 102, 103, 104, 105, 106, 107, 108, 109, 127, 128, 129, 130, 131, 110, 111, 112, 113, 114, 115, 116, 117, 118, 119, 120, 121, 122, 123, 124, 125, 126, 132, 133, 134, 135, 136] (by decide +kernel) (by decide +kernel)
set_option maxRecDepth 20000 in
theorem gX9_flow_X9_waysNow : GoodIn wsX9_flow (wsV RX9 164 RX9 yX9_waysNow wsX9_waysNow) := goodIn_app (goodIn_of _ (by decide +kernel)) ggX9_flow_X9_waysNow
set_option maxRecDepth 20000 in
theorem ggX9_flow_X8_leastCut : GoodIn wsX9_flow wsX8_leastCut := goodIn_r _ [63, 64, 65, 66, 67, 68, 69, 57, 70, 71, 72, 73, 74, 75, 76, 77, 78, 79, 80, 62, 81, 82, 83, 84, 85, 86, 87, 22, 88, 89, 90, 91, 92, 93, 127, 128, 110, 111, 112, 113, 114, 115, 116, 117, 118, 119, 120, 121, 122, 123, 124, 125, 126] (by decide +kernel) (by decide +kernel)
set_option maxRecDepth 20000 in
theorem gX9_flow_X8_leastCut : GoodIn wsX9_flow (wsV RX9 176 RX8 yX8_leastCut wsX8_leastCut) := goodIn_app (goodIn_of _ (by decide +kernel)) ggX9_flow_X8_leastCut
set_option maxRecDepth 20000 in
theorem ggX9_flow_X8_widthIn : GoodIn wsX9_flow wsX8_widthIn := goodIn_r _ [96] (by decide +kernel) (by decide +kernel)
set_option maxRecDepth 20000 in
theorem gX9_flow_X8_widthIn : GoodIn wsX9_flow (va_wsS RX9 179 yX8_widthIn wsX8_widthIn) := goodIn_app (goodIn_of _ (by decide +kernel)) ggX9_flow_X8_widthIn
set_option maxRecDepth 20000 in
theorem ggX9_flow_X8_streetsIn : GoodIn wsX9_flow wsX8_streetsIn := goodIn_r _ [99] (by decide +kernel) (by decide +kernel)
set_option maxRecDepth 20000 in
theorem gX9_flow_X8_streetsIn : GoodIn wsX9_flow (va_wsS RX9 182 yX8_streetsIn wsX8_streetsIn) := goodIn_app (goodIn_of _ (by decide +kernel)) ggX9_flow_X8_streetsIn
theorem dX9_flow_0 : decode cX9_flow 0 = .ok (.aload_n 0, 1) := by decide +kernel
theorem dX9_flow_1 : decode cX9_flow 1 = .ok (.iload_n 1, 1) := by decide +kernel
theorem dX9_flow_2 : decode cX9_flow 2 = .ok (.iload_n 2, 1) := by decide +kernel
theorem dX9_flow_3 : decode cX9_flow 3 = .ok (.invokevirtual 160, 3) := by decide +kernel
theorem dX9_flow_6 : decode cX9_flow 6 = .ok (.ifCond .eq 12, 3) := by decide +kernel
theorem dX9_flow_9 : decode cX9_flow 9 = .ok (.iload_n 3, 1) := by decide +kernel
theorem dX9_flow_10 : decode cX9_flow 10 = .ok (.iconst 0, 1) := by decide +kernel
theorem dX9_flow_11 : decode cX9_flow 11 = .ok (.iconst 1, 1) := by decide +kernel
theorem dX9_flow_12 : decode cX9_flow 12 = .ok (.invokestatic 58, 3) := by decide +kernel
theorem dX9_flow_15 : decode cX9_flow 15 = .ok (.ifCond .ne 5, 3) := by decide +kernel
theorem dX9_flow_18 : decode cX9_flow 18 = .ok (.iconst (-1), 1) := by decide +kernel
theorem dX9_flow_19 : decode cX9_flow 19 = .ok (.ireturn, 1) := by decide +kernel
theorem dX9_flow_20 : decode cX9_flow 20 = .ok (.aload_n 0, 1) := by decide +kernel
theorem dX9_flow_21 : decode cX9_flow 21 = .ok (.invokevirtual 164, 3) := by decide +kernel
theorem dX9_flow_24 : decode cX9_flow 24 = .ok (.iload_n 1, 1) := by decide +kernel
theorem dX9_flow_25 : decode cX9_flow 25 = .ok (.iload_n 2, 1) := by decide +kernel
theorem dX9_flow_26 : decode cX9_flow 26 = .ok (.invokevirtual 176, 3) := by decide +kernel
theorem dX9_flow_29 : decode cX9_flow 29 = .ok (.istore 4, 2) := by decide +kernel
theorem dX9_flow_31 : decode cX9_flow 31 = .ok (.iload_n 3, 1) := by decide +kernel
theorem dX9_flow_32 : decode cX9_flow 32 = .ok (.ifCond .ne 11, 3) := by decide +kernel
theorem dX9_flow_35 : decode cX9_flow 35 = .ok (.iload 4, 2) := by decide +kernel
theorem dX9_flow_37 : decode cX9_flow 37 = .ok (.invokestatic 179, 3) := by decide +kernel
theorem dX9_flow_40 : decode cX9_flow 40 = .ok (.goto 8, 3) := by decide +kernel
theorem dX9_flow_43 : decode cX9_flow 43 = .ok (.iload 4, 2) := by decide +kernel
theorem dX9_flow_45 : decode cX9_flow 45 = .ok (.invokestatic 182, 3) := by decide +kernel
theorem dX9_flow_48 : decode cX9_flow 48 = .ok (.ireturn, 1) := by decide +kernel
set_option maxRecDepth 20000 in
theorem ggX9_need_X9_areUnlikeYards : GoodIn wsX9_need wsX9_areUnlikeYards := goodIn_r _ [6, 7, 8, 9, 10, 5, 11, 91, 92, 93, 94, 95, 96, 97, 98, 99, 100, 101, 102, 103, 104, 105, 106, 107, 108, 109, 110, 111, 112, 113, 114, 115, 116, 117] (by decide +kernel) (by decide +kernel)
set_option maxRecDepth 20000 in
theorem gX9_need_X9_areUnlikeYards : GoodIn wsX9_need (wsV RX9 160 RX9 yX9_areUnlikeYards wsX9_areUnlikeYards) := goodIn_app (goodIn_of _ (by decide +kernel)) ggX9_need_X9_areUnlikeYards
set_option maxRecDepth 20000 in
theorem ggX9_need_X9_isWithin : GoodIn wsX9_need wsX9_isWithin := goodIn_r _ [11] (by decide +kernel) (by decide +kernel)
set_option maxRecDepth 20000 in
theorem gX9_need_X9_isWithin : GoodIn wsX9_need (va_wsS RX9 58 yX9_isWithin wsX9_isWithin) := goodIn_app (goodIn_of _ (by decide +kernel)) ggX9_need_X9_isWithin
set_option maxRecDepth 20000 in
theorem ggX9_need_X9_waysNow : GoodIn wsX9_need wsX9_waysNow := goodIn_r _ [15, 16, 17, 7, 18, 19, 20, 21, 22, 23, 24, 25, 26, 27, 28, 29, 30, 31, 32, 33, 34, 35, 36, 37, 38, 39, 40, 41, 42, 43, 44, 45, 46, 47, 48, 49, 50, 51, 52, 53, 54, 55, 56, 57, 58, 59, 91, 92, 93, 94, 95, 96, 97, 98, 99, 100, 118, 119, 120, 121, 122, 101, 102, 103, 104, 105, 106, 107, 108, 109, 110, 111, 112, 113, 114, 115, 116, 117, 123, 124, 125, 126, 127] (by decide +kernel) (by decide +kernel)
set_option maxRecDepth 20000 in
theorem gX9_need_X9_waysNow : GoodIn wsX9_need (wsV RX9 164 RX9 yX9_waysNow wsX9_waysNow) := goodIn_app (goodIn_of _ (by decide +kernel)) ggX9_need_X9_waysNow
set_option maxRecDepth 20000 in
theorem ggX9_need_X8_leastPrice : GoodIn wsX9_need wsX8_leastPrice := goodIn_r _ [64, 65, 66, 67, 68, 69, 70, 71, 72, 73, 74, 75, 76, 77, 78, 79, 63, 80, 81, 82, 83, 84, 85, 86, 58, 87, 118, 119, 101, 102, 103, 104, 105, 106, 107, 108, 109, 110, 111, 112, 113, 114, 115, 116, 117] (by decide +kernel) (by decide +kernel)
set_option maxRecDepth 20000 in
theorem gX9_need_X8_leastPrice : GoodIn wsX9_need (wsV RX9 185 RX8 yX8_leastPrice wsX8_leastPrice) := goodIn_app (goodIn_of _ (by decide +kernel)) ggX9_need_X8_leastPrice
set_option maxRecDepth 20000 in
theorem ggX9_need_X8_streetsIn : GoodIn wsX9_need wsX8_streetsIn := goodIn_r _ [90] (by decide +kernel) (by decide +kernel)
set_option maxRecDepth 20000 in
theorem gX9_need_X8_streetsIn : GoodIn wsX9_need (va_wsS RX9 182 yX8_streetsIn wsX8_streetsIn) := goodIn_app (goodIn_of _ (by decide +kernel)) ggX9_need_X8_streetsIn
theorem dX9_need_0 : decode cX9_need 0 = .ok (.aload_n 0, 1) := by decide +kernel
theorem dX9_need_1 : decode cX9_need 1 = .ok (.iload_n 1, 1) := by decide +kernel
theorem dX9_need_2 : decode cX9_need 2 = .ok (.iload_n 2, 1) := by decide +kernel
theorem dX9_need_3 : decode cX9_need 3 = .ok (.invokevirtual 160, 3) := by decide +kernel
theorem dX9_need_6 : decode cX9_need 6 = .ok (.ifCond .eq 13, 3) := by decide +kernel
theorem dX9_need_9 : decode cX9_need 9 = .ok (.iload_n 3, 1) := by decide +kernel
theorem dX9_need_10 : decode cX9_need 10 = .ok (.iconst 1, 1) := by decide +kernel
theorem dX9_need_11 : decode cX9_need 11 = .ok (.bipush 10, 2) := by decide +kernel
theorem dX9_need_13 : decode cX9_need 13 = .ok (.invokestatic 58, 3) := by decide +kernel
theorem dX9_need_16 : decode cX9_need 16 = .ok (.ifCond .ne 5, 3) := by decide +kernel
theorem dX9_need_19 : decode cX9_need 19 = .ok (.iconst (-1), 1) := by decide +kernel
theorem dX9_need_20 : decode cX9_need 20 = .ok (.ireturn, 1) := by decide +kernel
theorem dX9_need_21 : decode cX9_need 21 = .ok (.aload_n 0, 1) := by decide +kernel
theorem dX9_need_22 : decode cX9_need 22 = .ok (.invokevirtual 164, 3) := by decide +kernel
theorem dX9_need_25 : decode cX9_need 25 = .ok (.iload_n 1, 1) := by decide +kernel
theorem dX9_need_26 : decode cX9_need 26 = .ok (.iload_n 2, 1) := by decide +kernel
theorem dX9_need_27 : decode cX9_need 27 = .ok (.iload_n 3, 1) := by decide +kernel
theorem dX9_need_28 : decode cX9_need 28 = .ok (.invokevirtual 185, 3) := by decide +kernel
theorem dX9_need_31 : decode cX9_need 31 = .ok (.istore 4, 2) := by decide +kernel
theorem dX9_need_33 : decode cX9_need 33 = .ok (.iload 4, 2) := by decide +kernel
theorem dX9_need_35 : decode cX9_need 35 = .ok (.ldc 188, 2) := by decide +kernel
theorem dX9_need_37 : decode cX9_need 37 = .ok (.if_icmp .ge 11, 3) := by decide +kernel
theorem dX9_need_40 : decode cX9_need 40 = .ok (.iload 4, 2) := by decide +kernel
theorem dX9_need_42 : decode cX9_need 42 = .ok (.invokestatic 182, 3) := by decide +kernel
theorem dX9_need_45 : decode cX9_need 45 = .ok (.goto 5, 3) := by decide +kernel
theorem dX9_need_48 : decode cX9_need 48 = .ok (.bipush (-9), 2) := by decide +kernel
theorem dX9_need_50 : decode cX9_need 50 = .ok (.ireturn, 1) := by decide +kernel
set_option maxRecDepth 20000 in
theorem ggX9_odds_X9_areUnlikeYards : GoodIn wsX9_odds wsX9_areUnlikeYards := goodIn_r _ [7, 1, 8, 9, 10, 6, 11, 108, 109, 110, 111, 112, 113, 114, 115, 116, 117, 118, 119, 120, 121, 122, 123, 124, 125, 126, 127, 128, 129, 130, 131, 132, 133, 134] (by decide +kernel) (by decide +kernel)
set_option maxRecDepth 20000 in
theorem gX9_odds_X9_areUnlikeYards : GoodIn wsX9_odds (wsV RX9 160 RX9 yX9_areUnlikeYards wsX9_areUnlikeYards) := goodIn_app (goodIn_of _ (by decide +kernel)) ggX9_odds_X9_areUnlikeYards
set_option maxRecDepth 20000 in
theorem ggX9_odds_X9_isWithin : GoodIn wsX9_odds wsX9_isWithin := goodIn_r _ [11] (by decide +kernel) (by decide +kernel)
set_option maxRecDepth 20000 in
theorem gX9_odds_X9_isWithin : GoodIn wsX9_odds (va_wsS RX9 58 yX9_isWithin wsX9_isWithin) := goodIn_app (goodIn_of _ (by decide +kernel)) ggX9_odds_X9_isWithin
set_option maxRecDepth 20000 in
theorem ggX9_odds_X8_tenTo : GoodIn wsX9_odds wsX8_tenTo := goodIn_r _ [15] (by decide +kernel) (by decide +kernel)
set_option maxRecDepth 20000 in
theorem gX9_odds_X8_tenTo : GoodIn wsX9_odds (va_wsS RX9 192 yX8_tenTo wsX8_tenTo) := goodIn_app (goodIn_of _ (by decide +kernel)) ggX9_odds_X8_tenTo
set_option maxRecDepth 20000 in
theorem ggX9_odds_X9_waysNow : GoodIn wsX9_odds wsX9_waysNow := goodIn_r _ [19, 20, 21, 1, 22, 23, 24, 25, 26, 27, 28, 29, 30, 31, 32, 33, 34, 35, 36, 37, 38, 39, 40, 41, 42, 43, 44, 45, 46, 47, 48, 49, 50, 51, 52, 53, 54, 55, 56, 57, 58, 59, 60, 61, 62, 63, 108, 109, 110, 111, 112, 113, 114, 115, 116, 117, 135, 136, 137, 138, 139, 118, 119, 120, 121, 122, 123, 124, 125, 126, 127, 128, 129, 130, 131, 132, 133, 134, 140, 141, 142, 143, 144] (by decide +kernel) (by decide +kernel)
set_option maxRecDepth 20000 in
theorem gX9_odds_X9_waysNow : GoodIn wsX9_odds (wsV RX9 164 RX9 yX9_waysNow wsX9_waysNow) := goodIn_app (goodIn_of _ (by decide +kernel)) ggX9_odds_X9_waysNow
set_option maxRecDepth 20000 in
theorem ggX9_odds_X5_allOf : GoodIn wsX9_odds wsX5_allOf := goodIn_r _ [67] (by decide +kernel) (by decide +kernel)
set_option maxRecDepth 20000 in
theorem gX9_odds_X5_allOf : GoodIn wsX9_odds (va_wsS RX9 195 yX5_allOf wsX5_allOf) := goodIn_app (goodIn_of _ (by decide +kernel)) ggX9_odds_X5_allOf
set_option maxRecDepth 20000 in
theorem ggX9_odds_X8_chances : GoodIn wsX9_odds wsX8_chances := goodIn_r _ [71, 72, 73, 74, 66, 75, 76, 77, 78, 79, 80, 81, 82, 83, 13, 14, 15, 84, 85, 86, 87, 88, 89, 90, 91, 92, 27, 93, 94, 95, 96, 97, 98, 99, 100, 101, 102, 103, 104, 105, 35, 106, 40, 45, 107, 69, 70, 135, 136, 118, 119, 120, 121, 122, 123, 124, 125, 126, 127, 128, 129, 130, 131, 132, 133, 134] (by decide +kernel) (by decide +kernel)
set_option maxRecDepth 20000 in
theorem gX9_odds_X8_chances : GoodIn wsX9_odds (wsV RX9 200 RX8 yX8_chances wsX8_chances) := goodIn_app (goodIn_of _ (by decide +kernel)) ggX9_odds_X8_chances
theorem dX9_odds_0 : decode cX9_odds 0 = .ok (.aload_n 0, 1) := by decide +kernel
theorem dX9_odds_1 : decode cX9_odds 1 = .ok (.iload_n 1, 1) := by decide +kernel
theorem dX9_odds_2 : decode cX9_odds 2 = .ok (.iload_n 2, 1) := by decide +kernel
theorem dX9_odds_3 : decode cX9_odds 3 = .ok (.invokevirtual 160, 3) := by decide +kernel
theorem dX9_odds_6 : decode cX9_odds 6 = .ok (.ifCond .eq 23, 3) := by decide +kernel
theorem dX9_odds_9 : decode cX9_odds 9 = .ok (.iload_n 3, 1) := by decide +kernel
theorem dX9_odds_10 : decode cX9_odds 10 = .ok (.iconst 0, 1) := by decide +kernel
theorem dX9_odds_11 : decode cX9_odds 11 = .ok (.bipush 10, 2) := by decide +kernel
theorem dX9_odds_13 : decode cX9_odds 13 = .ok (.invokestatic 58, 3) := by decide +kernel
theorem dX9_odds_16 : decode cX9_odds 16 = .ok (.ifCond .eq 13, 3) := by decide +kernel
theorem dX9_odds_19 : decode cX9_odds 19 = .ok (.iload 4, 2) := by decide +kernel
theorem dX9_odds_21 : decode cX9_odds 21 = .ok (.iconst 0, 1) := by decide +kernel
theorem dX9_odds_22 : decode cX9_odds 22 = .ok (.iconst 1, 1) := by decide +kernel
theorem dX9_odds_23 : decode cX9_odds 23 = .ok (.invokestatic 58, 3) := by decide +kernel
theorem dX9_odds_26 : decode cX9_odds 26 = .ok (.ifCond .ne 5, 3) := by decide +kernel
theorem dX9_odds_29 : decode cX9_odds 29 = .ok (.iconst (-1), 1) := by decide +kernel
theorem dX9_odds_30 : decode cX9_odds 30 = .ok (.ireturn, 1) := by decide +kernel
theorem dX9_odds_31 : decode cX9_odds 31 = .ok (.aload_n 0, 1) := by decide +kernel
theorem dX9_odds_32 : decode cX9_odds 32 = .ok (.getfield 23, 3) := by decide +kernel
theorem dX9_odds_35 : decode cX9_odds 35 = .ok (.getfield 189, 3) := by decide +kernel
theorem dX9_odds_38 : decode cX9_odds 38 = .ok (.invokestatic 192, 3) := by decide +kernel
theorem dX9_odds_41 : decode cX9_odds 41 = .ok (.istore 5, 2) := by decide +kernel
theorem dX9_odds_43 : decode cX9_odds 43 = .ok (.aload_n 0, 1) := by decide +kernel
theorem dX9_odds_44 : decode cX9_odds 44 = .ok (.invokevirtual 164, 3) := by decide +kernel
theorem dX9_odds_47 : decode cX9_odds 47 = .ok (.iconst 1, 1) := by decide +kernel
theorem dX9_odds_48 : decode cX9_odds 48 = .ok (.iload_n 1, 1) := by decide +kernel
theorem dX9_odds_49 : decode cX9_odds 49 = .ok (.ishl, 1) := by decide +kernel
theorem dX9_odds_50 : decode cX9_odds 50 = .ok (.aload_n 0, 1) := by decide +kernel
theorem dX9_odds_51 : decode cX9_odds 51 = .ok (.getfield 23, 3) := by decide +kernel
theorem dX9_odds_54 : decode cX9_odds 54 = .ok (.getfield 189, 3) := by decide +kernel
theorem dX9_odds_57 : decode cX9_odds 57 = .ok (.invokestatic 195, 3) := by decide +kernel
theorem dX9_odds_60 : decode cX9_odds 60 = .ok (.iload_n 2, 1) := by decide +kernel
theorem dX9_odds_61 : decode cX9_odds 61 = .ok (.iload_n 3, 1) := by decide +kernel
theorem dX9_odds_62 : decode cX9_odds 62 = .ok (.invokevirtual 200, 3) := by decide +kernel
theorem dX9_odds_65 : decode cX9_odds 65 = .ok (.istore 6, 2) := by decide +kernel
theorem dX9_odds_67 : decode cX9_odds 67 = .ok (.iconst 0, 1) := by decide +kernel
theorem dX9_odds_68 : decode cX9_odds 68 = .ok (.istore 7, 2) := by decide +kernel
theorem dX9_odds_70 : decode cX9_odds 70 = .ok (.iload 7, 2) := by decide +kernel
theorem dX9_odds_72 : decode cX9_odds 72 = .ok (.aload_n 0, 1) := by decide +kernel
theorem dX9_odds_73 : decode cX9_odds 73 = .ok (.getfield 23, 3) := by decide +kernel
theorem dX9_odds_76 : decode cX9_odds 76 = .ok (.getfield 189, 3) := by decide +kernel
theorem dX9_odds_79 : decode cX9_odds 79 = .ok (.if_icmp .ge 47, 3) := by decide +kernel
theorem dX9_odds_82 : decode cX9_odds 82 = .ok (.iload 6, 2) := by decide +kernel
theorem dX9_odds_84 : decode cX9_odds 84 = .ok (.iconst 2, 1) := by decide +kernel
theorem dX9_odds_85 : decode cX9_odds 85 = .ok (.irem, 1) := by decide +kernel
theorem dX9_odds_86 : decode cX9_odds 86 = .ok (.ifCond .ne 15, 3) := by decide +kernel
theorem dX9_odds_89 : decode cX9_odds 89 = .ok (.iload 6, 2) := by decide +kernel
theorem dX9_odds_91 : decode cX9_odds 91 = .ok (.iconst 2, 1) := by decide +kernel
theorem dX9_odds_92 : decode cX9_odds 92 = .ok (.idiv, 1) := by decide +kernel
theorem dX9_odds_93 : decode cX9_odds 93 = .ok (.istore 6, 2) := by decide +kernel
theorem dX9_odds_95 : decode cX9_odds 95 = .ok (.iload 5, 2) := by decide +kernel
theorem dX9_odds_97 : decode cX9_odds 97 = .ok (.iconst 2, 1) := by decide +kernel
theorem dX9_odds_98 : decode cX9_odds 98 = .ok (.idiv, 1) := by decide +kernel
theorem dX9_odds_99 : decode cX9_odds 99 = .ok (.istore 5, 2) := by decide +kernel
theorem dX9_odds_101 : decode cX9_odds 101 = .ok (.iload 6, 2) := by decide +kernel
theorem dX9_odds_103 : decode cX9_odds 103 = .ok (.iconst 5, 1) := by decide +kernel
theorem dX9_odds_104 : decode cX9_odds 104 = .ok (.irem, 1) := by decide +kernel
theorem dX9_odds_105 : decode cX9_odds 105 = .ok (.ifCond .ne 15, 3) := by decide +kernel
theorem dX9_odds_108 : decode cX9_odds 108 = .ok (.iload 6, 2) := by decide +kernel
theorem dX9_odds_110 : decode cX9_odds 110 = .ok (.iconst 5, 1) := by decide +kernel
theorem dX9_odds_111 : decode cX9_odds 111 = .ok (.idiv, 1) := by decide +kernel
theorem dX9_odds_112 : decode cX9_odds 112 = .ok (.istore 6, 2) := by decide +kernel
theorem dX9_odds_114 : decode cX9_odds 114 = .ok (.iload 5, 2) := by decide +kernel
theorem dX9_odds_116 : decode cX9_odds 116 = .ok (.iconst 5, 1) := by decide +kernel
theorem dX9_odds_117 : decode cX9_odds 117 = .ok (.idiv, 1) := by decide +kernel
theorem dX9_odds_118 : decode cX9_odds 118 = .ok (.istore 5, 2) := by decide +kernel
theorem dX9_odds_120 : decode cX9_odds 120 = .ok (.iinc 7 1, 3) := by decide +kernel
theorem dX9_odds_123 : decode cX9_odds 123 = .ok (.goto (-53), 3) := by decide +kernel
theorem dX9_odds_126 : decode cX9_odds 126 = .ok (.iload 4, 2) := by decide +kernel
theorem dX9_odds_128 : decode cX9_odds 128 = .ok (.ifCond .ne 8, 3) := by decide +kernel
theorem dX9_odds_131 : decode cX9_odds 131 = .ok (.iload 6, 2) := by decide +kernel
theorem dX9_odds_133 : decode cX9_odds 133 = .ok (.goto 5, 3) := by decide +kernel
theorem dX9_odds_136 : decode cX9_odds 136 = .ok (.iload 5, 2) := by decide +kernel
theorem dX9_odds_138 : decode cX9_odds 138 = .ok (.ireturn, 1) := by decide +kernel
set_option maxRecDepth 20000 in
theorem ggX9_carriage_X9_isCitizen : GoodIn wsX9_carriage wsX9_isCitizen := goodIn_r _ [11, 3, 12, 13, 14, 10, 15, 99, 100, 101, 102, 103, 104, 105, 106, 107, 108, 114, 115, 116, 117, 118, 119, 120, 121, 122, 123, 124, 125, 126, 127, 128, 129, 130] (by decide +kernel) (by decide +kernel)
set_option maxRecDepth 20000 in
theorem gX9_carriage_X9_isCitizen : GoodIn wsX9_carriage (wsV RX9 120 RX9 yX9_isCitizen wsX9_isCitizen) := goodIn_app (goodIn_of _ (by decide +kernel)) ggX9_carriage_X9_isCitizen
set_option maxRecDepth 20000 in
theorem ggX9_carriage_X4_draw : GoodIn wsX9_carriage wsX4_draw := goodIn_r _ [20, 21, 22, 23, 24, 25, 26, 27, 28, 29, 30, 31, 32, 33, 34, 35, 36, 37, 38, 39, 40, 41, 42, 43, 44, 45, 46, 47, 48, 49, 50, 51, 52, 53, 54, 55, 114, 115, 116, 117, 118, 119, 120, 121, 122, 123, 124, 125, 126, 127, 128, 129, 130, 131, 132, 133, 134, 135] (by decide +kernel) (by decide +kernel)
set_option maxRecDepth 20000 in
theorem gX9_carriage_X4_draw : GoodIn wsX9_carriage (wsV RX9 208 RX4 yX4_draw wsX4_draw) := goodIn_app (goodIn_of _ (by decide +kernel)) ggX9_carriage_X4_draw
set_option maxRecDepth 20000 in
theorem ggX9_carriage_X0_give : GoodIn wsX9_carriage wsX0_give := goodIn_r _ [60, 61, 62, 63, 64, 65, 66, 67, 68, 69, 70, 71, 72, 73, 59, 74, 75, 76, 54, 77, 78, 79, 80, 81, 82, 83, 84, 85, 86, 87, 88, 89, 90, 91, 92, 93, 94, 95, 96, 97, 98, 109, 110, 114, 115, 116, 117, 118, 119, 120, 121, 122, 123, 124, 125, 126, 127, 128, 129, 130] (by decide +kernel) (by decide +kernel)
set_option maxRecDepth 20000 in
theorem gX9_carriage_X0_give : GoodIn wsX9_carriage (wsV RX9 214 RX0 yX0_give wsX0_give) := goodIn_app (goodIn_of _ (by decide +kernel)) ggX9_carriage_X0_give
theorem dX9_carriage_0 : decode cX9_carriage 0 = .ok (.iload_n 1, 1) := by decide +kernel
theorem dX9_carriage_1 : decode cX9_carriage 1 = .ok (.iconst (-1), 1) := by decide +kernel
theorem dX9_carriage_2 : decode cX9_carriage 2 = .ok (.if_icmp .eq 13, 3) := by decide +kernel
theorem dX9_carriage_5 : decode cX9_carriage 5 = .ok (.aload_n 0, 1) := by decide +kernel
theorem dX9_carriage_6 : decode cX9_carriage 6 = .ok (.iload_n 1, 1) := by decide +kernel
theorem dX9_carriage_7 : decode cX9_carriage 7 = .ok (.invokevirtual 120, 3) := by decide +kernel
theorem dX9_carriage_10 : decode cX9_carriage 10 = .ok (.ifCond .ne 5, 3) := by decide +kernel
theorem dX9_carriage_13 : decode cX9_carriage 13 = .ok (.iconst (-1), 1) := by decide +kernel
theorem dX9_carriage_14 : decode cX9_carriage 14 = .ok (.ireturn, 1) := by decide +kernel
theorem dX9_carriage_15 : decode cX9_carriage 15 = .ok (.aload_n 0, 1) := by decide +kernel
theorem dX9_carriage_16 : decode cX9_carriage 16 = .ok (.getfield 47, 3) := by decide +kernel
theorem dX9_carriage_19 : decode cX9_carriage 19 = .ok (.getfield 204, 3) := by decide +kernel
theorem dX9_carriage_22 : decode cX9_carriage 22 = .ok (.aload_n 0, 1) := by decide +kernel
theorem dX9_carriage_23 : decode cX9_carriage 23 = .ok (.getfield 23, 3) := by decide +kernel
theorem dX9_carriage_26 : decode cX9_carriage 26 = .ok (.aload_n 0, 1) := by decide +kernel
theorem dX9_carriage_27 : decode cX9_carriage 27 = .ok (.getfield 29, 3) := by decide +kernel
theorem dX9_carriage_30 : decode cX9_carriage 30 = .ok (.getfield 98, 3) := by decide +kernel
theorem dX9_carriage_33 : decode cX9_carriage 33 = .ok (.invokevirtual 208, 3) := by decide +kernel
theorem dX9_carriage_36 : decode cX9_carriage 36 = .ok (.aload_n 0, 1) := by decide +kernel
theorem dX9_carriage_37 : decode cX9_carriage 37 = .ok (.getfield 47, 3) := by decide +kernel
theorem dX9_carriage_40 : decode cX9_carriage 40 = .ok (.invokevirtual 214, 3) := by decide +kernel
theorem dX9_carriage_43 : decode cX9_carriage 43 = .ok (.istore_n 2, 1) := by decide +kernel
theorem dX9_carriage_44 : decode cX9_carriage 44 = .ok (.iload_n 1, 1) := by decide +kernel
theorem dX9_carriage_45 : decode cX9_carriage 45 = .ok (.iconst (-1), 1) := by decide +kernel
theorem dX9_carriage_46 : decode cX9_carriage 46 = .ok (.if_icmp .ne 7, 3) := by decide +kernel
theorem dX9_carriage_49 : decode cX9_carriage 49 = .ok (.iload_n 2, 1) := by decide +kernel
theorem dX9_carriage_50 : decode cX9_carriage 50 = .ok (.goto 12, 3) := by decide +kernel
theorem dX9_carriage_53 : decode cX9_carriage 53 = .ok (.aload_n 0, 1) := by decide +kernel
theorem dX9_carriage_54 : decode cX9_carriage 54 = .ok (.getfield 47, 3) := by decide +kernel
theorem dX9_carriage_57 : decode cX9_carriage 57 = .ok (.getfield 217, 3) := by decide +kernel
theorem dX9_carriage_60 : decode cX9_carriage 60 = .ok (.iload_n 1, 1) := by decide +kernel
theorem dX9_carriage_61 : decode cX9_carriage 61 = .ok (.iaload, 1) := by decide +kernel
theorem dX9_carriage_62 : decode cX9_carriage 62 = .ok (.ireturn, 1) := by decide +kernel
set_option maxRecDepth 20000 in
theorem ggX9_measures_X9_isWithin : GoodIn wsX9_measures wsX9_isWithin := goodIn_r _ [6] (by decide +kernel) (by decide +kernel)
set_option maxRecDepth 20000 in
theorem gX9_measures_X9_isWithin : GoodIn wsX9_measures (va_wsS RX9 58 yX9_isWithin wsX9_isWithin) := goodIn_app (goodIn_of _ (by decide +kernel)) ggX9_measures_X9_isWithin
set_option maxRecDepth 20000 in
theorem ggX9_measures_X1_add : GoodIn wsX9_measures wsX1_add := goodIn_r _ [11, 12, 13, 14, 25, 26, 27, 28] (by decide +kernel) (by decide +kernel)
set_option maxRecDepth 20000 in
theorem gX9_measures_X1_add : GoodIn wsX9_measures (wsV RX9 220 RX1 yX1_add wsX1_add) := goodIn_app (goodIn_of _ (by decide +kernel)) ggX9_measures_X1_add
theorem dX9_measures_0 : decode cX9_measures 0 = .ok (.iload_n 1, 1) := by decide +kernel
theorem dX9_measures_1 : decode cX9_measures 1 = .ok (.iconst 1, 1) := by decide +kernel
theorem dX9_measures_2 : decode cX9_measures 2 = .ok (.bipush 10, 2) := by decide +kernel
theorem dX9_measures_4 : decode cX9_measures 4 = .ok (.invokestatic 58, 3) := by decide +kernel
theorem dX9_measures_7 : decode cX9_measures 7 = .ok (.ifCond .eq 12, 3) := by decide +kernel
theorem dX9_measures_10 : decode cX9_measures 10 = .ok (.iload_n 2, 1) := by decide +kernel
theorem dX9_measures_11 : decode cX9_measures 11 = .ok (.iconst 0, 1) := by decide +kernel
theorem dX9_measures_12 : decode cX9_measures 12 = .ok (.iconst 1, 1) := by decide +kernel
theorem dX9_measures_13 : decode cX9_measures 13 = .ok (.invokestatic 58, 3) := by decide +kernel
theorem dX9_measures_16 : decode cX9_measures 16 = .ok (.ifCond .ne 5, 3) := by decide +kernel
theorem dX9_measures_19 : decode cX9_measures 19 = .ok (.iconst (-1), 1) := by decide +kernel
theorem dX9_measures_20 : decode cX9_measures 20 = .ok (.ireturn, 1) := by decide +kernel
theorem dX9_measures_21 : decode cX9_measures 21 = .ok (.aload_n 0, 1) := by decide +kernel
theorem dX9_measures_22 : decode cX9_measures 22 = .ok (.getfield 54, 3) := by decide +kernel
theorem dX9_measures_25 : decode cX9_measures 25 = .ok (.getfield 84, 3) := by decide +kernel
theorem dX9_measures_28 : decode cX9_measures 28 = .ok (.iconst 4, 1) := by decide +kernel
theorem dX9_measures_29 : decode cX9_measures 29 = .ok (.if_icmp .lt 6, 3) := by decide +kernel
theorem dX9_measures_32 : decode cX9_measures 32 = .ok (.bipush (-3), 2) := by decide +kernel
theorem dX9_measures_34 : decode cX9_measures 34 = .ok (.ireturn, 1) := by decide +kernel
theorem dX9_measures_35 : decode cX9_measures 35 = .ok (.aload_n 0, 1) := by decide +kernel
theorem dX9_measures_36 : decode cX9_measures 36 = .ok (.getfield 54, 3) := by decide +kernel
theorem dX9_measures_39 : decode cX9_measures 39 = .ok (.iload_n 1, 1) := by decide +kernel
theorem dX9_measures_40 : decode cX9_measures 40 = .ok (.iload_n 2, 1) := by decide +kernel
theorem dX9_measures_41 : decode cX9_measures 41 = .ok (.invokevirtual 220, 3) := by decide +kernel
theorem dX9_measures_44 : decode cX9_measures 44 = .ok (.aload_n 0, 1) := by decide +kernel
theorem dX9_measures_45 : decode cX9_measures 45 = .ok (.getfield 54, 3) := by decide +kernel
theorem dX9_measures_48 : decode cX9_measures 48 = .ok (.getfield 84, 3) := by decide +kernel
theorem dX9_measures_51 : decode cX9_measures 51 = .ok (.ireturn, 1) := by decide +kernel
theorem dX9_forget_0 : decode cX9_forget 0 = .ok (.aload_n 0, 1) := by decide +kernel
theorem dX9_forget_1 : decode cX9_forget 1 = .ok (.getfield 54, 3) := by decide +kernel
theorem dX9_forget_4 : decode cX9_forget 4 = .ok (.getfield 84, 3) := by decide +kernel
theorem dX9_forget_7 : decode cX9_forget 7 = .ok (.istore_n 1, 1) := by decide +kernel
theorem dX9_forget_8 : decode cX9_forget 8 = .ok (.aload_n 0, 1) := by decide +kernel
theorem dX9_forget_9 : decode cX9_forget 9 = .ok (.getfield 54, 3) := by decide +kernel
theorem dX9_forget_12 : decode cX9_forget 12 = .ok (.iconst 0, 1) := by decide +kernel
theorem dX9_forget_13 : decode cX9_forget 13 = .ok (.putfield 84, 3) := by decide +kernel
theorem dX9_forget_16 : decode cX9_forget 16 = .ok (.iload_n 1, 1) := by decide +kernel
theorem dX9_forget_17 : decode cX9_forget 17 = .ok (.ireturn, 1) := by decide +kernel
set_option maxRecDepth 20000 in
theorem ggX9_deeds_X1_manyDeeds : GoodIn wsX9_deeds wsX1_manyDeeds := goodIn_r _ [6, 7, 8, 9, 5, 10, 11, 12, 13, 14, 15, 16, 17, 18, 19, 20, 21, 22, 23, 24, 39, 40, 41, 42] (by decide +kernel) (by decide +kernel)
set_option maxRecDepth 20000 in
theorem gX9_deeds_X1_manyDeeds : GoodIn wsX9_deeds (wsV RX9 223 RX1 yX1_manyDeeds wsX1_manyDeeds) := goodIn_app (goodIn_of _ (by decide +kernel)) ggX9_deeds_X1_manyDeeds
set_option maxRecDepth 20000 in
theorem ggX9_deeds_X1_firstDeeds : GoodIn wsX9_deeds wsX1_firstDeeds := goodIn_r _ [28, 7, 8, 9, 5, 10, 11, 12, 13, 14, 15, 16, 17, 18, 19, 20, 21, 22, 23, 24, 39, 40, 41, 42] (by decide +kernel) (by decide +kernel)
set_option maxRecDepth 20000 in
theorem gX9_deeds_X1_firstDeeds : GoodIn wsX9_deeds (wsV RX9 226 RX1 yX1_firstDeeds wsX1_firstDeeds) := goodIn_app (goodIn_of _ (by decide +kernel)) ggX9_deeds_X1_firstDeeds
theorem dX9_deeds_0 : decode cX9_deeds 0 = .ok (.iload_n 1, 1) := by decide +kernel
theorem dX9_deeds_1 : decode cX9_deeds 1 = .ok (.lookupswitch 43 #[(0, 27), (1, 35)], 27) := by decide +kernel
theorem dX9_deeds_28 : decode cX9_deeds 28 = .ok (.aload_n 0, 1) := by decide +kernel
theorem dX9_deeds_29 : decode cX9_deeds 29 = .ok (.getfield 54, 3) := by decide +kernel
theorem dX9_deeds_32 : decode cX9_deeds 32 = .ok (.invokevirtual 223, 3) := by decide +kernel
theorem dX9_deeds_35 : decode cX9_deeds 35 = .ok (.ireturn, 1) := by decide +kernel
theorem dX9_deeds_36 : decode cX9_deeds 36 = .ok (.aload_n 0, 1) := by decide +kernel
theorem dX9_deeds_37 : decode cX9_deeds 37 = .ok (.getfield 54, 3) := by decide +kernel
theorem dX9_deeds_40 : decode cX9_deeds 40 = .ok (.invokevirtual 226, 3) := by decide +kernel
theorem dX9_deeds_43 : decode cX9_deeds 43 = .ok (.ireturn, 1) := by decide +kernel
theorem dX9_deeds_44 : decode cX9_deeds 44 = .ok (.iconst (-1), 1) := by decide +kernel
theorem dX9_deeds_45 : decode cX9_deeds 45 = .ok (.ireturn, 1) := by decide +kernel
set_option maxRecDepth 20000 in
theorem ggX9_when_X1_mostAlike : GoodIn wsX9_when wsX1_mostAlike := goodIn_r _ [6, 7, 8, 9, 10, 11, 12, 13, 14, 15, 16, 17, 18, 5, 19, 20, 21, 22, 23, 24, 25, 26, 27, 28, 29, 30, 41, 42, 43, 44] (by decide +kernel) (by decide +kernel)
set_option maxRecDepth 20000 in
theorem gX9_when_X1_mostAlike : GoodIn wsX9_when (wsV RX9 229 RX1 yX1_mostAlike wsX1_mostAlike) := goodIn_app (goodIn_of _ (by decide +kernel)) ggX9_when_X1_mostAlike
theorem dX9_when_0 : decode cX9_when 0 = .ok (.aload_n 0, 1) := by decide +kernel
theorem dX9_when_1 : decode cX9_when 1 = .ok (.getfield 54, 3) := by decide +kernel
theorem dX9_when_4 : decode cX9_when 4 = .ok (.iconst 0, 1) := by decide +kernel
theorem dX9_when_5 : decode cX9_when 5 = .ok (.invokevirtual 229, 3) := by decide +kernel
theorem dX9_when_8 : decode cX9_when 8 = .ok (.istore_n 1, 1) := by decide +kernel
theorem dX9_when_9 : decode cX9_when 9 = .ok (.iload_n 1, 1) := by decide +kernel
theorem dX9_when_10 : decode cX9_when 10 = .ok (.ifCond .ne 6, 3) := by decide +kernel
theorem dX9_when_13 : decode cX9_when 13 = .ok (.bipush (-9), 2) := by decide +kernel
theorem dX9_when_15 : decode cX9_when 15 = .ok (.ireturn, 1) := by decide +kernel
theorem dX9_when_16 : decode cX9_when 16 = .ok (.iload_n 1, 1) := by decide +kernel
theorem dX9_when_17 : decode cX9_when 17 = .ok (.aload_n 0, 1) := by decide +kernel
theorem dX9_when_18 : decode cX9_when 18 = .ok (.getfield 54, 3) := by decide +kernel
theorem dX9_when_21 : decode cX9_when 21 = .ok (.iconst 1, 1) := by decide +kernel
theorem dX9_when_22 : decode cX9_when 22 = .ok (.invokevirtual 229, 3) := by decide +kernel
theorem dX9_when_25 : decode cX9_when 25 = .ok (.if_icmp .gt 7, 3) := by decide +kernel
theorem dX9_when_28 : decode cX9_when 28 = .ok (.iconst 0, 1) := by decide +kernel
theorem dX9_when_29 : decode cX9_when 29 = .ok (.goto 4, 3) := by decide +kernel
theorem dX9_when_32 : decode cX9_when 32 = .ok (.iconst 1, 1) := by decide +kernel
theorem dX9_when_33 : decode cX9_when 33 = .ok (.ireturn, 1) := by decide +kernel
set_option maxRecDepth 20000 in
theorem ggX9_mark_X9_isStreet : GoodIn wsX9_mark wsX9_isStreet := goodIn_r _ [6, 7, 8, 9, 10, 5, 11, 95, 96, 97, 98, 99, 100, 101, 102, 103, 104, 105, 106, 107, 108, 109, 110, 111, 112, 113, 114, 115, 116, 117, 118, 119, 120, 121] (by decide +kernel) (by decide +kernel)
set_option maxRecDepth 20000 in
theorem gX9_mark_X9_isStreet : GoodIn wsX9_mark (wsV RX9 87 RX9 yX9_isStreet wsX9_isStreet) := goodIn_app (goodIn_of _ (by decide +kernel)) ggX9_mark_X9_isStreet
set_option maxRecDepth 20000 in
theorem ggX9_mark_X9_markAsStreet : GoodIn wsX9_mark wsX9_markAsStreet := goodIn_r _ [15, 16, 17, 18, 19, 20, 21, 22, 23, 24, 25, 26, 27, 28, 29, 30, 31, 32, 33, 95, 96, 97, 98, 99, 100, 101, 102, 103, 104, 122, 123, 124, 125, 126, 127, 128, 129] (by decide +kernel) (by decide +kernel)
set_option maxRecDepth 20000 in
theorem gX9_mark_X9_markAsStreet : GoodIn wsX9_mark (wsV RX9 233 RX9 yX9_markAsStreet wsX9_markAsStreet) := goodIn_app (goodIn_of _ (by decide +kernel)) ggX9_mark_X9_markAsStreet
set_option maxRecDepth 20000 in
theorem ggX9_mark_X9_markAsCross : GoodIn wsX9_mark wsX9_markAsCross := goodIn_r _ [37, 16, 38, 12, 13, 14, 5, 15, 17, 18, 19, 20, 21, 22, 23, 24, 25, 26, 27, 28, 29, 30, 31, 32, 33, 39, 40, 41, 42, 43, 44, 45, 46, 7, 47, 48, 49, 50, 51, 52, 53, 54, 55, 56, 57, 58, 59, 95, 96, 97, 98, 99, 100, 101, 102, 103, 104, 122, 123, 124, 125, 126, 127, 128, 129, 105, 106, 107, 108, 109, 110, 111, 112, 113, 114, 115, 116, 117, 118, 119, 120, 121] (by decide +kernel) (by decide +kernel)
set_option maxRecDepth 20000 in
theorem gX9_mark_X9_markAsCross : GoodIn wsX9_mark (wsV RX9 236 RX9 yX9_markAsCross wsX9_markAsCross) := goodIn_app (goodIn_of _ (by decide +kernel)) ggX9_mark_X9_markAsCross
set_option maxRecDepth 20000 in
theorem ggX9_mark_X9_markAsLane : GoodIn wsX9_mark wsX9_markAsLane := goodIn_r _ [63, 16, 64, 17, 18, 65, 12, 13, 14, 5, 15, 19, 20, 21, 22, 23, 24, 25, 26, 27, 28, 29, 30, 31, 32, 33, 95, 96, 97, 98, 99, 100, 101, 102, 103, 104, 122, 123, 124, 125, 126, 127, 128, 129] (by decide +kernel) (by decide +kernel)
set_option maxRecDepth 20000 in
theorem gX9_mark_X9_markAsLane : GoodIn wsX9_mark (wsV RX9 239 RX9 yX9_markAsLane wsX9_markAsLane) := goodIn_app (goodIn_of _ (by decide +kernel)) ggX9_mark_X9_markAsLane
set_option maxRecDepth 20000 in
theorem ggX9_mark_X9_markAsBoulevard : GoodIn wsX9_mark wsX9_markAsBoulevard := goodIn_r _ [69, 16, 70, 34, 35, 36, 5, 37, 38, 12, 13, 14, 15, 17, 18, 19, 20, 21, 22, 23, 24, 25, 26, 27, 28, 29, 30, 31, 32, 33, 39, 40, 41, 42, 43, 44, 45, 46, 7, 47, 48, 49, 50, 51, 52, 53, 54, 55, 56, 57, 58, 59, 95, 96, 97, 98, 99, 100, 101, 102, 103, 104, 122, 123, 124, 125, 126, 127, 128, 129, 105, 106, 107, 108, 109, 110, 111, 112, 113, 114, 115, 116, 117, 118, 119, 120, 121] (by decide +kernel) (by decide +kernel)
set_option maxRecDepth 20000 in
theorem gX9_mark_X9_markAsBoulevard : GoodIn wsX9_mark (wsV RX9 242 RX9 yX9_markAsBoulevard wsX9_markAsBoulevard) := goodIn_app (goodIn_of _ (by decide +kernel)) ggX9_mark_X9_markAsBoulevard
set_option maxRecDepth 20000 in
theorem ggX9_mark_X9_markAsCourt : GoodIn wsX9_mark wsX9_markAsCourt := goodIn_r _ [74, 16, 75, 60, 61, 62, 5, 63, 64, 17, 18, 65, 12, 13, 14, 15, 19, 20, 21, 22, 23, 24, 25, 26, 27, 28, 29, 30, 31, 32, 33, 95, 96, 97, 98, 99, 100, 101, 102, 103, 104, 122, 123, 124, 125, 126, 127, 128, 129] (by decide +kernel) (by decide +kernel)
set_option maxRecDepth 20000 in
theorem gX9_mark_X9_markAsCourt : GoodIn wsX9_mark (wsV RX9 245 RX9 yX9_markAsCourt wsX9_markAsCourt) := goodIn_app (goodIn_of _ (by decide +kernel)) ggX9_mark_X9_markAsCourt
set_option maxRecDepth 20000 in
theorem ggX9_mark_X9_markAsAlley : GoodIn wsX9_mark wsX9_markAsAlley := goodIn_r _ [79, 16, 80, 12, 13, 14, 5, 15, 17, 18, 19, 20, 21, 22, 23, 24, 25, 26, 27, 28, 29, 30, 31, 32, 33, 81, 82, 83, 84, 7, 8, 85, 86, 87, 88, 89, 90, 91, 92, 93, 94, 53, 54, 55, 56, 57, 58, 59, 95, 96, 97, 98, 99, 100, 101, 102, 103, 104, 122, 123, 124, 125, 126, 127, 128, 129, 105, 106, 107, 108, 109, 110, 111, 112, 113, 114, 115, 116, 117, 118, 119, 120, 121] (by decide +kernel) (by decide +kernel)
set_option maxRecDepth 20000 in
theorem gX9_mark_X9_markAsAlley : GoodIn wsX9_mark (wsV RX9 248 RX9 yX9_markAsAlley wsX9_markAsAlley) := goodIn_app (goodIn_of _ (by decide +kernel)) ggX9_mark_X9_markAsAlley
theorem dX9_mark_0 : decode cX9_mark 0 = .ok (.aload_n 0, 1) := by decide +kernel
theorem dX9_mark_1 : decode cX9_mark 1 = .ok (.iload_n 2, 1) := by decide +kernel
theorem dX9_mark_2 : decode cX9_mark 2 = .ok (.invokevirtual 87, 3) := by decide +kernel
theorem dX9_mark_5 : decode cX9_mark 5 = .ok (.ifCond .ne 6, 3) := by decide +kernel
theorem dX9_mark_8 : decode cX9_mark 8 = .ok (.ldc 232, 2) := by decide +kernel
theorem dX9_mark_10 : decode cX9_mark 10 = .ok (.ireturn, 1) := by decide +kernel
theorem dX9_mark_11 : decode cX9_mark 11 = .ok (.iload_n 1, 1) := by decide +kernel
theorem dX9_mark_12 : decode cX9_mark 12 = .ok (.tableswitch 76 0 5 #[40, 46, 52, 58, 64, 70], 40) := by decide +kernel
theorem dX9_mark_52 : decode cX9_mark 52 = .ok (.aload_n 0, 1) := by decide +kernel
theorem dX9_mark_53 : decode cX9_mark 53 = .ok (.iload_n 2, 1) := by decide +kernel
theorem dX9_mark_54 : decode cX9_mark 54 = .ok (.invokevirtual 233, 3) := by decide +kernel
theorem dX9_mark_57 : decode cX9_mark 57 = .ok (.ireturn, 1) := by decide +kernel
theorem dX9_mark_58 : decode cX9_mark 58 = .ok (.aload_n 0, 1) := by decide +kernel
theorem dX9_mark_59 : decode cX9_mark 59 = .ok (.iload_n 2, 1) := by decide +kernel
theorem dX9_mark_60 : decode cX9_mark 60 = .ok (.invokevirtual 236, 3) := by decide +kernel
theorem dX9_mark_63 : decode cX9_mark 63 = .ok (.ireturn, 1) := by decide +kernel
theorem dX9_mark_64 : decode cX9_mark 64 = .ok (.aload_n 0, 1) := by decide +kernel
theorem dX9_mark_65 : decode cX9_mark 65 = .ok (.iload_n 2, 1) := by decide +kernel
theorem dX9_mark_66 : decode cX9_mark 66 = .ok (.invokevirtual 239, 3) := by decide +kernel
theorem dX9_mark_69 : decode cX9_mark 69 = .ok (.ireturn, 1) := by decide +kernel
theorem dX9_mark_70 : decode cX9_mark 70 = .ok (.aload_n 0, 1) := by decide +kernel
theorem dX9_mark_71 : decode cX9_mark 71 = .ok (.iload_n 2, 1) := by decide +kernel
theorem dX9_mark_72 : decode cX9_mark 72 = .ok (.invokevirtual 242, 3) := by decide +kernel
theorem dX9_mark_75 : decode cX9_mark 75 = .ok (.ireturn, 1) := by decide +kernel
theorem dX9_mark_76 : decode cX9_mark 76 = .ok (.aload_n 0, 1) := by decide +kernel
theorem dX9_mark_77 : decode cX9_mark 77 = .ok (.iload_n 2, 1) := by decide +kernel
theorem dX9_mark_78 : decode cX9_mark 78 = .ok (.invokevirtual 245, 3) := by decide +kernel
theorem dX9_mark_81 : decode cX9_mark 81 = .ok (.ireturn, 1) := by decide +kernel
theorem dX9_mark_82 : decode cX9_mark 82 = .ok (.aload_n 0, 1) := by decide +kernel
theorem dX9_mark_83 : decode cX9_mark 83 = .ok (.iload_n 2, 1) := by decide +kernel
theorem dX9_mark_84 : decode cX9_mark 84 = .ok (.invokevirtual 248, 3) := by decide +kernel
theorem dX9_mark_87 : decode cX9_mark 87 = .ok (.ireturn, 1) := by decide +kernel
theorem dX9_mark_88 : decode cX9_mark 88 = .ok (.ldc 232, 2) := by decide +kernel
theorem dX9_mark_90 : decode cX9_mark 90 = .ok (.ireturn, 1) := by decide +kernel
set_option maxRecDepth 20000 in
theorem ggX9_keep_X9_isWithin : GoodIn wsX9_keep wsX9_isWithin := goodIn_r _ [9] (by decide +kernel) (by decide +kernel)
set_option maxRecDepth 20000 in
theorem gX9_keep_X9_isWithin : GoodIn wsX9_keep (va_wsS RX9 58 yX9_isWithin wsX9_isWithin) := goodIn_app (goodIn_of _ (by decide +kernel)) ggX9_keep_X9_isWithin
set_option maxRecDepth 20000 in
theorem ggX9_keep_X3_become : GoodIn wsX9_keep wsX3_become := goodIn_r _ [14, 15, 16, 17, 18, 19, 20, 21, 22, 23, 24, 25, 26, 27, 28, 29, 30, 31, 42, 43, 44, 45, 46, 47, 48, 49] (by decide +kernel) (by decide +kernel)
set_option maxRecDepth 20000 in
theorem gX9_keep_X3_become : GoodIn wsX9_keep (wsV RX9 251 RX3 yX3_become wsX3_become) := goodIn_app (goodIn_of _ (by decide +kernel)) ggX9_keep_X3_become
theorem dX9_keep_0 : decode cX9_keep 0 = .ok (.iload_n 1, 1) := by decide +kernel
theorem dX9_keep_1 : decode cX9_keep 1 = .ok (.iconst 0, 1) := by decide +kernel
theorem dX9_keep_2 : decode cX9_keep 2 = .ok (.iconst 1, 1) := by decide +kernel
theorem dX9_keep_3 : decode cX9_keep 3 = .ok (.invokestatic 58, 3) := by decide +kernel
theorem dX9_keep_6 : decode cX9_keep 6 = .ok (.ifCond .ne 5, 3) := by decide +kernel
theorem dX9_keep_9 : decode cX9_keep 9 = .ok (.iconst (-1), 1) := by decide +kernel
theorem dX9_keep_10 : decode cX9_keep 10 = .ok (.ireturn, 1) := by decide +kernel
theorem dX9_keep_11 : decode cX9_keep 11 = .ok (.aload_n 0, 1) := by decide +kernel
theorem dX9_keep_12 : decode cX9_keep 12 = .ok (.getfield 33, 3) := by decide +kernel
theorem dX9_keep_15 : decode cX9_keep 15 = .ok (.iload_n 1, 1) := by decide +kernel
theorem dX9_keep_16 : decode cX9_keep 16 = .ok (.aaload, 1) := by decide +kernel
theorem dX9_keep_17 : decode cX9_keep 17 = .ok (.aload_n 0, 1) := by decide +kernel
theorem dX9_keep_18 : decode cX9_keep 18 = .ok (.getfield 29, 3) := by decide +kernel
theorem dX9_keep_21 : decode cX9_keep 21 = .ok (.invokevirtual 251, 3) := by decide +kernel
theorem dX9_keep_24 : decode cX9_keep 24 = .ok (.aload_n 0, 1) := by decide +kernel
theorem dX9_keep_25 : decode cX9_keep 25 = .ok (.dup, 1) := by decide +kernel
theorem dX9_keep_26 : decode cX9_keep 26 = .ok (.getfield 81, 3) := by decide +kernel
theorem dX9_keep_29 : decode cX9_keep 29 = .ok (.iconst 1, 1) := by decide +kernel
theorem dX9_keep_30 : decode cX9_keep 30 = .ok (.iload_n 1, 1) := by decide +kernel
theorem dX9_keep_31 : decode cX9_keep 31 = .ok (.ishl, 1) := by decide +kernel
theorem dX9_keep_32 : decode cX9_keep 32 = .ok (.ior, 1) := by decide +kernel
theorem dX9_keep_33 : decode cX9_keep 33 = .ok (.putfield 81, 3) := by decide +kernel
theorem dX9_keep_36 : decode cX9_keep 36 = .ok (.aload_n 0, 1) := by decide +kernel
theorem dX9_keep_37 : decode cX9_keep 37 = .ok (.getfield 29, 3) := by decide +kernel
theorem dX9_keep_40 : decode cX9_keep 40 = .ok (.getfield 98, 3) := by decide +kernel
theorem dX9_keep_43 : decode cX9_keep 43 = .ok (.getfield 144, 3) := by decide +kernel
theorem dX9_keep_46 : decode cX9_keep 46 = .ok (.ireturn, 1) := by decide +kernel
set_option maxRecDepth 20000 in
theorem ggX9_back_X9_isWithin : GoodIn wsX9_back wsX9_isWithin := goodIn_r _ [9] (by decide +kernel) (by decide +kernel)
set_option maxRecDepth 20000 in
theorem gX9_back_X9_isWithin : GoodIn wsX9_back (va_wsS RX9 58 yX9_isWithin wsX9_isWithin) := goodIn_app (goodIn_of _ (by decide +kernel)) ggX9_back_X9_isWithin
set_option maxRecDepth 20000 in
theorem ggX9_back_X5_has : GoodIn wsX9_back wsX5_has := goodIn_r _ [13] (by decide +kernel) (by decide +kernel)
set_option maxRecDepth 20000 in
theorem gX9_back_X5_has : GoodIn wsX9_back (va_wsS RX9 254 yX5_has wsX5_has) := goodIn_app (goodIn_of _ (by decide +kernel)) ggX9_back_X5_has
set_option maxRecDepth 20000 in
theorem ggX9_back_X3_become : GoodIn wsX9_back wsX3_become := goodIn_r _ [18, 19, 20, 21, 22, 23, 24, 25, 26, 27, 28, 29, 30, 31, 32, 33, 34, 35, 46, 47, 48, 49, 50, 51, 52, 53] (by decide +kernel) (by decide +kernel)
set_option maxRecDepth 20000 in
theorem gX9_back_X3_become : GoodIn wsX9_back (wsV RX9 251 RX3 yX3_become wsX3_become) := goodIn_app (goodIn_of _ (by decide +kernel)) ggX9_back_X3_become
theorem dX9_back_0 : decode cX9_back 0 = .ok (.iload_n 1, 1) := by decide +kernel
theorem dX9_back_1 : decode cX9_back 1 = .ok (.iconst 0, 1) := by decide +kernel
theorem dX9_back_2 : decode cX9_back 2 = .ok (.iconst 1, 1) := by decide +kernel
theorem dX9_back_3 : decode cX9_back 3 = .ok (.invokestatic 58, 3) := by decide +kernel
theorem dX9_back_6 : decode cX9_back 6 = .ok (.ifCond .ne 5, 3) := by decide +kernel
theorem dX9_back_9 : decode cX9_back 9 = .ok (.iconst (-1), 1) := by decide +kernel
theorem dX9_back_10 : decode cX9_back 10 = .ok (.ireturn, 1) := by decide +kernel
theorem dX9_back_11 : decode cX9_back 11 = .ok (.aload_n 0, 1) := by decide +kernel
theorem dX9_back_12 : decode cX9_back 12 = .ok (.getfield 81, 3) := by decide +kernel
theorem dX9_back_15 : decode cX9_back 15 = .ok (.iload_n 1, 1) := by decide +kernel
theorem dX9_back_16 : decode cX9_back 16 = .ok (.invokestatic 254, 3) := by decide +kernel
theorem dX9_back_19 : decode cX9_back 19 = .ok (.ifCond .ne 6, 3) := by decide +kernel
theorem dX9_back_22 : decode cX9_back 22 = .ok (.bipush (-2), 2) := by decide +kernel
theorem dX9_back_24 : decode cX9_back 24 = .ok (.ireturn, 1) := by decide +kernel
theorem dX9_back_25 : decode cX9_back 25 = .ok (.aload_n 0, 1) := by decide +kernel
theorem dX9_back_26 : decode cX9_back 26 = .ok (.getfield 29, 3) := by decide +kernel
theorem dX9_back_29 : decode cX9_back 29 = .ok (.aload_n 0, 1) := by decide +kernel
theorem dX9_back_30 : decode cX9_back 30 = .ok (.getfield 33, 3) := by decide +kernel
theorem dX9_back_33 : decode cX9_back 33 = .ok (.iload_n 1, 1) := by decide +kernel
theorem dX9_back_34 : decode cX9_back 34 = .ok (.aaload, 1) := by decide +kernel
theorem dX9_back_35 : decode cX9_back 35 = .ok (.invokevirtual 251, 3) := by decide +kernel
theorem dX9_back_38 : decode cX9_back 38 = .ok (.aload_n 0, 1) := by decide +kernel
theorem dX9_back_39 : decode cX9_back 39 = .ok (.getfield 29, 3) := by decide +kernel
theorem dX9_back_42 : decode cX9_back 42 = .ok (.getfield 98, 3) := by decide +kernel
theorem dX9_back_45 : decode cX9_back 45 = .ok (.getfield 144, 3) := by decide +kernel
theorem dX9_back_48 : decode cX9_back 48 = .ok (.ireturn, 1) := by decide +kernel
theorem dX9_count_0 : decode cX9_count 0 = .ok (.iload_n 1, 1) := by decide +kernel
theorem dX9_count_1 : decode cX9_count 1 = .ok (.tableswitch 87 0 5 #[39, 47, 55, 63, 71, 79], 39) := by decide +kernel
theorem dX9_count_40 : decode cX9_count 40 = .ok (.aload_n 0, 1) := by decide +kernel
theorem dX9_count_41 : decode cX9_count 41 = .ok (.getfield 23, 3) := by decide +kernel
theorem dX9_count_44 : decode cX9_count 44 = .ok (.getfield 257, 3) := by decide +kernel
theorem dX9_count_47 : decode cX9_count 47 = .ok (.ireturn, 1) := by decide +kernel
theorem dX9_count_48 : decode cX9_count 48 = .ok (.aload_n 0, 1) := by decide +kernel
theorem dX9_count_49 : decode cX9_count 49 = .ok (.getfield 23, 3) := by decide +kernel
theorem dX9_count_52 : decode cX9_count 52 = .ok (.getfield 189, 3) := by decide +kernel
theorem dX9_count_55 : decode cX9_count 55 = .ok (.ireturn, 1) := by decide +kernel
theorem dX9_count_56 : decode cX9_count 56 = .ok (.aload_n 0, 1) := by decide +kernel
theorem dX9_count_57 : decode cX9_count 57 = .ok (.getfield 23, 3) := by decide +kernel
theorem dX9_count_60 : decode cX9_count 60 = .ok (.getfield 260, 3) := by decide +kernel
theorem dX9_count_63 : decode cX9_count 63 = .ok (.ireturn, 1) := by decide +kernel
theorem dX9_count_64 : decode cX9_count 64 = .ok (.aload_n 0, 1) := by decide +kernel
theorem dX9_count_65 : decode cX9_count 65 = .ok (.getfield 54, 3) := by decide +kernel
theorem dX9_count_68 : decode cX9_count 68 = .ok (.getfield 84, 3) := by decide +kernel
theorem dX9_count_71 : decode cX9_count 71 = .ok (.ireturn, 1) := by decide +kernel
theorem dX9_count_72 : decode cX9_count 72 = .ok (.aload_n 0, 1) := by decide +kernel
theorem dX9_count_73 : decode cX9_count 73 = .ok (.getfield 29, 3) := by decide +kernel
theorem dX9_count_76 : decode cX9_count 76 = .ok (.getfield 151, 3) := by decide +kernel
theorem dX9_count_79 : decode cX9_count 79 = .ok (.ireturn, 1) := by decide +kernel
theorem dX9_count_80 : decode cX9_count 80 = .ok (.aload_n 0, 1) := by decide +kernel
theorem dX9_count_81 : decode cX9_count 81 = .ok (.getfield 10, 3) := by decide +kernel
theorem dX9_count_84 : decode cX9_count 84 = .ok (.getfield 62, 3) := by decide +kernel
theorem dX9_count_87 : decode cX9_count 87 = .ok (.ireturn, 1) := by decide +kernel
theorem dX9_count_88 : decode cX9_count 88 = .ok (.iconst (-1), 1) := by decide +kernel
theorem dX9_count_89 : decode cX9_count 89 = .ok (.ireturn, 1) := by decide +kernel
theorem dX9_trace_0 : decode cX9_trace 0 = .ok (.aload_n 0, 1) := by decide +kernel
theorem dX9_trace_1 : decode cX9_trace 1 = .ok (.getfield 263, 3) := by decide +kernel
theorem dX9_trace_4 : decode cX9_trace 4 = .ok (.lreturn, 1) := by decide +kernel
set_option maxRecDepth 20000 in
theorem ggX9_markAsStreet_X2_widthOf : GoodIn wsX9_markAsStreet wsX2_widthOf := goodIn_r _ [8, 9, 10, 11, 12, 13, 7, 14, 15, 16, 17, 18, 32, 33, 34, 35, 36] (by decide +kernel) (by decide +kernel)
set_option maxRecDepth 20000 in
theorem gX9_markAsStreet_X2_widthOf : GoodIn wsX9_markAsStreet (wsV RX9 113 RX2 yX2_widthOf wsX2_widthOf) := goodIn_app (goodIn_of _ (by decide +kernel)) ggX9_markAsStreet_X2_widthOf
theorem dX9_markAsStreet_0 : decode cX9_markAsStreet 0 = .ok (.aload_n 0, 1) := by decide +kernel
theorem dX9_markAsStreet_1 : decode cX9_markAsStreet 1 = .ok (.dup, 1) := by decide +kernel
theorem dX9_markAsStreet_2 : decode cX9_markAsStreet 2 = .ok (.getfield 263, 3) := by decide +kernel
theorem dX9_markAsStreet_5 : decode cX9_markAsStreet 5 = .ok (.lconst 1, 1) := by decide +kernel
theorem dX9_markAsStreet_6 : decode cX9_markAsStreet 6 = .ok (.ladd, 1) := by decide +kernel
theorem dX9_markAsStreet_7 : decode cX9_markAsStreet 7 = .ok (.putfield 263, 3) := by decide +kernel
theorem dX9_markAsStreet_10 : decode cX9_markAsStreet 10 = .ok (.aload_n 0, 1) := by decide +kernel
theorem dX9_markAsStreet_11 : decode cX9_markAsStreet 11 = .ok (.getfield 29, 3) := by decide +kernel
theorem dX9_markAsStreet_14 : decode cX9_markAsStreet 14 = .ok (.getfield 98, 3) := by decide +kernel
theorem dX9_markAsStreet_17 : decode cX9_markAsStreet 17 = .ok (.iload_n 1, 1) := by decide +kernel
theorem dX9_markAsStreet_18 : decode cX9_markAsStreet 18 = .ok (.invokevirtual 113, 3) := by decide +kernel
theorem dX9_markAsStreet_21 : decode cX9_markAsStreet 21 = .ok (.ireturn, 1) := by decide +kernel
set_option maxRecDepth 20000 in
theorem ggX9_markAsCross_X9_markAsStreet : GoodIn wsX9_markAsCross wsX9_markAsStreet := goodIn_r _ [7, 1, 8, 9, 10, 11, 12, 13, 14, 15, 16, 17, 18, 19, 20, 21, 22, 23, 24, 47, 48, 49, 50, 51, 52, 53, 54, 55, 56, 57, 58, 59, 60, 61, 62, 63, 64] (by decide +kernel) (by decide +kernel)
set_option maxRecDepth 20000 in
theorem gX9_markAsCross_X9_markAsStreet : GoodIn wsX9_markAsCross (wsV RX9 233 RX9 yX9_markAsStreet wsX9_markAsStreet) := goodIn_app (goodIn_of _ (by decide +kernel)) ggX9_markAsCross_X9_markAsStreet
set_option maxRecDepth 20000 in
theorem ggX9_markAsCross_X9_livingIn : GoodIn wsX9_markAsCross wsX9_livingIn := goodIn_r _ [28, 29, 30, 31, 6, 32, 33, 34, 8, 9, 35, 36, 37, 38, 39, 47, 48, 49, 50, 51, 52, 53, 54, 55, 56, 65, 66, 67, 68, 69, 70, 71, 72, 73, 74, 75, 76, 77, 78, 79, 80, 81, 57, 58, 59, 60, 61, 62, 63, 64] (by decide +kernel) (by decide +kernel)
set_option maxRecDepth 20000 in
theorem gX9_markAsCross_X9_livingIn : GoodIn wsX9_markAsCross (wsV RX9 117 RX9 yX9_livingIn wsX9_livingIn) := goodIn_app (goodIn_of _ (by decide +kernel)) ggX9_markAsCross_X9_livingIn
set_option maxRecDepth 20000 in
theorem ggX9_markAsCross_J6_bitCount_0f7a4 : GoodIn wsX9_markAsCross wsJ6_bitCount_0f7a4 := goodIn_r _ [43, 44, 45, 46] (by decide +kernel) (by decide +kernel)
set_option maxRecDepth 20000 in
theorem gX9_markAsCross_J6_bitCount_0f7a4 : GoodIn wsX9_markAsCross (va_wsS RX9 135 yJ6_bitCount_0f7a4 wsJ6_bitCount_0f7a4) := goodIn_app (goodIn_of _ (by decide +kernel)) ggX9_markAsCross_J6_bitCount_0f7a4
theorem dX9_markAsCross_0 : decode cX9_markAsCross 0 = .ok (.aload_n 0, 1) := by decide +kernel
theorem dX9_markAsCross_1 : decode cX9_markAsCross 1 = .ok (.dup, 1) := by decide +kernel
theorem dX9_markAsCross_2 : decode cX9_markAsCross 2 = .ok (.getfield 263, 3) := by decide +kernel
theorem dX9_markAsCross_5 : decode cX9_markAsCross 5 = .ok (.ldc2_w 267, 3) := by decide +kernel
theorem dX9_markAsCross_8 : decode cX9_markAsCross 8 = .ok (.ladd, 1) := by decide +kernel
theorem dX9_markAsCross_9 : decode cX9_markAsCross 9 = .ok (.putfield 263, 3) := by decide +kernel
theorem dX9_markAsCross_12 : decode cX9_markAsCross 12 = .ok (.aload_n 0, 1) := by decide +kernel
theorem dX9_markAsCross_13 : decode cX9_markAsCross 13 = .ok (.iload_n 1, 1) := by decide +kernel
theorem dX9_markAsCross_14 : decode cX9_markAsCross 14 = .ok (.invokevirtual 233, 3) := by decide +kernel
theorem dX9_markAsCross_17 : decode cX9_markAsCross 17 = .ok (.aload_n 0, 1) := by decide +kernel
theorem dX9_markAsCross_18 : decode cX9_markAsCross 18 = .ok (.iload_n 1, 1) := by decide +kernel
theorem dX9_markAsCross_19 : decode cX9_markAsCross 19 = .ok (.invokevirtual 117, 3) := by decide +kernel
theorem dX9_markAsCross_22 : decode cX9_markAsCross 22 = .ok (.invokestatic 135, 3) := by decide +kernel
theorem dX9_markAsCross_25 : decode cX9_markAsCross 25 = .ok (.iadd, 1) := by decide +kernel
theorem dX9_markAsCross_26 : decode cX9_markAsCross 26 = .ok (.ireturn, 1) := by decide +kernel
set_option maxRecDepth 20000 in
theorem ggX9_markAsLane_X9_markAsStreet : GoodIn wsX9_markAsLane wsX9_markAsStreet := goodIn_r _ [10, 1, 3, 4, 11, 12, 13, 14, 15, 16, 17, 18, 19, 20, 21, 22, 23, 24, 25, 26, 27, 28, 29, 30, 31, 32, 33, 34, 35, 36, 37, 38, 39, 40, 41, 42, 43] (by decide +kernel) (by decide +kernel)
set_option maxRecDepth 20000 in
theorem gX9_markAsLane_X9_markAsStreet : GoodIn wsX9_markAsLane (wsV RX9 233 RX9 yX9_markAsStreet wsX9_markAsStreet) := goodIn_app (goodIn_of _ (by decide +kernel)) ggX9_markAsLane_X9_markAsStreet
theorem dX9_markAsLane_0 : decode cX9_markAsLane 0 = .ok (.aload_n 0, 1) := by decide +kernel
theorem dX9_markAsLane_1 : decode cX9_markAsLane 1 = .ok (.dup, 1) := by decide +kernel
theorem dX9_markAsLane_2 : decode cX9_markAsLane 2 = .ok (.getfield 263, 3) := by decide +kernel
theorem dX9_markAsLane_5 : decode cX9_markAsLane 5 = .ok (.ldc2_w 269, 3) := by decide +kernel
theorem dX9_markAsLane_8 : decode cX9_markAsLane 8 = .ok (.ladd, 1) := by decide +kernel
theorem dX9_markAsLane_9 : decode cX9_markAsLane 9 = .ok (.putfield 263, 3) := by decide +kernel
theorem dX9_markAsLane_12 : decode cX9_markAsLane 12 = .ok (.aload_n 0, 1) := by decide +kernel
theorem dX9_markAsLane_13 : decode cX9_markAsLane 13 = .ok (.iload_n 1, 1) := by decide +kernel
theorem dX9_markAsLane_14 : decode cX9_markAsLane 14 = .ok (.invokevirtual 233, 3) := by decide +kernel
theorem dX9_markAsLane_17 : decode cX9_markAsLane 17 = .ok (.aload_n 0, 1) := by decide +kernel
theorem dX9_markAsLane_18 : decode cX9_markAsLane 18 = .ok (.getfield 29, 3) := by decide +kernel
theorem dX9_markAsLane_21 : decode cX9_markAsLane 21 = .ok (.getfield 98, 3) := by decide +kernel
theorem dX9_markAsLane_24 : decode cX9_markAsLane 24 = .ok (.getfield 107, 3) := by decide +kernel
theorem dX9_markAsLane_27 : decode cX9_markAsLane 27 = .ok (.iload_n 1, 1) := by decide +kernel
theorem dX9_markAsLane_28 : decode cX9_markAsLane 28 = .ok (.iaload, 1) := by decide +kernel
theorem dX9_markAsLane_29 : decode cX9_markAsLane 29 = .ok (.isub, 1) := by decide +kernel
theorem dX9_markAsLane_30 : decode cX9_markAsLane 30 = .ok (.ireturn, 1) := by decide +kernel
set_option maxRecDepth 20000 in
theorem ggX9_markAsBoulevard_X9_markAsCross : GoodIn wsX9_markAsBoulevard wsX9_markAsCross := goodIn_r _ [7, 1, 8, 9, 10, 11, 6, 12, 13, 14, 15, 16, 17, 18, 19, 20, 21, 22, 23, 24, 25, 26, 27, 28, 29, 30, 31, 32, 33, 34, 35, 36, 37, 38, 39, 40, 41, 42, 43, 44, 45, 46, 47, 48, 49, 50, 51, 52, 53, 54, 55, 56, 57, 58, 59, 60, 61, 62, 63, 64, 65, 66, 67, 68, 69, 70, 71, 72, 73, 74, 75, 76, 77, 78, 79, 80, 81, 82, 83, 84, 85, 86] (by decide +kernel) (by decide +kernel)
set_option maxRecDepth 20000 in
theorem gX9_markAsBoulevard_X9_markAsCross : GoodIn wsX9_markAsBoulevard (wsV RX9 236 RX9 yX9_markAsCross wsX9_markAsCross) := goodIn_app (goodIn_of _ (by decide +kernel)) ggX9_markAsBoulevard_X9_markAsCross
theorem dX9_markAsBoulevard_0 : decode cX9_markAsBoulevard 0 = .ok (.aload_n 0, 1) := by decide +kernel
theorem dX9_markAsBoulevard_1 : decode cX9_markAsBoulevard 1 = .ok (.dup, 1) := by decide +kernel
theorem dX9_markAsBoulevard_2 : decode cX9_markAsBoulevard 2 = .ok (.getfield 263, 3) := by decide +kernel
theorem dX9_markAsBoulevard_5 : decode cX9_markAsBoulevard 5 = .ok (.ldc2_w 271, 3) := by decide +kernel
theorem dX9_markAsBoulevard_8 : decode cX9_markAsBoulevard 8 = .ok (.ladd, 1) := by decide +kernel
theorem dX9_markAsBoulevard_9 : decode cX9_markAsBoulevard 9 = .ok (.putfield 263, 3) := by decide +kernel
theorem dX9_markAsBoulevard_12 : decode cX9_markAsBoulevard 12 = .ok (.aload_n 0, 1) := by decide +kernel
theorem dX9_markAsBoulevard_13 : decode cX9_markAsBoulevard 13 = .ok (.iload_n 1, 1) := by decide +kernel
theorem dX9_markAsBoulevard_14 : decode cX9_markAsBoulevard 14 = .ok (.invokevirtual 236, 3) := by decide +kernel
theorem dX9_markAsBoulevard_17 : decode cX9_markAsBoulevard 17 = .ok (.iconst 2, 1) := by decide +kernel
theorem dX9_markAsBoulevard_18 : decode cX9_markAsBoulevard 18 = .ok (.imul, 1) := by decide +kernel
theorem dX9_markAsBoulevard_19 : decode cX9_markAsBoulevard 19 = .ok (.ireturn, 1) := by decide +kernel
set_option maxRecDepth 20000 in
theorem ggX9_markAsCourt_X9_markAsLane : GoodIn wsX9_markAsCourt wsX9_markAsLane := goodIn_r _ [7, 1, 8, 9, 10, 11, 12, 13, 14, 6, 15, 16, 17, 18, 19, 20, 21, 22, 23, 24, 25, 26, 27, 28, 29, 30, 31, 32, 33, 34, 35, 36, 37, 38, 39, 40, 41, 42, 43, 44, 45, 46, 47, 48] (by decide +kernel) (by decide +kernel)
set_option maxRecDepth 20000 in
theorem gX9_markAsCourt_X9_markAsLane : GoodIn wsX9_markAsCourt (wsV RX9 239 RX9 yX9_markAsLane wsX9_markAsLane) := goodIn_app (goodIn_of _ (by decide +kernel)) ggX9_markAsCourt_X9_markAsLane
theorem dX9_markAsCourt_0 : decode cX9_markAsCourt 0 = .ok (.aload_n 0, 1) := by decide +kernel
theorem dX9_markAsCourt_1 : decode cX9_markAsCourt 1 = .ok (.dup, 1) := by decide +kernel
theorem dX9_markAsCourt_2 : decode cX9_markAsCourt 2 = .ok (.getfield 263, 3) := by decide +kernel
theorem dX9_markAsCourt_5 : decode cX9_markAsCourt 5 = .ok (.ldc2_w 273, 3) := by decide +kernel
theorem dX9_markAsCourt_8 : decode cX9_markAsCourt 8 = .ok (.ladd, 1) := by decide +kernel
theorem dX9_markAsCourt_9 : decode cX9_markAsCourt 9 = .ok (.putfield 263, 3) := by decide +kernel
theorem dX9_markAsCourt_12 : decode cX9_markAsCourt 12 = .ok (.aload_n 0, 1) := by decide +kernel
theorem dX9_markAsCourt_13 : decode cX9_markAsCourt 13 = .ok (.iload_n 1, 1) := by decide +kernel
theorem dX9_markAsCourt_14 : decode cX9_markAsCourt 14 = .ok (.invokevirtual 239, 3) := by decide +kernel
theorem dX9_markAsCourt_17 : decode cX9_markAsCourt 17 = .ok (.iload_n 1, 1) := by decide +kernel
theorem dX9_markAsCourt_18 : decode cX9_markAsCourt 18 = .ok (.iadd, 1) := by decide +kernel
theorem dX9_markAsCourt_19 : decode cX9_markAsCourt 19 = .ok (.ireturn, 1) := by decide +kernel
set_option maxRecDepth 20000 in
theorem ggX9_markAsAlley_X9_markAsStreet : GoodIn wsX9_markAsAlley wsX9_markAsStreet := goodIn_r _ [7, 1, 8, 9, 10, 11, 12, 13, 14, 15, 16, 17, 18, 19, 20, 21, 22, 23, 24, 48, 49, 50, 51, 52, 53, 54, 55, 56, 57, 58, 59, 60, 61, 62, 63, 64, 65] (by decide +kernel) (by decide +kernel)
set_option maxRecDepth 20000 in
theorem gX9_markAsAlley_X9_markAsStreet : GoodIn wsX9_markAsAlley (wsV RX9 233 RX9 yX9_markAsStreet wsX9_markAsStreet) := goodIn_app (goodIn_of _ (by decide +kernel)) ggX9_markAsAlley_X9_markAsStreet
set_option maxRecDepth 20000 in
theorem ggX9_markAsAlley_X9_streetsAt : GoodIn wsX9_markAsAlley wsX9_streetsAt := goodIn_r _ [28, 29, 30, 31, 32, 33, 34, 35, 36, 37, 38, 39, 40, 48, 49, 50, 51, 52, 53, 54, 55, 56, 57, 66, 67, 68, 69, 70, 71, 72, 73, 74, 75, 76, 77, 78, 79, 80, 81, 82] (by decide +kernel) (by decide +kernel)
set_option maxRecDepth 20000 in
theorem gX9_markAsAlley_X9_streetsAt : GoodIn wsX9_markAsAlley (wsV RX9 277 RX9 yX9_streetsAt wsX9_streetsAt) := goodIn_app (goodIn_of _ (by decide +kernel)) ggX9_markAsAlley_X9_streetsAt
set_option maxRecDepth 20000 in
theorem ggX9_markAsAlley_J6_bitCount_0f7a4 : GoodIn wsX9_markAsAlley wsJ6_bitCount_0f7a4 := goodIn_r _ [44, 45, 46, 47] (by decide +kernel) (by decide +kernel)
set_option maxRecDepth 20000 in
theorem gX9_markAsAlley_J6_bitCount_0f7a4 : GoodIn wsX9_markAsAlley (va_wsS RX9 135 yJ6_bitCount_0f7a4 wsJ6_bitCount_0f7a4) := goodIn_app (goodIn_of _ (by decide +kernel)) ggX9_markAsAlley_J6_bitCount_0f7a4
theorem dX9_markAsAlley_0 : decode cX9_markAsAlley 0 = .ok (.aload_n 0, 1) := by decide +kernel
theorem dX9_markAsAlley_1 : decode cX9_markAsAlley 1 = .ok (.dup, 1) := by decide +kernel
theorem dX9_markAsAlley_2 : decode cX9_markAsAlley 2 = .ok (.getfield 263, 3) := by decide +kernel
theorem dX9_markAsAlley_5 : decode cX9_markAsAlley 5 = .ok (.ldc2_w 275, 3) := by decide +kernel
theorem dX9_markAsAlley_8 : decode cX9_markAsAlley 8 = .ok (.ladd, 1) := by decide +kernel
theorem dX9_markAsAlley_9 : decode cX9_markAsAlley 9 = .ok (.putfield 263, 3) := by decide +kernel
theorem dX9_markAsAlley_12 : decode cX9_markAsAlley 12 = .ok (.aload_n 0, 1) := by decide +kernel
theorem dX9_markAsAlley_13 : decode cX9_markAsAlley 13 = .ok (.iload_n 1, 1) := by decide +kernel
theorem dX9_markAsAlley_14 : decode cX9_markAsAlley 14 = .ok (.invokevirtual 233, 3) := by decide +kernel
theorem dX9_markAsAlley_17 : decode cX9_markAsAlley 17 = .ok (.aload_n 0, 1) := by decide +kernel
theorem dX9_markAsAlley_18 : decode cX9_markAsAlley 18 = .ok (.iload_n 1, 1) := by decide +kernel
theorem dX9_markAsAlley_19 : decode cX9_markAsAlley 19 = .ok (.invokevirtual 277, 3) := by decide +kernel
theorem dX9_markAsAlley_22 : decode cX9_markAsAlley 22 = .ok (.invokestatic 135, 3) := by decide +kernel
theorem dX9_markAsAlley_25 : decode cX9_markAsAlley 25 = .ok (.iadd, 1) := by decide +kernel
theorem dX9_markAsAlley_26 : decode cX9_markAsAlley 26 = .ok (.ireturn, 1) := by decide +kernel
theorem dX9_isWithin_0 : decode cX9_isWithin 0 = .ok (.iload_n 0, 1) := by decide +kernel
theorem dX9_isWithin_1 : decode cX9_isWithin 1 = .ok (.iload_n 1, 1) := by decide +kernel
theorem dX9_isWithin_2 : decode cX9_isWithin 2 = .ok (.if_icmp .lt 12, 3) := by decide +kernel
theorem dX9_isWithin_5 : decode cX9_isWithin 5 = .ok (.iload_n 0, 1) := by decide +kernel
theorem dX9_isWithin_6 : decode cX9_isWithin 6 = .ok (.iload_n 2, 1) := by decide +kernel
theorem dX9_isWithin_7 : decode cX9_isWithin 7 = .ok (.if_icmp .gt 7, 3) := by decide +kernel
theorem dX9_isWithin_10 : decode cX9_isWithin 10 = .ok (.iconst 1, 1) := by decide +kernel
theorem dX9_isWithin_11 : decode cX9_isWithin 11 = .ok (.goto 4, 3) := by decide +kernel
theorem dX9_isWithin_14 : decode cX9_isWithin 14 = .ok (.iconst 0, 1) := by decide +kernel
theorem dX9_isWithin_15 : decode cX9_isWithin 15 = .ok (.ireturn, 1) := by decide +kernel
set_option maxRecDepth 20000 in
theorem ggX9_isStreet_X9_isWithin : GoodIn wsX9_isStreet wsX9_isWithin := goodIn_r _ [6] (by decide +kernel) (by decide +kernel)
set_option maxRecDepth 20000 in
theorem gX9_isStreet_X9_isWithin : GoodIn wsX9_isStreet (va_wsS RX9 58 yX9_isWithin wsX9_isWithin) := goodIn_app (goodIn_of _ (by decide +kernel)) ggX9_isStreet_X9_isWithin
theorem dX9_isStreet_0 : decode cX9_isStreet 0 = .ok (.iload_n 1, 1) := by decide +kernel
theorem dX9_isStreet_1 : decode cX9_isStreet 1 = .ok (.iconst 0, 1) := by decide +kernel
theorem dX9_isStreet_2 : decode cX9_isStreet 2 = .ok (.aload_n 0, 1) := by decide +kernel
theorem dX9_isStreet_3 : decode cX9_isStreet 3 = .ok (.getfield 23, 3) := by decide +kernel
theorem dX9_isStreet_6 : decode cX9_isStreet 6 = .ok (.getfield 189, 3) := by decide +kernel
theorem dX9_isStreet_9 : decode cX9_isStreet 9 = .ok (.iconst 1, 1) := by decide +kernel
theorem dX9_isStreet_10 : decode cX9_isStreet 10 = .ok (.isub, 1) := by decide +kernel
theorem dX9_isStreet_11 : decode cX9_isStreet 11 = .ok (.invokestatic 58, 3) := by decide +kernel
theorem dX9_isStreet_14 : decode cX9_isStreet 14 = .ok (.ireturn, 1) := by decide +kernel
set_option maxRecDepth 20000 in
theorem ggX9_isCitizen_X9_isWithin : GoodIn wsX9_isCitizen wsX9_isWithin := goodIn_r _ [6] (by decide +kernel) (by decide +kernel)
set_option maxRecDepth 20000 in
theorem gX9_isCitizen_X9_isWithin : GoodIn wsX9_isCitizen (va_wsS RX9 58 yX9_isWithin wsX9_isWithin) := goodIn_app (goodIn_of _ (by decide +kernel)) ggX9_isCitizen_X9_isWithin
theorem dX9_isCitizen_0 : decode cX9_isCitizen 0 = .ok (.iload_n 1, 1) := by decide +kernel
theorem dX9_isCitizen_1 : decode cX9_isCitizen 1 = .ok (.iconst 0, 1) := by decide +kernel
theorem dX9_isCitizen_2 : decode cX9_isCitizen 2 = .ok (.aload_n 0, 1) := by decide +kernel
theorem dX9_isCitizen_3 : decode cX9_isCitizen 3 = .ok (.getfield 23, 3) := by decide +kernel
theorem dX9_isCitizen_6 : decode cX9_isCitizen 6 = .ok (.getfield 260, 3) := by decide +kernel
theorem dX9_isCitizen_9 : decode cX9_isCitizen 9 = .ok (.iconst 1, 1) := by decide +kernel
theorem dX9_isCitizen_10 : decode cX9_isCitizen 10 = .ok (.isub, 1) := by decide +kernel
theorem dX9_isCitizen_11 : decode cX9_isCitizen 11 = .ok (.invokestatic 58, 3) := by decide +kernel
theorem dX9_isCitizen_14 : decode cX9_isCitizen 14 = .ok (.ireturn, 1) := by decide +kernel
set_option maxRecDepth 20000 in
theorem ggX9_areUnlikeYards_X9_isWithin : GoodIn wsX9_areUnlikeYards wsX9_isWithin := goodIn_r _ [6] (by decide +kernel) (by decide +kernel)
set_option maxRecDepth 20000 in
theorem gX9_areUnlikeYards_X9_isWithin : GoodIn wsX9_areUnlikeYards (va_wsS RX9 58 yX9_isWithin wsX9_isWithin) := goodIn_app (goodIn_of _ (by decide +kernel)) ggX9_areUnlikeYards_X9_isWithin
theorem dX9_areUnlikeYards_0 : decode cX9_areUnlikeYards 0 = .ok (.iload_n 1, 1) := by decide +kernel
theorem dX9_areUnlikeYards_1 : decode cX9_areUnlikeYards 1 = .ok (.iconst 0, 1) := by decide +kernel
theorem dX9_areUnlikeYards_2 : decode cX9_areUnlikeYards 2 = .ok (.aload_n 0, 1) := by decide +kernel
theorem dX9_areUnlikeYards_3 : decode cX9_areUnlikeYards 3 = .ok (.getfield 23, 3) := by decide +kernel
theorem dX9_areUnlikeYards_6 : decode cX9_areUnlikeYards 6 = .ok (.getfield 257, 3) := by decide +kernel
theorem dX9_areUnlikeYards_9 : decode cX9_areUnlikeYards 9 = .ok (.iconst 1, 1) := by decide +kernel
theorem dX9_areUnlikeYards_10 : decode cX9_areUnlikeYards 10 = .ok (.isub, 1) := by decide +kernel
theorem dX9_areUnlikeYards_11 : decode cX9_areUnlikeYards 11 = .ok (.invokestatic 58, 3) := by decide +kernel
theorem dX9_areUnlikeYards_14 : decode cX9_areUnlikeYards 14 = .ok (.ifCond .eq 29, 3) := by decide +kernel
theorem dX9_areUnlikeYards_17 : decode cX9_areUnlikeYards 17 = .ok (.iload_n 2, 1) := by decide +kernel
theorem dX9_areUnlikeYards_18 : decode cX9_areUnlikeYards 18 = .ok (.iconst 0, 1) := by decide +kernel
theorem dX9_areUnlikeYards_19 : decode cX9_areUnlikeYards 19 = .ok (.aload_n 0, 1) := by decide +kernel
theorem dX9_areUnlikeYards_20 : decode cX9_areUnlikeYards 20 = .ok (.getfield 23, 3) := by decide +kernel
theorem dX9_areUnlikeYards_23 : decode cX9_areUnlikeYards 23 = .ok (.getfield 257, 3) := by decide +kernel
theorem dX9_areUnlikeYards_26 : decode cX9_areUnlikeYards 26 = .ok (.iconst 1, 1) := by decide +kernel
theorem dX9_areUnlikeYards_27 : decode cX9_areUnlikeYards 27 = .ok (.isub, 1) := by decide +kernel
theorem dX9_areUnlikeYards_28 : decode cX9_areUnlikeYards 28 = .ok (.invokestatic 58, 3) := by decide +kernel
theorem dX9_areUnlikeYards_31 : decode cX9_areUnlikeYards 31 = .ok (.ifCond .eq 12, 3) := by decide +kernel
theorem dX9_areUnlikeYards_34 : decode cX9_areUnlikeYards 34 = .ok (.iload_n 1, 1) := by decide +kernel
theorem dX9_areUnlikeYards_35 : decode cX9_areUnlikeYards 35 = .ok (.iload_n 2, 1) := by decide +kernel
theorem dX9_areUnlikeYards_36 : decode cX9_areUnlikeYards 36 = .ok (.if_icmp .eq 7, 3) := by decide +kernel
theorem dX9_areUnlikeYards_39 : decode cX9_areUnlikeYards 39 = .ok (.iconst 1, 1) := by decide +kernel
theorem dX9_areUnlikeYards_40 : decode cX9_areUnlikeYards 40 = .ok (.goto 4, 3) := by decide +kernel
theorem dX9_areUnlikeYards_43 : decode cX9_areUnlikeYards 43 = .ok (.iconst 0, 1) := by decide +kernel
theorem dX9_areUnlikeYards_44 : decode cX9_areUnlikeYards 44 = .ok (.ireturn, 1) := by decide +kernel
set_option maxRecDepth 20000 in
theorem ggX9_waysNow_X4_draw : GoodIn wsX9_waysNow wsX4_draw := goodIn_r _ [10, 11, 12, 13, 14, 15, 16, 17, 18, 19, 20, 21, 22, 23, 24, 25, 26, 27, 28, 29, 30, 31, 32, 33, 34, 35, 36, 37, 38, 39, 40, 41, 42, 43, 44, 45, 61, 62, 63, 64, 65, 66, 67, 68, 69, 70, 71, 72, 73, 74, 75, 76, 77, 78, 79, 80, 81, 82] (by decide +kernel) (by decide +kernel)
set_option maxRecDepth 20000 in
theorem gX9_waysNow_X4_draw : GoodIn wsX9_waysNow (wsV RX9 208 RX4 yX4_draw wsX4_draw) := goodIn_app (goodIn_of _ (by decide +kernel)) ggX9_waysNow_X4_draw
theorem dX9_waysNow_0 : decode cX9_waysNow 0 = .ok (.aload_n 0, 1) := by decide +kernel
theorem dX9_waysNow_1 : decode cX9_waysNow 1 = .ok (.getfield 40, 3) := by decide +kernel
theorem dX9_waysNow_4 : decode cX9_waysNow 4 = .ok (.getfield 280, 3) := by decide +kernel
theorem dX9_waysNow_7 : decode cX9_waysNow 7 = .ok (.aload_n 0, 1) := by decide +kernel
theorem dX9_waysNow_8 : decode cX9_waysNow 8 = .ok (.getfield 23, 3) := by decide +kernel
theorem dX9_waysNow_11 : decode cX9_waysNow 11 = .ok (.aload_n 0, 1) := by decide +kernel
theorem dX9_waysNow_12 : decode cX9_waysNow 12 = .ok (.getfield 29, 3) := by decide +kernel
theorem dX9_waysNow_15 : decode cX9_waysNow 15 = .ok (.getfield 98, 3) := by decide +kernel
theorem dX9_waysNow_18 : decode cX9_waysNow 18 = .ok (.invokevirtual 208, 3) := by decide +kernel
theorem dX9_waysNow_21 : decode cX9_waysNow 21 = .ok (.aload_n 0, 1) := by decide +kernel
theorem dX9_waysNow_22 : decode cX9_waysNow 22 = .ok (.getfield 40, 3) := by decide +kernel
theorem dX9_waysNow_25 : decode cX9_waysNow 25 = .ok (.areturn, 1) := by decide +kernel
theorem dX9_raise_0 : decode cX9_raise 0 = .ok (.aload_n 0, 1) := by decide +kernel
theorem dX9_raise_1 : decode cX9_raise 1 = .ok (.iload_n 1, 1) := by decide +kernel
theorem dX9_raise_2 : decode cX9_raise 2 = .ok (.aload_n 0, 1) := by decide +kernel
theorem dX9_raise_3 : decode cX9_raise 3 = .ok (.iload_n 1, 1) := by decide +kernel
theorem dX9_raise_4 : decode cX9_raise 4 = .ok (.iaload, 1) := by decide +kernel
theorem dX9_raise_5 : decode cX9_raise 5 = .ok (.iload_n 2, 1) := by decide +kernel
theorem dX9_raise_6 : decode cX9_raise 6 = .ok (.invokestatic 281, 3) := by decide +kernel
theorem dX9_raise_9 : decode cX9_raise 9 = .ok (.iastore, 1) := by decide +kernel
theorem dX9_raise_10 : decode cX9_raise 10 = .ok (.return_, 1) := by decide +kernel
set_option maxRecDepth 20000 in
theorem ggX9_streetsAt_X7_endsOf : GoodIn wsX9_streetsAt wsX7_endsOf := goodIn_r _ [8, 9, 10, 23, 24, 25, 26, 27, 28, 29, 30, 31, 32, 33, 34, 35, 36, 37, 38, 39] (by decide +kernel) (by decide +kernel)
set_option maxRecDepth 20000 in
theorem gX9_streetsAt_X7_endsOf_u286X4 : GoodIn wsX9_streetsAt (va_wsU RX9 286 RX4 "KindStreets$Town" ⟨"KindStreets$Town", "endsOf", "(I)I"⟩ yX7_endsOf wsX7_endsOf) := goodIn_app (goodIn_of _ (by decide +kernel)) ggX9_streetsAt_X7_endsOf
set_option maxRecDepth 20000 in
theorem gX9_streetsAt_X7_endsOf : GoodIn wsX9_streetsAt (wsV RX9 286 RX7 yX7_endsOf wsX7_endsOf) := goodIn_app (goodIn_of _ (by decide +kernel)) ggX9_streetsAt_X7_endsOf
theorem dX9_streetsAt_0 : decode cX9_streetsAt 0 = .ok (.iconst 0, 1) := by decide +kernel
theorem dX9_streetsAt_1 : decode cX9_streetsAt 1 = .ok (.istore_n 2, 1) := by decide +kernel
theorem dX9_streetsAt_2 : decode cX9_streetsAt 2 = .ok (.iconst 0, 1) := by decide +kernel
theorem dX9_streetsAt_3 : decode cX9_streetsAt 3 = .ok (.istore_n 3, 1) := by decide +kernel
theorem dX9_streetsAt_4 : decode cX9_streetsAt 4 = .ok (.iload_n 3, 1) := by decide +kernel
theorem dX9_streetsAt_5 : decode cX9_streetsAt 5 = .ok (.aload_n 0, 1) := by decide +kernel
theorem dX9_streetsAt_6 : decode cX9_streetsAt 6 = .ok (.getfield 23, 3) := by decide +kernel
theorem dX9_streetsAt_9 : decode cX9_streetsAt 9 = .ok (.getfield 189, 3) := by decide +kernel
theorem dX9_streetsAt_12 : decode cX9_streetsAt 12 = .ok (.if_icmp .ge 35, 3) := by decide +kernel
theorem dX9_streetsAt_15 : decode cX9_streetsAt 15 = .ok (.aload_n 0, 1) := by decide +kernel
theorem dX9_streetsAt_16 : decode cX9_streetsAt 16 = .ok (.getfield 23, 3) := by decide +kernel
theorem dX9_streetsAt_19 : decode cX9_streetsAt 19 = .ok (.iload_n 1, 1) := by decide +kernel
theorem dX9_streetsAt_20 : decode cX9_streetsAt 20 = .ok (.invokevirtual 286, 3) := by decide +kernel
theorem dX9_streetsAt_23 : decode cX9_streetsAt 23 = .ok (.aload_n 0, 1) := by decide +kernel
theorem dX9_streetsAt_24 : decode cX9_streetsAt 24 = .ok (.getfield 23, 3) := by decide +kernel
theorem dX9_streetsAt_27 : decode cX9_streetsAt 27 = .ok (.iload_n 3, 1) := by decide +kernel
theorem dX9_streetsAt_28 : decode cX9_streetsAt 28 = .ok (.invokevirtual 286, 3) := by decide +kernel
theorem dX9_streetsAt_31 : decode cX9_streetsAt 31 = .ok (.iand, 1) := by decide +kernel
theorem dX9_streetsAt_32 : decode cX9_streetsAt 32 = .ok (.ifCond .eq 9, 3) := by decide +kernel
theorem dX9_streetsAt_35 : decode cX9_streetsAt 35 = .ok (.iload_n 2, 1) := by decide +kernel
theorem dX9_streetsAt_36 : decode cX9_streetsAt 36 = .ok (.iconst 1, 1) := by decide +kernel
theorem dX9_streetsAt_37 : decode cX9_streetsAt 37 = .ok (.iload_n 3, 1) := by decide +kernel
theorem dX9_streetsAt_38 : decode cX9_streetsAt 38 = .ok (.ishl, 1) := by decide +kernel
theorem dX9_streetsAt_39 : decode cX9_streetsAt 39 = .ok (.ior, 1) := by decide +kernel
theorem dX9_streetsAt_40 : decode cX9_streetsAt 40 = .ok (.istore_n 2, 1) := by decide +kernel
theorem dX9_streetsAt_41 : decode cX9_streetsAt 41 = .ok (.iinc 3 1, 3) := by decide +kernel
theorem dX9_streetsAt_44 : decode cX9_streetsAt 44 = .ok (.goto (-40), 3) := by decide +kernel
theorem dX9_streetsAt_47 : decode cX9_streetsAt 47 = .ok (.iload_n 2, 1) := by decide +kernel
theorem dX9_streetsAt_48 : decode cX9_streetsAt 48 = .ok (.ireturn, 1) := by decide +kernel
set_option maxRecDepth 20000 in
theorem ggX9_livingIn_X9_livingInAny : GoodIn wsX9_livingIn wsX9_livingInAny := goodIn_r _ [5, 6, 7, 8, 9, 10, 11, 12, 13, 14, 15, 16, 17, 18, 19, 20, 21, 22, 23, 24, 25, 26, 27, 28, 29, 30, 31, 32, 33, 34, 35, 36, 37, 38, 39, 40, 41, 42, 43, 44, 45, 46, 47, 48, 49] (by decide +kernel) (by decide +kernel)
set_option maxRecDepth 20000 in
theorem gX9_livingIn_X9_livingInAny : GoodIn wsX9_livingIn (wsV RX9 289 RX9 yX9_livingInAny wsX9_livingInAny) := goodIn_app (goodIn_of _ (by decide +kernel)) ggX9_livingIn_X9_livingInAny
theorem dX9_livingIn_0 : decode cX9_livingIn 0 = .ok (.aload_n 0, 1) := by decide +kernel
theorem dX9_livingIn_1 : decode cX9_livingIn 1 = .ok (.iconst 1, 1) := by decide +kernel
theorem dX9_livingIn_2 : decode cX9_livingIn 2 = .ok (.iload_n 1, 1) := by decide +kernel
theorem dX9_livingIn_3 : decode cX9_livingIn 3 = .ok (.ishl, 1) := by decide +kernel
theorem dX9_livingIn_4 : decode cX9_livingIn 4 = .ok (.invokevirtual 289, 3) := by decide +kernel
theorem dX9_livingIn_7 : decode cX9_livingIn 7 = .ok (.ireturn, 1) := by decide +kernel
set_option maxRecDepth 20000 in
theorem ggX9_livingInAny_X5_has : GoodIn wsX9_livingInAny wsX5_has := goodIn_r _ [9] (by decide +kernel) (by decide +kernel)
set_option maxRecDepth 20000 in
theorem gX9_livingInAny_X5_has : GoodIn wsX9_livingInAny (va_wsS RX9 254 yX5_has wsX5_has) := goodIn_app (goodIn_of _ (by decide +kernel)) ggX9_livingInAny_X5_has
theorem dX9_livingInAny_0 : decode cX9_livingInAny 0 = .ok (.iconst 0, 1) := by decide +kernel
theorem dX9_livingInAny_1 : decode cX9_livingInAny 1 = .ok (.istore_n 2, 1) := by decide +kernel
theorem dX9_livingInAny_2 : decode cX9_livingInAny 2 = .ok (.iconst 0, 1) := by decide +kernel
theorem dX9_livingInAny_3 : decode cX9_livingInAny 3 = .ok (.istore_n 3, 1) := by decide +kernel
theorem dX9_livingInAny_4 : decode cX9_livingInAny 4 = .ok (.iload_n 3, 1) := by decide +kernel
theorem dX9_livingInAny_5 : decode cX9_livingInAny 5 = .ok (.aload_n 0, 1) := by decide +kernel
theorem dX9_livingInAny_6 : decode cX9_livingInAny 6 = .ok (.getfield 23, 3) := by decide +kernel
theorem dX9_livingInAny_9 : decode cX9_livingInAny 9 = .ok (.getfield 260, 3) := by decide +kernel
theorem dX9_livingInAny_12 : decode cX9_livingInAny 12 = .ok (.if_icmp .ge 34, 3) := by decide +kernel
theorem dX9_livingInAny_15 : decode cX9_livingInAny 15 = .ok (.iload_n 1, 1) := by decide +kernel
theorem dX9_livingInAny_16 : decode cX9_livingInAny 16 = .ok (.aload_n 0, 1) := by decide +kernel
theorem dX9_livingInAny_17 : decode cX9_livingInAny 17 = .ok (.getfield 29, 3) := by decide +kernel
theorem dX9_livingInAny_20 : decode cX9_livingInAny 20 = .ok (.getfield 98, 3) := by decide +kernel
theorem dX9_livingInAny_23 : decode cX9_livingInAny 23 = .ok (.getfield 123, 3) := by decide +kernel
theorem dX9_livingInAny_26 : decode cX9_livingInAny 26 = .ok (.iload_n 3, 1) := by decide +kernel
theorem dX9_livingInAny_27 : decode cX9_livingInAny 27 = .ok (.iaload, 1) := by decide +kernel
theorem dX9_livingInAny_28 : decode cX9_livingInAny 28 = .ok (.invokestatic 254, 3) := by decide +kernel
theorem dX9_livingInAny_31 : decode cX9_livingInAny 31 = .ok (.ifCond .eq 9, 3) := by decide +kernel
theorem dX9_livingInAny_34 : decode cX9_livingInAny 34 = .ok (.iload_n 2, 1) := by decide +kernel
theorem dX9_livingInAny_35 : decode cX9_livingInAny 35 = .ok (.iconst 1, 1) := by decide +kernel
theorem dX9_livingInAny_36 : decode cX9_livingInAny 36 = .ok (.iload_n 3, 1) := by decide +kernel
theorem dX9_livingInAny_37 : decode cX9_livingInAny 37 = .ok (.ishl, 1) := by decide +kernel
theorem dX9_livingInAny_38 : decode cX9_livingInAny 38 = .ok (.ior, 1) := by decide +kernel
theorem dX9_livingInAny_39 : decode cX9_livingInAny 39 = .ok (.istore_n 2, 1) := by decide +kernel
theorem dX9_livingInAny_40 : decode cX9_livingInAny 40 = .ok (.iinc 3 1, 3) := by decide +kernel
theorem dX9_livingInAny_43 : decode cX9_livingInAny 43 = .ok (.goto (-39), 3) := by decide +kernel
theorem dX9_livingInAny_46 : decode cX9_livingInAny 46 = .ok (.iload_n 2, 1) := by decide +kernel
theorem dX9_livingInAny_47 : decode cX9_livingInAny 47 = .ok (.ireturn, 1) := by decide +kernel
set_option maxRecDepth 20000 in
theorem ggX9_witnessesOf_X9_streetsAt : GoodIn wsX9_witnessesOf wsX9_streetsAt := goodIn_r _ [8, 9, 10, 11, 12, 13, 14, 15, 16, 17, 18, 19, 20, 33, 34, 35, 36, 37, 38, 39, 40, 41, 42, 51, 52, 53, 54, 55, 56, 57, 58, 59, 60, 61, 62, 63, 64, 65, 66, 67] (by decide +kernel) (by decide +kernel)
set_option maxRecDepth 20000 in
theorem gX9_witnessesOf_X9_streetsAt : GoodIn wsX9_witnessesOf (wsV RX9 277 RX9 yX9_streetsAt wsX9_streetsAt) := goodIn_app (goodIn_of _ (by decide +kernel)) ggX9_witnessesOf_X9_streetsAt
set_option maxRecDepth 20000 in
theorem ggX9_witnessesOf_X9_livingInAny : GoodIn wsX9_witnessesOf wsX9_livingInAny := goodIn_r _ [24, 9, 25, 1, 2, 3, 26, 27, 28, 29, 33, 34, 35, 36, 37, 38, 39, 40, 41, 42, 51, 52, 53, 54, 55, 56, 57, 58, 59, 60, 61, 62, 63, 64, 65, 66, 67, 43, 44, 45, 46, 47, 48, 49, 50] (by decide +kernel) (by decide +kernel)
set_option maxRecDepth 20000 in
theorem gX9_witnessesOf_X9_livingInAny : GoodIn wsX9_witnessesOf (wsV RX9 289 RX9 yX9_livingInAny wsX9_livingInAny) := goodIn_app (goodIn_of _ (by decide +kernel)) ggX9_witnessesOf_X9_livingInAny
set_option maxRecDepth 20000 in
theorem ggX9_witnessesOf_X5_without : GoodIn wsX9_witnessesOf wsX5_without := goodIn_r _ [32] (by decide +kernel) (by decide +kernel)
set_option maxRecDepth 20000 in
theorem gX9_witnessesOf_X5_without : GoodIn wsX9_witnessesOf (va_wsS RX9 292 yX5_without wsX5_without) := goodIn_app (goodIn_of _ (by decide +kernel)) ggX9_witnessesOf_X5_without
theorem dX9_witnessesOf_0 : decode cX9_witnessesOf 0 = .ok (.aload_n 0, 1) := by decide +kernel
theorem dX9_witnessesOf_1 : decode cX9_witnessesOf 1 = .ok (.aload_n 0, 1) := by decide +kernel
theorem dX9_witnessesOf_2 : decode cX9_witnessesOf 2 = .ok (.aload_n 0, 1) := by decide +kernel
theorem dX9_witnessesOf_3 : decode cX9_witnessesOf 3 = .ok (.getfield 29, 3) := by decide +kernel
theorem dX9_witnessesOf_6 : decode cX9_witnessesOf 6 = .ok (.getfield 98, 3) := by decide +kernel
theorem dX9_witnessesOf_9 : decode cX9_witnessesOf 9 = .ok (.getfield 123, 3) := by decide +kernel
theorem dX9_witnessesOf_12 : decode cX9_witnessesOf 12 = .ok (.iload_n 1, 1) := by decide +kernel
theorem dX9_witnessesOf_13 : decode cX9_witnessesOf 13 = .ok (.iaload, 1) := by decide +kernel
theorem dX9_witnessesOf_14 : decode cX9_witnessesOf 14 = .ok (.invokevirtual 277, 3) := by decide +kernel
theorem dX9_witnessesOf_17 : decode cX9_witnessesOf 17 = .ok (.invokevirtual 289, 3) := by decide +kernel
theorem dX9_witnessesOf_20 : decode cX9_witnessesOf 20 = .ok (.iload_n 1, 1) := by decide +kernel
theorem dX9_witnessesOf_21 : decode cX9_witnessesOf 21 = .ok (.invokestatic 292, 3) := by decide +kernel
theorem dX9_witnessesOf_24 : decode cX9_witnessesOf 24 = .ok (.ireturn, 1) := by decide +kernel
set_option maxRecDepth 20000 in
theorem ggX9_widthsTogether_X2_widthOf : GoodIn wsX9_widthsTogether wsX2_widthOf := goodIn_r _ [9, 10, 11, 12, 13, 14, 8, 15, 16, 17, 18, 19, 50, 51, 52, 53, 54] (by decide +kernel) (by decide +kernel)
set_option maxRecDepth 20000 in
theorem gX9_widthsTogether_X2_widthOf : GoodIn wsX9_widthsTogether (wsV RX9 113 RX2 yX2_widthOf wsX2_widthOf) := goodIn_app (goodIn_of _ (by decide +kernel)) ggX9_widthsTogether_X2_widthOf
theorem dX9_widthsTogether_0 : decode cX9_widthsTogether 0 = .ok (.iconst 0, 1) := by decide +kernel
theorem dX9_widthsTogether_1 : decode cX9_widthsTogether 1 = .ok (.istore_n 1, 1) := by decide +kernel
theorem dX9_widthsTogether_2 : decode cX9_widthsTogether 2 = .ok (.iconst 0, 1) := by decide +kernel
theorem dX9_widthsTogether_3 : decode cX9_widthsTogether 3 = .ok (.istore_n 2, 1) := by decide +kernel
theorem dX9_widthsTogether_4 : decode cX9_widthsTogether 4 = .ok (.iload_n 2, 1) := by decide +kernel
theorem dX9_widthsTogether_5 : decode cX9_widthsTogether 5 = .ok (.aload_n 0, 1) := by decide +kernel
theorem dX9_widthsTogether_6 : decode cX9_widthsTogether 6 = .ok (.getfield 23, 3) := by decide +kernel
theorem dX9_widthsTogether_9 : decode cX9_widthsTogether 9 = .ok (.getfield 189, 3) := by decide +kernel
theorem dX9_widthsTogether_12 : decode cX9_widthsTogether 12 = .ok (.if_icmp .ge 23, 3) := by decide +kernel
theorem dX9_widthsTogether_15 : decode cX9_widthsTogether 15 = .ok (.iload_n 1, 1) := by decide +kernel
theorem dX9_widthsTogether_16 : decode cX9_widthsTogether 16 = .ok (.aload_n 0, 1) := by decide +kernel
theorem dX9_widthsTogether_17 : decode cX9_widthsTogether 17 = .ok (.getfield 29, 3) := by decide +kernel
theorem dX9_widthsTogether_20 : decode cX9_widthsTogether 20 = .ok (.getfield 98, 3) := by decide +kernel
theorem dX9_widthsTogether_23 : decode cX9_widthsTogether 23 = .ok (.iload_n 2, 1) := by decide +kernel
theorem dX9_widthsTogether_24 : decode cX9_widthsTogether 24 = .ok (.invokevirtual 113, 3) := by decide +kernel
theorem dX9_widthsTogether_27 : decode cX9_widthsTogether 27 = .ok (.iadd, 1) := by decide +kernel
theorem dX9_widthsTogether_28 : decode cX9_widthsTogether 28 = .ok (.istore_n 1, 1) := by decide +kernel
theorem dX9_widthsTogether_29 : decode cX9_widthsTogether 29 = .ok (.iinc 2 1, 3) := by decide +kernel
theorem dX9_widthsTogether_32 : decode cX9_widthsTogether 32 = .ok (.goto (-28), 3) := by decide +kernel
theorem dX9_widthsTogether_35 : decode cX9_widthsTogether 35 = .ok (.iload_n 1, 1) := by decide +kernel
theorem dX9_widthsTogether_36 : decode cX9_widthsTogether 36 = .ok (.ireturn, 1) := by decide +kernel
theorem dX9_streetsWithHidden_0 : decode cX9_streetsWithHidden 0 = .ok (.iconst 0, 1) := by decide +kernel
theorem dX9_streetsWithHidden_1 : decode cX9_streetsWithHidden 1 = .ok (.istore_n 1, 1) := by decide +kernel
theorem dX9_streetsWithHidden_2 : decode cX9_streetsWithHidden 2 = .ok (.iconst 0, 1) := by decide +kernel
theorem dX9_streetsWithHidden_3 : decode cX9_streetsWithHidden 3 = .ok (.istore_n 2, 1) := by decide +kernel
theorem dX9_streetsWithHidden_4 : decode cX9_streetsWithHidden 4 = .ok (.iload_n 2, 1) := by decide +kernel
theorem dX9_streetsWithHidden_5 : decode cX9_streetsWithHidden 5 = .ok (.aload_n 0, 1) := by decide +kernel
theorem dX9_streetsWithHidden_6 : decode cX9_streetsWithHidden 6 = .ok (.getfield 23, 3) := by decide +kernel
theorem dX9_streetsWithHidden_9 : decode cX9_streetsWithHidden 9 = .ok (.getfield 189, 3) := by decide +kernel
theorem dX9_streetsWithHidden_12 : decode cX9_streetsWithHidden 12 = .ok (.if_icmp .ge 27, 3) := by decide +kernel
theorem dX9_streetsWithHidden_15 : decode cX9_streetsWithHidden 15 = .ok (.aload_n 0, 1) := by decide +kernel
theorem dX9_streetsWithHidden_16 : decode cX9_streetsWithHidden 16 = .ok (.getfield 29, 3) := by decide +kernel
theorem dX9_streetsWithHidden_19 : decode cX9_streetsWithHidden 19 = .ok (.getfield 98, 3) := by decide +kernel
theorem dX9_streetsWithHidden_22 : decode cX9_streetsWithHidden 22 = .ok (.getfield 107, 3) := by decide +kernel
theorem dX9_streetsWithHidden_25 : decode cX9_streetsWithHidden 25 = .ok (.iload_n 2, 1) := by decide +kernel
theorem dX9_streetsWithHidden_26 : decode cX9_streetsWithHidden 26 = .ok (.iaload, 1) := by decide +kernel
theorem dX9_streetsWithHidden_27 : decode cX9_streetsWithHidden 27 = .ok (.ifCond .le 6, 3) := by decide +kernel
theorem dX9_streetsWithHidden_30 : decode cX9_streetsWithHidden 30 = .ok (.iinc 1 1, 3) := by decide +kernel
theorem dX9_streetsWithHidden_33 : decode cX9_streetsWithHidden 33 = .ok (.iinc 2 1, 3) := by decide +kernel
theorem dX9_streetsWithHidden_36 : decode cX9_streetsWithHidden 36 = .ok (.goto (-32), 3) := by decide +kernel
theorem dX9_streetsWithHidden_39 : decode cX9_streetsWithHidden 39 = .ok (.iload_n 1, 1) := by decide +kernel
theorem dX9_streetsWithHidden_40 : decode cX9_streetsWithHidden 40 = .ok (.ireturn, 1) := by decide +kernel
end
section
theorem dX10_init_0 : decode cX10_init 0 = .ok (.aload_n 0, 1) := by decide +kernel
theorem dX10_init_1 : decode cX10_init 1 = .ok (.invokespecial 1, 3) := by decide +kernel
theorem dX10_init_4 : decode cX10_init 4 = .ok (.aload_n 0, 1) := by decide +kernel
theorem dX10_init_5 : decode cX10_init 5 = .ok (.bipush 120, 2) := by decide +kernel
theorem dX10_init_7 : decode cX10_init 7 = .ok (.newarray .byte, 2) := by decide +kernel
theorem dX10_init_9 : decode cX10_init 9 = .ok (.putfield 7, 3) := by decide +kernel
theorem dX10_init_12 : decode cX10_init 12 = .ok (.aload_n 0, 1) := by decide +kernel
theorem dX10_init_13 : decode cX10_init 13 = .ok (.iconst 2, 1) := by decide +kernel
theorem dX10_init_14 : decode cX10_init 14 = .ok (.newarray .int, 2) := by decide +kernel
theorem dX10_init_16 : decode cX10_init 16 = .ok (.putfield 13, 3) := by decide +kernel
theorem dX10_init_19 : decode cX10_init 19 = .ok (.aload_n 0, 1) := by decide +kernel
theorem dX10_init_20 : decode cX10_init 20 = .ok (.iconst 2, 1) := by decide +kernel
theorem dX10_init_21 : decode cX10_init 21 = .ok (.newarray .int, 2) := by decide +kernel
theorem dX10_init_23 : decode cX10_init 23 = .ok (.putfield 17, 3) := by decide +kernel
theorem dX10_init_26 : decode cX10_init 26 = .ok (.aload_n 0, 1) := by decide +kernel
theorem dX10_init_27 : decode cX10_init 27 = .ok (.bipush 18, 2) := by decide +kernel
theorem dX10_init_29 : decode cX10_init 29 = .ok (.newarray .int, 2) := by decide +kernel
theorem dX10_init_31 : decode cX10_init 31 = .ok (.putfield 20, 3) := by decide +kernel
theorem dX10_init_34 : decode cX10_init 34 = .ok (.aload_n 0, 1) := by decide +kernel
theorem dX10_init_35 : decode cX10_init 35 = .ok (.bipush 18, 2) := by decide +kernel
theorem dX10_init_37 : decode cX10_init 37 = .ok (.newarray .int, 2) := by decide +kernel
theorem dX10_init_39 : decode cX10_init 39 = .ok (.putfield 23, 3) := by decide +kernel
theorem dX10_init_42 : decode cX10_init 42 = .ok (.aload_n 0, 1) := by decide +kernel
theorem dX10_init_43 : decode cX10_init 43 = .ok (.bipush 18, 2) := by decide +kernel
theorem dX10_init_45 : decode cX10_init 45 = .ok (.newarray .int, 2) := by decide +kernel
theorem dX10_init_47 : decode cX10_init 47 = .ok (.putfield 26, 3) := by decide +kernel
theorem dX10_init_50 : decode cX10_init 50 = .ok (.aload_n 0, 1) := by decide +kernel
theorem dX10_init_51 : decode cX10_init 51 = .ok (.iconst 2, 1) := by decide +kernel
theorem dX10_init_52 : decode cX10_init 52 = .ok (.newarray .int, 2) := by decide +kernel
theorem dX10_init_54 : decode cX10_init 54 = .ok (.putfield 29, 3) := by decide +kernel
theorem dX10_init_57 : decode cX10_init 57 = .ok (.aload_n 0, 1) := by decide +kernel
theorem dX10_init_58 : decode cX10_init 58 = .ok (.bipush 12, 2) := by decide +kernel
theorem dX10_init_60 : decode cX10_init 60 = .ok (.newarray .int, 2) := by decide +kernel
theorem dX10_init_62 : decode cX10_init 62 = .ok (.putfield 32, 3) := by decide +kernel
theorem dX10_init_65 : decode cX10_init 65 = .ok (.aload_n 0, 1) := by decide +kernel
theorem dX10_init_66 : decode cX10_init 66 = .ok (.bipush 12, 2) := by decide +kernel
theorem dX10_init_68 : decode cX10_init 68 = .ok (.newarray .int, 2) := by decide +kernel
theorem dX10_init_70 : decode cX10_init 70 = .ok (.putfield 35, 3) := by decide +kernel
theorem dX10_init_73 : decode cX10_init 73 = .ok (.aload_n 0, 1) := by decide +kernel
theorem dX10_init_74 : decode cX10_init 74 = .ok (.bipush 34, 2) := by decide +kernel
theorem dX10_init_76 : decode cX10_init 76 = .ok (.newarray .int, 2) := by decide +kernel
theorem dX10_init_78 : decode cX10_init 78 = .ok (.putfield 38, 3) := by decide +kernel
theorem dX10_init_81 : decode cX10_init 81 = .ok (.aload_n 0, 1) := by decide +kernel
theorem dX10_init_82 : decode cX10_init 82 = .ok (.iconst 3, 1) := by decide +kernel
theorem dX10_init_83 : decode cX10_init 83 = .ok (.newarray .int, 2) := by decide +kernel
theorem dX10_init_85 : decode cX10_init 85 = .ok (.putfield 41, 3) := by decide +kernel
theorem dX10_init_88 : decode cX10_init 88 = .ok (.aload_n 0, 1) := by decide +kernel
theorem dX10_init_89 : decode cX10_init 89 = .ok (.sipush 1020, 3) := by decide +kernel
theorem dX10_init_92 : decode cX10_init 92 = .ok (.newarray .int, 2) := by decide +kernel
theorem dX10_init_94 : decode cX10_init 94 = .ok (.putfield 44, 3) := by decide +kernel
theorem dX10_init_97 : decode cX10_init 97 = .ok (.aload_n 0, 1) := by decide +kernel
theorem dX10_init_98 : decode cX10_init 98 = .ok (.bipush 68, 2) := by decide +kernel
theorem dX10_init_100 : decode cX10_init 100 = .ok (.newarray .int, 2) := by decide +kernel
theorem dX10_init_102 : decode cX10_init 102 = .ok (.putfield 47, 3) := by decide +kernel
theorem dX10_init_105 : decode cX10_init 105 = .ok (.aload_n 0, 1) := by decide +kernel
theorem dX10_init_106 : decode cX10_init 106 = .ok (.iconst 2, 1) := by decide +kernel
theorem dX10_init_107 : decode cX10_init 107 = .ok (.newarray .boolean, 2) := by decide +kernel
theorem dX10_init_109 : decode cX10_init 109 = .ok (.putfield 50, 3) := by decide +kernel
theorem dX10_init_112 : decode cX10_init 112 = .ok (.aload_n 0, 1) := by decide +kernel
theorem dX10_init_113 : decode cX10_init 113 = .ok (.sipush 3584, 3) := by decide +kernel
theorem dX10_init_116 : decode cX10_init 116 = .ok (.newarray .int, 2) := by decide +kernel
theorem dX10_init_118 : decode cX10_init 118 = .ok (.putfield 54, 3) := by decide +kernel
theorem dX10_init_121 : decode cX10_init 121 = .ok (.aload_n 0, 1) := by decide +kernel
theorem dX10_init_122 : decode cX10_init 122 = .ok (.iconst 4, 1) := by decide +kernel
theorem dX10_init_123 : decode cX10_init 123 = .ok (.newarray .int, 2) := by decide +kernel
theorem dX10_init_125 : decode cX10_init 125 = .ok (.putfield 57, 3) := by decide +kernel
theorem dX10_init_128 : decode cX10_init 128 = .ok (.aload_n 0, 1) := by decide +kernel
theorem dX10_init_129 : decode cX10_init 129 = .ok (.iconst 4, 1) := by decide +kernel
theorem dX10_init_130 : decode cX10_init 130 = .ok (.newarray .int, 2) := by decide +kernel
theorem dX10_init_132 : decode cX10_init 132 = .ok (.putfield 60, 3) := by decide +kernel
theorem dX10_init_135 : decode cX10_init 135 = .ok (.aload_n 0, 1) := by decide +kernel
theorem dX10_init_136 : decode cX10_init 136 = .ok (.getfield 13, 3) := by decide +kernel
theorem dX10_init_139 : decode cX10_init 139 = .ok (.iconst 0, 1) := by decide +kernel
theorem dX10_init_140 : decode cX10_init 140 = .ok (.iconst 4, 1) := by decide +kernel
theorem dX10_init_141 : decode cX10_init 141 = .ok (.iastore, 1) := by decide +kernel
theorem dX10_init_142 : decode cX10_init 142 = .ok (.return_, 1) := by decide +kernel
theorem dX10_in_0 : decode cX10_in 0 = .ok (.iload_n 0, 1) := by decide +kernel
theorem dX10_in_1 : decode cX10_in 1 = .ok (.iload_n 1, 1) := by decide +kernel
theorem dX10_in_2 : decode cX10_in 2 = .ok (.if_icmp .lt 12, 3) := by decide +kernel
theorem dX10_in_5 : decode cX10_in 5 = .ok (.iload_n 0, 1) := by decide +kernel
theorem dX10_in_6 : decode cX10_in 6 = .ok (.iload_n 2, 1) := by decide +kernel
theorem dX10_in_7 : decode cX10_in 7 = .ok (.if_icmp .gt 7, 3) := by decide +kernel
theorem dX10_in_10 : decode cX10_in 10 = .ok (.iconst 1, 1) := by decide +kernel
theorem dX10_in_11 : decode cX10_in 11 = .ok (.goto 4, 3) := by decide +kernel
theorem dX10_in_14 : decode cX10_in 14 = .ok (.iconst 0, 1) := by decide +kernel
theorem dX10_in_15 : decode cX10_in 15 = .ok (.ireturn, 1) := by decide +kernel
theorem dX10_has_0 : decode cX10_has 0 = .ok (.iload_n 0, 1) := by decide +kernel
theorem dX10_has_1 : decode cX10_has 1 = .ok (.iload_n 1, 1) := by decide +kernel
theorem dX10_has_2 : decode cX10_has 2 = .ok (.ishr, 1) := by decide +kernel
theorem dX10_has_3 : decode cX10_has 3 = .ok (.iconst 1, 1) := by decide +kernel
theorem dX10_has_4 : decode cX10_has 4 = .ok (.iand, 1) := by decide +kernel
theorem dX10_has_5 : decode cX10_has 5 = .ok (.iconst 1, 1) := by decide +kernel
theorem dX10_has_6 : decode cX10_has 6 = .ok (.if_icmp .ne 7, 3) := by decide +kernel
theorem dX10_has_9 : decode cX10_has 9 = .ok (.iconst 1, 1) := by decide +kernel
theorem dX10_has_10 : decode cX10_has 10 = .ok (.goto 4, 3) := by decide +kernel
theorem dX10_has_13 : decode cX10_has 13 = .ok (.iconst 0, 1) := by decide +kernel
theorem dX10_has_14 : decode cX10_has 14 = .ok (.ireturn, 1) := by decide +kernel
theorem dX10_bitsOf_0 : decode cX10_bitsOf 0 = .ok (.iconst 0, 1) := by decide +kernel
theorem dX10_bitsOf_1 : decode cX10_bitsOf 1 = .ok (.istore_n 1, 1) := by decide +kernel
theorem dX10_bitsOf_2 : decode cX10_bitsOf 2 = .ok (.iconst 0, 1) := by decide +kernel
theorem dX10_bitsOf_3 : decode cX10_bitsOf 3 = .ok (.istore_n 2, 1) := by decide +kernel
theorem dX10_bitsOf_4 : decode cX10_bitsOf 4 = .ok (.iload_n 2, 1) := by decide +kernel
theorem dX10_bitsOf_5 : decode cX10_bitsOf 5 = .ok (.bipush 10, 2) := by decide +kernel
theorem dX10_bitsOf_7 : decode cX10_bitsOf 7 = .ok (.if_icmp .ge 17, 3) := by decide +kernel
theorem dX10_bitsOf_10 : decode cX10_bitsOf 10 = .ok (.iload_n 1, 1) := by decide +kernel
theorem dX10_bitsOf_11 : decode cX10_bitsOf 11 = .ok (.iload_n 0, 1) := by decide +kernel
theorem dX10_bitsOf_12 : decode cX10_bitsOf 12 = .ok (.iload_n 2, 1) := by decide +kernel
theorem dX10_bitsOf_13 : decode cX10_bitsOf 13 = .ok (.ishr, 1) := by decide +kernel
theorem dX10_bitsOf_14 : decode cX10_bitsOf 14 = .ok (.iconst 1, 1) := by decide +kernel
theorem dX10_bitsOf_15 : decode cX10_bitsOf 15 = .ok (.iand, 1) := by decide +kernel
theorem dX10_bitsOf_16 : decode cX10_bitsOf 16 = .ok (.iadd, 1) := by decide +kernel
theorem dX10_bitsOf_17 : decode cX10_bitsOf 17 = .ok (.istore_n 1, 1) := by decide +kernel
theorem dX10_bitsOf_18 : decode cX10_bitsOf 18 = .ok (.iinc 2 1, 3) := by decide +kernel
theorem dX10_bitsOf_21 : decode cX10_bitsOf 21 = .ok (.goto (-17), 3) := by decide +kernel
theorem dX10_bitsOf_24 : decode cX10_bitsOf 24 = .ok (.iload_n 1, 1) := by decide +kernel
theorem dX10_bitsOf_25 : decode cX10_bitsOf 25 = .ok (.ireturn, 1) := by decide +kernel
set_option maxRecDepth 20000 in
theorem ggX10_type_X10_in : GoodIn wsX10_type wsX10_in := goodIn_r _ [6] (by decide +kernel) (by decide +kernel)
set_option maxRecDepth 20000 in
theorem gX10_type_X10_in : GoodIn wsX10_type (va_wsS RX10 63 yX10_in wsX10_in) := goodIn_app (goodIn_of _ (by decide +kernel)) ggX10_type_X10_in
theorem dX10_type_0 : decode cX10_type 0 = .ok (.iload_n 1, 1) := by decide +kernel
theorem dX10_type_1 : decode cX10_type 1 = .ok (.iconst 0, 1) := by decide +kernel
theorem dX10_type_2 : decode cX10_type 2 = .ok (.sipush 255, 3) := by decide +kernel
theorem dX10_type_5 : decode cX10_type 5 = .ok (.invokestatic 63, 3) := by decide +kernel
theorem dX10_type_8 : decode cX10_type 8 = .ok (.ifCond .ne 5, 3) := by decide +kernel
theorem dX10_type_11 : decode cX10_type 11 = .ok (.iconst (-1), 1) := by decide +kernel
theorem dX10_type_12 : decode cX10_type 12 = .ok (.ireturn, 1) := by decide +kernel
theorem dX10_type_13 : decode cX10_type 13 = .ok (.aload_n 0, 1) := by decide +kernel
theorem dX10_type_14 : decode cX10_type 14 = .ok (.getfield 67, 3) := by decide +kernel
theorem dX10_type_17 : decode cX10_type 17 = .ok (.bipush 120, 2) := by decide +kernel
theorem dX10_type_19 : decode cX10_type 19 = .ok (.if_icmp .ne 6, 3) := by decide +kernel
theorem dX10_type_22 : decode cX10_type 22 = .ok (.bipush (-3), 2) := by decide +kernel
theorem dX10_type_24 : decode cX10_type 24 = .ok (.ireturn, 1) := by decide +kernel
theorem dX10_type_25 : decode cX10_type 25 = .ok (.aload_n 0, 1) := by decide +kernel
theorem dX10_type_26 : decode cX10_type 26 = .ok (.getfield 7, 3) := by decide +kernel
theorem dX10_type_29 : decode cX10_type 29 = .ok (.aload_n 0, 1) := by decide +kernel
theorem dX10_type_30 : decode cX10_type 30 = .ok (.getfield 67, 3) := by decide +kernel
theorem dX10_type_33 : decode cX10_type 33 = .ok (.iload_n 1, 1) := by decide +kernel
theorem dX10_type_34 : decode cX10_type 34 = .ok (.i2b, 1) := by decide +kernel
theorem dX10_type_35 : decode cX10_type 35 = .ok (.bastore, 1) := by decide +kernel
theorem dX10_type_36 : decode cX10_type 36 = .ok (.aload_n 0, 1) := by decide +kernel
theorem dX10_type_37 : decode cX10_type 37 = .ok (.dup, 1) := by decide +kernel
theorem dX10_type_38 : decode cX10_type 38 = .ok (.getfield 67, 3) := by decide +kernel
theorem dX10_type_41 : decode cX10_type 41 = .ok (.iconst 1, 1) := by decide +kernel
theorem dX10_type_42 : decode cX10_type 42 = .ok (.iadd, 1) := by decide +kernel
theorem dX10_type_43 : decode cX10_type 43 = .ok (.putfield 67, 3) := by decide +kernel
theorem dX10_type_46 : decode cX10_type 46 = .ok (.aload_n 0, 1) := by decide +kernel
theorem dX10_type_47 : decode cX10_type 47 = .ok (.getfield 67, 3) := by decide +kernel
theorem dX10_type_50 : decode cX10_type 50 = .ok (.ireturn, 1) := by decide +kernel
theorem dX10_clear_0 : decode cX10_clear 0 = .ok (.aload_n 0, 1) := by decide +kernel
theorem dX10_clear_1 : decode cX10_clear 1 = .ok (.getfield 67, 3) := by decide +kernel
theorem dX10_clear_4 : decode cX10_clear 4 = .ok (.istore_n 1, 1) := by decide +kernel
theorem dX10_clear_5 : decode cX10_clear 5 = .ok (.aload_n 0, 1) := by decide +kernel
theorem dX10_clear_6 : decode cX10_clear 6 = .ok (.iconst 0, 1) := by decide +kernel
theorem dX10_clear_7 : decode cX10_clear 7 = .ok (.putfield 67, 3) := by decide +kernel
theorem dX10_clear_10 : decode cX10_clear 10 = .ok (.iload_n 1, 1) := by decide +kernel
theorem dX10_clear_11 : decode cX10_clear 11 = .ok (.ireturn, 1) := by decide +kernel
theorem dX10_here_0 : decode cX10_here 0 = .ok (.aload_n 0, 1) := by decide +kernel
theorem dX10_here_1 : decode cX10_here 1 = .ok (.getfield 71, 3) := by decide +kernel
theorem dX10_here_4 : decode cX10_here 4 = .ok (.aload_n 0, 1) := by decide +kernel
theorem dX10_here_5 : decode cX10_here 5 = .ok (.getfield 67, 3) := by decide +kernel
theorem dX10_here_8 : decode cX10_here 8 = .ok (.if_icmp .ge 19, 3) := by decide +kernel
theorem dX10_here_11 : decode cX10_here 11 = .ok (.aload_n 0, 1) := by decide +kernel
theorem dX10_here_12 : decode cX10_here 12 = .ok (.getfield 7, 3) := by decide +kernel
theorem dX10_here_15 : decode cX10_here 15 = .ok (.aload_n 0, 1) := by decide +kernel
theorem dX10_here_16 : decode cX10_here 16 = .ok (.getfield 71, 3) := by decide +kernel
theorem dX10_here_19 : decode cX10_here 19 = .ok (.baload, 1) := by decide +kernel
theorem dX10_here_20 : decode cX10_here 20 = .ok (.sipush 255, 3) := by decide +kernel
theorem dX10_here_23 : decode cX10_here 23 = .ok (.iand, 1) := by decide +kernel
theorem dX10_here_24 : decode cX10_here 24 = .ok (.goto 5, 3) := by decide +kernel
theorem dX10_here_27 : decode cX10_here 27 = .ok (.bipush (-9), 2) := by decide +kernel
theorem dX10_here_29 : decode cX10_here 29 = .ok (.ireturn, 1) := by decide +kernel
set_option maxRecDepth 20000 in
theorem ggX10_step_X10_here : GoodIn wsX10_step wsX10_here := goodIn_r _ [9, 1, 10, 11, 15, 16, 17, 18, 19, 20, 21, 22, 23, 24, 25, 26, 27, 28, 29, 30, 31, 32, 33, 34, 35, 36, 37, 38, 39, 40] (by decide +kernel) (by decide +kernel)
set_option maxRecDepth 20000 in
theorem gX10_step_X10_here : GoodIn wsX10_step (wsV RX10 74 RX10 yX10_here wsX10_here) := goodIn_app (goodIn_of _ (by decide +kernel)) ggX10_step_X10_here
set_option maxRecDepth 20000 in
theorem ggX10_step_X10_in : GoodIn wsX10_step wsX10_in := goodIn_r _ [14] (by decide +kernel) (by decide +kernel)
set_option maxRecDepth 20000 in
theorem gX10_step_X10_in : GoodIn wsX10_step (va_wsS RX10 63 yX10_in wsX10_in) := goodIn_app (goodIn_of _ (by decide +kernel)) ggX10_step_X10_in
theorem dX10_step_0 : decode cX10_step 0 = .ok (.aload_n 0, 1) := by decide +kernel
theorem dX10_step_1 : decode cX10_step 1 = .ok (.invokevirtual 74, 3) := by decide +kernel
theorem dX10_step_4 : decode cX10_step 4 = .ok (.bipush 32, 2) := by decide +kernel
theorem dX10_step_6 : decode cX10_step 6 = .ok (.if_icmp .ne 16, 3) := by decide +kernel
theorem dX10_step_9 : decode cX10_step 9 = .ok (.aload_n 0, 1) := by decide +kernel
theorem dX10_step_10 : decode cX10_step 10 = .ok (.dup, 1) := by decide +kernel
theorem dX10_step_11 : decode cX10_step 11 = .ok (.getfield 71, 3) := by decide +kernel
theorem dX10_step_14 : decode cX10_step 14 = .ok (.iconst 1, 1) := by decide +kernel
theorem dX10_step_15 : decode cX10_step 15 = .ok (.iadd, 1) := by decide +kernel
theorem dX10_step_16 : decode cX10_step 16 = .ok (.putfield 71, 3) := by decide +kernel
theorem dX10_step_19 : decode cX10_step 19 = .ok (.goto (-19), 3) := by decide +kernel
theorem dX10_step_22 : decode cX10_step 22 = .ok (.aload_n 0, 1) := by decide +kernel
theorem dX10_step_23 : decode cX10_step 23 = .ok (.aload_n 0, 1) := by decide +kernel
theorem dX10_step_24 : decode cX10_step 24 = .ok (.getfield 71, 3) := by decide +kernel
theorem dX10_step_27 : decode cX10_step 27 = .ok (.putfield 78, 3) := by decide +kernel
theorem dX10_step_30 : decode cX10_step 30 = .ok (.aload_n 0, 1) := by decide +kernel
theorem dX10_step_31 : decode cX10_step 31 = .ok (.iconst 0, 1) := by decide +kernel
theorem dX10_step_32 : decode cX10_step 32 = .ok (.putfield 81, 3) := by decide +kernel
theorem dX10_step_35 : decode cX10_step 35 = .ok (.aload_n 0, 1) := by decide +kernel
theorem dX10_step_36 : decode cX10_step 36 = .ok (.invokevirtual 74, 3) := by decide +kernel
theorem dX10_step_39 : decode cX10_step 39 = .ok (.istore_n 1, 1) := by decide +kernel
theorem dX10_step_40 : decode cX10_step 40 = .ok (.iload_n 1, 1) := by decide +kernel
theorem dX10_step_41 : decode cX10_step 41 = .ok (.bipush (-9), 2) := by decide +kernel
theorem dX10_step_43 : decode cX10_step 43 = .ok (.if_icmp .ne 11, 3) := by decide +kernel
theorem dX10_step_46 : decode cX10_step 46 = .ok (.aload_n 0, 1) := by decide +kernel
theorem dX10_step_47 : decode cX10_step 47 = .ok (.iconst 4, 1) := by decide +kernel
theorem dX10_step_48 : decode cX10_step 48 = .ok (.putfield 84, 3) := by decide +kernel
theorem dX10_step_51 : decode cX10_step 51 = .ok (.goto 209, 3) := by decide +kernel
theorem dX10_step_54 : decode cX10_step 54 = .ok (.iload_n 1, 1) := by decide +kernel
theorem dX10_step_55 : decode cX10_step 55 = .ok (.bipush 48, 2) := by decide +kernel
theorem dX10_step_57 : decode cX10_step 57 = .ok (.bipush 57, 2) := by decide +kernel
theorem dX10_step_59 : decode cX10_step 59 = .ok (.invokestatic 63, 3) := by decide +kernel
theorem dX10_step_62 : decode cX10_step 62 = .ok (.ifCond .eq 105, 3) := by decide +kernel
theorem dX10_step_65 : decode cX10_step 65 = .ok (.aload_n 0, 1) := by decide +kernel
theorem dX10_step_66 : decode cX10_step 66 = .ok (.invokevirtual 74, 3) := by decide +kernel
theorem dX10_step_69 : decode cX10_step 69 = .ok (.bipush 48, 2) := by decide +kernel
theorem dX10_step_71 : decode cX10_step 71 = .ok (.bipush 57, 2) := by decide +kernel
theorem dX10_step_73 : decode cX10_step 73 = .ok (.invokestatic 63, 3) := by decide +kernel
theorem dX10_step_76 : decode cX10_step 76 = .ok (.ifCond .eq 51, 3) := by decide +kernel
theorem dX10_step_79 : decode cX10_step 79 = .ok (.aload_n 0, 1) := by decide +kernel
theorem dX10_step_80 : decode cX10_step 80 = .ok (.aload_n 0, 1) := by decide +kernel
theorem dX10_step_81 : decode cX10_step 81 = .ok (.getfield 81, 3) := by decide +kernel
theorem dX10_step_84 : decode cX10_step 84 = .ok (.bipush 99, 2) := by decide +kernel
theorem dX10_step_86 : decode cX10_step 86 = .ok (.if_icmp .le 10, 3) := by decide +kernel
theorem dX10_step_89 : decode cX10_step 89 = .ok (.aload_n 0, 1) := by decide +kernel
theorem dX10_step_90 : decode cX10_step 90 = .ok (.getfield 81, 3) := by decide +kernel
theorem dX10_step_93 : decode cX10_step 93 = .ok (.goto 18, 3) := by decide +kernel
theorem dX10_step_96 : decode cX10_step 96 = .ok (.bipush 10, 2) := by decide +kernel
theorem dX10_step_98 : decode cX10_step 98 = .ok (.aload_n 0, 1) := by decide +kernel
theorem dX10_step_99 : decode cX10_step 99 = .ok (.getfield 81, 3) := by decide +kernel
theorem dX10_step_102 : decode cX10_step 102 = .ok (.imul, 1) := by decide +kernel
theorem dX10_step_103 : decode cX10_step 103 = .ok (.aload_n 0, 1) := by decide +kernel
theorem dX10_step_104 : decode cX10_step 104 = .ok (.invokevirtual 74, 3) := by decide +kernel
theorem dX10_step_107 : decode cX10_step 107 = .ok (.iadd, 1) := by decide +kernel
theorem dX10_step_108 : decode cX10_step 108 = .ok (.bipush 48, 2) := by decide +kernel
theorem dX10_step_110 : decode cX10_step 110 = .ok (.isub, 1) := by decide +kernel
theorem dX10_step_111 : decode cX10_step 111 = .ok (.putfield 81, 3) := by decide +kernel
theorem dX10_step_114 : decode cX10_step 114 = .ok (.aload_n 0, 1) := by decide +kernel
theorem dX10_step_115 : decode cX10_step 115 = .ok (.dup, 1) := by decide +kernel
theorem dX10_step_116 : decode cX10_step 116 = .ok (.getfield 71, 3) := by decide +kernel
theorem dX10_step_119 : decode cX10_step 119 = .ok (.iconst 1, 1) := by decide +kernel
theorem dX10_step_120 : decode cX10_step 120 = .ok (.iadd, 1) := by decide +kernel
theorem dX10_step_121 : decode cX10_step 121 = .ok (.putfield 71, 3) := by decide +kernel
theorem dX10_step_124 : decode cX10_step 124 = .ok (.goto (-59), 3) := by decide +kernel
theorem dX10_step_127 : decode cX10_step 127 = .ok (.aload_n 0, 1) := by decide +kernel
theorem dX10_step_128 : decode cX10_step 128 = .ok (.aload_n 0, 1) := by decide +kernel
theorem dX10_step_129 : decode cX10_step 129 = .ok (.getfield 81, 3) := by decide +kernel
theorem dX10_step_132 : decode cX10_step 132 = .ok (.bipush 99, 2) := by decide +kernel
theorem dX10_step_134 : decode cX10_step 134 = .ok (.if_icmp .gt 22, 3) := by decide +kernel
theorem dX10_step_137 : decode cX10_step 137 = .ok (.iload_n 1, 1) := by decide +kernel
theorem dX10_step_138 : decode cX10_step 138 = .ok (.bipush 48, 2) := by decide +kernel
theorem dX10_step_140 : decode cX10_step 140 = .ok (.if_icmp .ne 20, 3) := by decide +kernel
theorem dX10_step_143 : decode cX10_step 143 = .ok (.aload_n 0, 1) := by decide +kernel
theorem dX10_step_144 : decode cX10_step 144 = .ok (.getfield 71, 3) := by decide +kernel
theorem dX10_step_147 : decode cX10_step 147 = .ok (.aload_n 0, 1) := by decide +kernel
theorem dX10_step_148 : decode cX10_step 148 = .ok (.getfield 78, 3) := by decide +kernel
theorem dX10_step_151 : decode cX10_step 151 = .ok (.isub, 1) := by decide +kernel
theorem dX10_step_152 : decode cX10_step 152 = .ok (.iconst 1, 1) := by decide +kernel
theorem dX10_step_153 : decode cX10_step 153 = .ok (.if_icmp .le 7, 3) := by decide +kernel
theorem dX10_step_156 : decode cX10_step 156 = .ok (.iconst 5, 1) := by decide +kernel
theorem dX10_step_157 : decode cX10_step 157 = .ok (.goto 4, 3) := by decide +kernel
theorem dX10_step_160 : decode cX10_step 160 = .ok (.iconst 2, 1) := by decide +kernel
theorem dX10_step_161 : decode cX10_step 161 = .ok (.putfield 84, 3) := by decide +kernel
theorem dX10_step_164 : decode cX10_step 164 = .ok (.goto 96, 3) := by decide +kernel
theorem dX10_step_167 : decode cX10_step 167 = .ok (.iload_n 1, 1) := by decide +kernel
theorem dX10_step_168 : decode cX10_step 168 = .ok (.bipush 97, 2) := by decide +kernel
theorem dX10_step_170 : decode cX10_step 170 = .ok (.bipush 122, 2) := by decide +kernel
theorem dX10_step_172 : decode cX10_step 172 = .ok (.invokestatic 63, 3) := by decide +kernel
theorem dX10_step_175 : decode cX10_step 175 = .ok (.ifCond .eq 60, 3) := by decide +kernel
theorem dX10_step_178 : decode cX10_step 178 = .ok (.aload_n 0, 1) := by decide +kernel
theorem dX10_step_179 : decode cX10_step 179 = .ok (.invokevirtual 74, 3) := by decide +kernel
theorem dX10_step_182 : decode cX10_step 182 = .ok (.bipush 97, 2) := by decide +kernel
theorem dX10_step_184 : decode cX10_step 184 = .ok (.bipush 122, 2) := by decide +kernel
theorem dX10_step_186 : decode cX10_step 186 = .ok (.invokestatic 63, 3) := by decide +kernel
theorem dX10_step_189 : decode cX10_step 189 = .ok (.ifCond .eq 16, 3) := by decide +kernel
theorem dX10_step_192 : decode cX10_step 192 = .ok (.aload_n 0, 1) := by decide +kernel
theorem dX10_step_193 : decode cX10_step 193 = .ok (.dup, 1) := by decide +kernel
theorem dX10_step_194 : decode cX10_step 194 = .ok (.getfield 71, 3) := by decide +kernel
theorem dX10_step_197 : decode cX10_step 197 = .ok (.iconst 1, 1) := by decide +kernel
theorem dX10_step_198 : decode cX10_step 198 = .ok (.iadd, 1) := by decide +kernel
theorem dX10_step_199 : decode cX10_step 199 = .ok (.putfield 71, 3) := by decide +kernel
theorem dX10_step_202 : decode cX10_step 202 = .ok (.goto (-24), 3) := by decide +kernel
theorem dX10_step_205 : decode cX10_step 205 = .ok (.aload_n 0, 1) := by decide +kernel
theorem dX10_step_206 : decode cX10_step 206 = .ok (.aload_n 0, 1) := by decide +kernel
theorem dX10_step_207 : decode cX10_step 207 = .ok (.getfield 71, 3) := by decide +kernel
theorem dX10_step_210 : decode cX10_step 210 = .ok (.aload_n 0, 1) := by decide +kernel
theorem dX10_step_211 : decode cX10_step 211 = .ok (.getfield 78, 3) := by decide +kernel
theorem dX10_step_214 : decode cX10_step 214 = .ok (.isub, 1) := by decide +kernel
theorem dX10_step_215 : decode cX10_step 215 = .ok (.iconst 1, 1) := by decide +kernel
theorem dX10_step_216 : decode cX10_step 216 = .ok (.if_icmp .ne 7, 3) := by decide +kernel
theorem dX10_step_219 : decode cX10_step 219 = .ok (.iload_n 1, 1) := by decide +kernel
theorem dX10_step_220 : decode cX10_step 220 = .ok (.goto 4, 3) := by decide +kernel
theorem dX10_step_223 : decode cX10_step 223 = .ok (.iconst 0, 1) := by decide +kernel
theorem dX10_step_224 : decode cX10_step 224 = .ok (.putfield 81, 3) := by decide +kernel
theorem dX10_step_227 : decode cX10_step 227 = .ok (.aload_n 0, 1) := by decide +kernel
theorem dX10_step_228 : decode cX10_step 228 = .ok (.iconst 1, 1) := by decide +kernel
theorem dX10_step_229 : decode cX10_step 229 = .ok (.putfield 84, 3) := by decide +kernel
theorem dX10_step_232 : decode cX10_step 232 = .ok (.goto 28, 3) := by decide +kernel
theorem dX10_step_235 : decode cX10_step 235 = .ok (.aload_n 0, 1) := by decide +kernel
theorem dX10_step_236 : decode cX10_step 236 = .ok (.dup, 1) := by decide +kernel
theorem dX10_step_237 : decode cX10_step 237 = .ok (.getfield 71, 3) := by decide +kernel
theorem dX10_step_240 : decode cX10_step 240 = .ok (.iconst 1, 1) := by decide +kernel
theorem dX10_step_241 : decode cX10_step 241 = .ok (.iadd, 1) := by decide +kernel
theorem dX10_step_242 : decode cX10_step 242 = .ok (.putfield 71, 3) := by decide +kernel
theorem dX10_step_245 : decode cX10_step 245 = .ok (.aload_n 0, 1) := by decide +kernel
theorem dX10_step_246 : decode cX10_step 246 = .ok (.iload_n 1, 1) := by decide +kernel
theorem dX10_step_247 : decode cX10_step 247 = .ok (.bipush 59, 2) := by decide +kernel
theorem dX10_step_249 : decode cX10_step 249 = .ok (.if_icmp .ne 7, 3) := by decide +kernel
theorem dX10_step_252 : decode cX10_step 252 = .ok (.iconst 3, 1) := by decide +kernel
theorem dX10_step_253 : decode cX10_step 253 = .ok (.goto 4, 3) := by decide +kernel
theorem dX10_step_256 : decode cX10_step 256 = .ok (.iconst 5, 1) := by decide +kernel
theorem dX10_step_257 : decode cX10_step 257 = .ok (.putfield 84, 3) := by decide +kernel
theorem dX10_step_260 : decode cX10_step 260 = .ok (.return_, 1) := by decide +kernel
set_option maxRecDepth 20000 in
theorem ggX10_due_X10_step : GoodIn wsX10_due wsX10_step := goodIn_r _ [6, 7, 8, 9, 10, 11, 12, 13, 5, 14, 15, 16, 17, 18, 19, 20, 21, 22, 23, 24, 25, 26, 27, 28, 29, 30, 31, 32, 33, 34, 35, 36, 37, 38, 39, 40, 41, 42, 43, 44, 45] (by decide +kernel) (by decide +kernel)
set_option maxRecDepth 20000 in
theorem gX10_due_X10_step : GoodIn wsX10_due (wsV RX10 91 RX10 yX10_step wsX10_step) := goodIn_app (goodIn_of _ (by decide +kernel)) ggX10_due_X10_step
theorem dX10_due_0 : decode cX10_due 0 = .ok (.aload_n 0, 1) := by decide +kernel
theorem dX10_due_1 : decode cX10_due 1 = .ok (.getfield 87, 3) := by decide +kernel
theorem dX10_due_4 : decode cX10_due 4 = .ok (.ifCond .eq 4, 3) := by decide +kernel
theorem dX10_due_7 : decode cX10_due 7 = .ok (.return_, 1) := by decide +kernel
theorem dX10_due_8 : decode cX10_due 8 = .ok (.iload_n 1, 1) := by decide +kernel
theorem dX10_due_9 : decode cX10_due 9 = .ok (.ifCond .eq 10, 3) := by decide +kernel
theorem dX10_due_12 : decode cX10_due 12 = .ok (.aload_n 0, 1) := by decide +kernel
theorem dX10_due_13 : decode cX10_due 13 = .ok (.invokevirtual 91, 3) := by decide +kernel
theorem dX10_due_16 : decode cX10_due 16 = .ok (.goto 8, 3) := by decide +kernel
theorem dX10_due_19 : decode cX10_due 19 = .ok (.aload_n 0, 1) := by decide +kernel
theorem dX10_due_20 : decode cX10_due 20 = .ok (.iconst 1, 1) := by decide +kernel
theorem dX10_due_21 : decode cX10_due 21 = .ok (.putfield 87, 3) := by decide +kernel
theorem dX10_due_24 : decode cX10_due 24 = .ok (.return_, 1) := by decide +kernel
set_option maxRecDepth 20000 in
theorem ggX10_number_X10_in : GoodIn wsX10_number wsX10_in := goodIn_r _ [6] (by decide +kernel) (by decide +kernel)
set_option maxRecDepth 20000 in
theorem gX10_number_X10_in : GoodIn wsX10_number (va_wsS RX10 63 yX10_in wsX10_in) := goodIn_app (goodIn_of _ (by decide +kernel)) ggX10_number_X10_in
set_option maxRecDepth 20000 in
theorem ggX10_number_X10_due : GoodIn wsX10_number wsX10_due := goodIn_r _ [10, 11, 12, 13, 14, 5, 15, 16, 17, 1, 2, 18, 19, 20, 21, 22, 23, 3, 4, 6, 24, 25, 26, 27, 28, 29, 30, 31, 32, 33, 34, 35, 36, 37, 38, 39, 40, 41, 42, 43, 44, 45, 46, 47, 48, 49] (by decide +kernel) (by decide +kernel)
set_option maxRecDepth 20000 in
theorem gX10_number_X10_due : GoodIn wsX10_number (wsV RX10 94 RX10 yX10_due wsX10_due) := goodIn_app (goodIn_of _ (by decide +kernel)) ggX10_number_X10_due
theorem dX10_number_0 : decode cX10_number 0 = .ok (.aload_n 0, 1) := by decide +kernel
theorem dX10_number_1 : decode cX10_number 1 = .ok (.getfield 81, 3) := by decide +kernel
theorem dX10_number_4 : decode cX10_number 4 = .ok (.istore_n 3, 1) := by decide +kernel
theorem dX10_number_5 : decode cX10_number 5 = .ok (.aload_n 0, 1) := by decide +kernel
theorem dX10_number_6 : decode cX10_number 6 = .ok (.aload_n 0, 1) := by decide +kernel
theorem dX10_number_7 : decode cX10_number 7 = .ok (.getfield 84, 3) := by decide +kernel
theorem dX10_number_10 : decode cX10_number 10 = .ok (.iconst 2, 1) := by decide +kernel
theorem dX10_number_11 : decode cX10_number 11 = .ok (.if_icmp .ne 16, 3) := by decide +kernel
theorem dX10_number_14 : decode cX10_number 14 = .ok (.iload_n 3, 1) := by decide +kernel
theorem dX10_number_15 : decode cX10_number 15 = .ok (.iload_n 1, 1) := by decide +kernel
theorem dX10_number_16 : decode cX10_number 16 = .ok (.iload_n 2, 1) := by decide +kernel
theorem dX10_number_17 : decode cX10_number 17 = .ok (.invokestatic 63, 3) := by decide +kernel
theorem dX10_number_20 : decode cX10_number 20 = .ok (.ifCond .eq 7, 3) := by decide +kernel
theorem dX10_number_23 : decode cX10_number 23 = .ok (.iconst 1, 1) := by decide +kernel
theorem dX10_number_24 : decode cX10_number 24 = .ok (.goto 4, 3) := by decide +kernel
theorem dX10_number_27 : decode cX10_number 27 = .ok (.iconst 0, 1) := by decide +kernel
theorem dX10_number_28 : decode cX10_number 28 = .ok (.invokevirtual 94, 3) := by decide +kernel
theorem dX10_number_31 : decode cX10_number 31 = .ok (.iload_n 3, 1) := by decide +kernel
theorem dX10_number_32 : decode cX10_number 32 = .ok (.ireturn, 1) := by decide +kernel
set_option maxRecDepth 20000 in
theorem ggX10_item_X10_number : GoodIn wsX10_item wsX10_number := goodIn_r _ [16, 6, 7, 17, 18, 15, 19, 20, 21, 22, 23, 2, 24, 25, 26, 27, 28, 29, 30, 31, 32, 33, 34, 35, 36, 37, 38, 39, 40, 41, 42, 43, 44, 45, 46, 47, 48, 49, 50, 51, 52, 53, 54, 55, 56, 57, 58, 59, 60, 61] (by decide +kernel) (by decide +kernel)
set_option maxRecDepth 20000 in
theorem gX10_item_X10_number : GoodIn wsX10_item (wsV RX10 98 RX10 yX10_number wsX10_number) := goodIn_app (goodIn_of _ (by decide +kernel)) ggX10_item_X10_number
set_option maxRecDepth 20000 in
theorem ggX10_item_X10_due : GoodIn wsX10_item wsX10_due := goodIn_r _ [23, 2, 24, 25, 26, 15, 27, 28, 29, 6, 7, 30, 31, 32, 33, 34, 35, 17, 18, 19, 36, 37, 38, 39, 40, 41, 42, 43, 44, 45, 46, 47, 48, 49, 50, 51, 52, 53, 54, 55, 56, 57, 58, 59, 60, 61] (by decide +kernel) (by decide +kernel)
set_option maxRecDepth 20000 in
theorem gX10_item_X10_due : GoodIn wsX10_item (wsV RX10 94 RX10 yX10_due wsX10_due) := goodIn_app (goodIn_of _ (by decide +kernel)) ggX10_item_X10_due
theorem dX10_item_0 : decode cX10_item 0 = .ok (.iload_n 1, 1) := by decide +kernel
theorem dX10_item_1 : decode cX10_item 1 = .ok (.lookupswitch 169 #[(115, 61), (121, 27)], 27) := by decide +kernel
theorem dX10_item_28 : decode cX10_item 28 = .ok (.aload_n 0, 1) := by decide +kernel
theorem dX10_item_29 : decode cX10_item 29 = .ok (.iconst 2, 1) := by decide +kernel
theorem dX10_item_30 : decode cX10_item 30 = .ok (.bipush 8, 2) := by decide +kernel
theorem dX10_item_32 : decode cX10_item 32 = .ok (.invokevirtual 98, 3) := by decide +kernel
theorem dX10_item_35 : decode cX10_item 35 = .ok (.istore_n 2, 1) := by decide +kernel
theorem dX10_item_36 : decode cX10_item 36 = .ok (.aload_n 0, 1) := by decide +kernel
theorem dX10_item_37 : decode cX10_item 37 = .ok (.getfield 13, 3) := by decide +kernel
theorem dX10_item_40 : decode cX10_item 40 = .ok (.iconst 1, 1) := by decide +kernel
theorem dX10_item_41 : decode cX10_item 41 = .ok (.aload_n 0, 1) := by decide +kernel
theorem dX10_item_42 : decode cX10_item 42 = .ok (.getfield 87, 3) := by decide +kernel
theorem dX10_item_45 : decode cX10_item 45 = .ok (.ifCond .eq 12, 3) := by decide +kernel
theorem dX10_item_48 : decode cX10_item 48 = .ok (.aload_n 0, 1) := by decide +kernel
theorem dX10_item_49 : decode cX10_item 49 = .ok (.getfield 13, 3) := by decide +kernel
theorem dX10_item_52 : decode cX10_item 52 = .ok (.iconst 1, 1) := by decide +kernel
theorem dX10_item_53 : decode cX10_item 53 = .ok (.iaload, 1) := by decide +kernel
theorem dX10_item_54 : decode cX10_item 54 = .ok (.goto 4, 3) := by decide +kernel
theorem dX10_item_57 : decode cX10_item 57 = .ok (.iload_n 2, 1) := by decide +kernel
theorem dX10_item_58 : decode cX10_item 58 = .ok (.iastore, 1) := by decide +kernel
theorem dX10_item_59 : decode cX10_item 59 = .ok (.goto 169, 3) := by decide +kernel
theorem dX10_item_62 : decode cX10_item 62 = .ok (.bipush 9, 2) := by decide +kernel
theorem dX10_item_64 : decode cX10_item 64 = .ok (.aload_n 0, 1) := by decide +kernel
theorem dX10_item_65 : decode cX10_item 65 = .ok (.getfield 17, 3) := by decide +kernel
theorem dX10_item_68 : decode cX10_item 68 = .ok (.iconst 1, 1) := by decide +kernel
theorem dX10_item_69 : decode cX10_item 69 = .ok (.iaload, 1) := by decide +kernel
theorem dX10_item_70 : decode cX10_item 70 = .ok (.iadd, 1) := by decide +kernel
theorem dX10_item_71 : decode cX10_item 71 = .ok (.istore_n 3, 1) := by decide +kernel
theorem dX10_item_72 : decode cX10_item 72 = .ok (.aload_n 0, 1) := by decide +kernel
theorem dX10_item_73 : decode cX10_item 73 = .ok (.getfield 20, 3) := by decide +kernel
theorem dX10_item_76 : decode cX10_item 76 = .ok (.iload_n 3, 1) := by decide +kernel
theorem dX10_item_77 : decode cX10_item 77 = .ok (.aload_n 0, 1) := by decide +kernel
theorem dX10_item_78 : decode cX10_item 78 = .ok (.iconst 0, 1) := by decide +kernel
theorem dX10_item_79 : decode cX10_item 79 = .ok (.aload_n 0, 1) := by decide +kernel
theorem dX10_item_80 : decode cX10_item 80 = .ok (.getfield 13, 3) := by decide +kernel
theorem dX10_item_83 : decode cX10_item 83 = .ok (.iconst 1, 1) := by decide +kernel
theorem dX10_item_84 : decode cX10_item 84 = .ok (.iaload, 1) := by decide +kernel
theorem dX10_item_85 : decode cX10_item 85 = .ok (.iconst 1, 1) := by decide +kernel
theorem dX10_item_86 : decode cX10_item 86 = .ok (.isub, 1) := by decide +kernel
theorem dX10_item_87 : decode cX10_item 87 = .ok (.invokevirtual 98, 3) := by decide +kernel
theorem dX10_item_90 : decode cX10_item 90 = .ok (.iastore, 1) := by decide +kernel
theorem dX10_item_91 : decode cX10_item 91 = .ok (.aload_n 0, 1) := by decide +kernel
theorem dX10_item_92 : decode cX10_item 92 = .ok (.getfield 23, 3) := by decide +kernel
theorem dX10_item_95 : decode cX10_item 95 = .ok (.iload_n 3, 1) := by decide +kernel
theorem dX10_item_96 : decode cX10_item 96 = .ok (.aload_n 0, 1) := by decide +kernel
theorem dX10_item_97 : decode cX10_item 97 = .ok (.getfield 81, 3) := by decide +kernel
theorem dX10_item_100 : decode cX10_item 100 = .ok (.iastore, 1) := by decide +kernel
theorem dX10_item_101 : decode cX10_item 101 = .ok (.aload_n 0, 1) := by decide +kernel
theorem dX10_item_102 : decode cX10_item 102 = .ok (.aload_n 0, 1) := by decide +kernel
theorem dX10_item_103 : decode cX10_item 103 = .ok (.getfield 84, 3) := by decide +kernel
theorem dX10_item_106 : decode cX10_item 106 = .ok (.iconst 2, 1) := by decide +kernel
theorem dX10_item_107 : decode cX10_item 107 = .ok (.if_icmp .ne 33, 3) := by decide +kernel
theorem dX10_item_110 : decode cX10_item 110 = .ok (.aload_n 0, 1) := by decide +kernel
theorem dX10_item_111 : decode cX10_item 111 = .ok (.getfield 81, 3) := by decide +kernel
theorem dX10_item_114 : decode cX10_item 114 = .ok (.aload_n 0, 1) := by decide +kernel
theorem dX10_item_115 : decode cX10_item 115 = .ok (.getfield 13, 3) := by decide +kernel
theorem dX10_item_118 : decode cX10_item 118 = .ok (.iconst 1, 1) := by decide +kernel
theorem dX10_item_119 : decode cX10_item 119 = .ok (.iaload, 1) := by decide +kernel
theorem dX10_item_120 : decode cX10_item 120 = .ok (.if_icmp .ge 20, 3) := by decide +kernel
theorem dX10_item_123 : decode cX10_item 123 = .ok (.aload_n 0, 1) := by decide +kernel
theorem dX10_item_124 : decode cX10_item 124 = .ok (.getfield 81, 3) := by decide +kernel
theorem dX10_item_127 : decode cX10_item 127 = .ok (.aload_n 0, 1) := by decide +kernel
theorem dX10_item_128 : decode cX10_item 128 = .ok (.getfield 20, 3) := by decide +kernel
theorem dX10_item_131 : decode cX10_item 131 = .ok (.iload_n 3, 1) := by decide +kernel
theorem dX10_item_132 : decode cX10_item 132 = .ok (.iaload, 1) := by decide +kernel
theorem dX10_item_133 : decode cX10_item 133 = .ok (.if_icmp .eq 7, 3) := by decide +kernel
theorem dX10_item_136 : decode cX10_item 136 = .ok (.iconst 1, 1) := by decide +kernel
theorem dX10_item_137 : decode cX10_item 137 = .ok (.goto 4, 3) := by decide +kernel
theorem dX10_item_140 : decode cX10_item 140 = .ok (.iconst 0, 1) := by decide +kernel
theorem dX10_item_141 : decode cX10_item 141 = .ok (.invokevirtual 94, 3) := by decide +kernel
theorem dX10_item_144 : decode cX10_item 144 = .ok (.aload_n 0, 1) := by decide +kernel
theorem dX10_item_145 : decode cX10_item 145 = .ok (.getfield 26, 3) := by decide +kernel
theorem dX10_item_148 : decode cX10_item 148 = .ok (.iload_n 3, 1) := by decide +kernel
theorem dX10_item_149 : decode cX10_item 149 = .ok (.aload_n 0, 1) := by decide +kernel
theorem dX10_item_150 : decode cX10_item 150 = .ok (.iconst 0, 1) := by decide +kernel
theorem dX10_item_151 : decode cX10_item 151 = .ok (.bipush 9, 2) := by decide +kernel
theorem dX10_item_153 : decode cX10_item 153 = .ok (.invokevirtual 98, 3) := by decide +kernel
theorem dX10_item_156 : decode cX10_item 156 = .ok (.iastore, 1) := by decide +kernel
theorem dX10_item_157 : decode cX10_item 157 = .ok (.aload_n 0, 1) := by decide +kernel
theorem dX10_item_158 : decode cX10_item 158 = .ok (.getfield 17, 3) := by decide +kernel
theorem dX10_item_161 : decode cX10_item 161 = .ok (.iconst 1, 1) := by decide +kernel
theorem dX10_item_162 : decode cX10_item 162 = .ok (.dup2, 1) := by decide +kernel
theorem dX10_item_163 : decode cX10_item 163 = .ok (.iaload, 1) := by decide +kernel
theorem dX10_item_164 : decode cX10_item 164 = .ok (.iconst 1, 1) := by decide +kernel
theorem dX10_item_165 : decode cX10_item 165 = .ok (.iadd, 1) := by decide +kernel
theorem dX10_item_166 : decode cX10_item 166 = .ok (.iastore, 1) := by decide +kernel
theorem dX10_item_167 : decode cX10_item 167 = .ok (.goto 61, 3) := by decide +kernel
theorem dX10_item_170 : decode cX10_item 170 = .ok (.aload_n 0, 1) := by decide +kernel
theorem dX10_item_171 : decode cX10_item 171 = .ok (.getfield 32, 3) := by decide +kernel
theorem dX10_item_174 : decode cX10_item 174 = .ok (.bipush 6, 2) := by decide +kernel
theorem dX10_item_176 : decode cX10_item 176 = .ok (.aload_n 0, 1) := by decide +kernel
theorem dX10_item_177 : decode cX10_item 177 = .ok (.getfield 29, 3) := by decide +kernel
theorem dX10_item_180 : decode cX10_item 180 = .ok (.iconst 1, 1) := by decide +kernel
theorem dX10_item_181 : decode cX10_item 181 = .ok (.iaload, 1) := by decide +kernel
theorem dX10_item_182 : decode cX10_item 182 = .ok (.iadd, 1) := by decide +kernel
theorem dX10_item_183 : decode cX10_item 183 = .ok (.aload_n 0, 1) := by decide +kernel
theorem dX10_item_184 : decode cX10_item 184 = .ok (.iconst 0, 1) := by decide +kernel
theorem dX10_item_185 : decode cX10_item 185 = .ok (.aload_n 0, 1) := by decide +kernel
theorem dX10_item_186 : decode cX10_item 186 = .ok (.getfield 17, 3) := by decide +kernel
theorem dX10_item_189 : decode cX10_item 189 = .ok (.iconst 1, 1) := by decide +kernel
theorem dX10_item_190 : decode cX10_item 190 = .ok (.iaload, 1) := by decide +kernel
theorem dX10_item_191 : decode cX10_item 191 = .ok (.iconst 1, 1) := by decide +kernel
theorem dX10_item_192 : decode cX10_item 192 = .ok (.isub, 1) := by decide +kernel
theorem dX10_item_193 : decode cX10_item 193 = .ok (.invokevirtual 98, 3) := by decide +kernel
theorem dX10_item_196 : decode cX10_item 196 = .ok (.iastore, 1) := by decide +kernel
theorem dX10_item_197 : decode cX10_item 197 = .ok (.aload_n 0, 1) := by decide +kernel
theorem dX10_item_198 : decode cX10_item 198 = .ok (.getfield 35, 3) := by decide +kernel
theorem dX10_item_201 : decode cX10_item 201 = .ok (.bipush 6, 2) := by decide +kernel
theorem dX10_item_203 : decode cX10_item 203 = .ok (.aload_n 0, 1) := by decide +kernel
theorem dX10_item_204 : decode cX10_item 204 = .ok (.getfield 29, 3) := by decide +kernel
theorem dX10_item_207 : decode cX10_item 207 = .ok (.iconst 1, 1) := by decide +kernel
theorem dX10_item_208 : decode cX10_item 208 = .ok (.iaload, 1) := by decide +kernel
theorem dX10_item_209 : decode cX10_item 209 = .ok (.iadd, 1) := by decide +kernel
theorem dX10_item_210 : decode cX10_item 210 = .ok (.aload_n 0, 1) := by decide +kernel
theorem dX10_item_211 : decode cX10_item 211 = .ok (.iconst 1, 1) := by decide +kernel
theorem dX10_item_212 : decode cX10_item 212 = .ok (.bipush 10, 2) := by decide +kernel
theorem dX10_item_214 : decode cX10_item 214 = .ok (.invokevirtual 98, 3) := by decide +kernel
theorem dX10_item_217 : decode cX10_item 217 = .ok (.iastore, 1) := by decide +kernel
theorem dX10_item_218 : decode cX10_item 218 = .ok (.aload_n 0, 1) := by decide +kernel
theorem dX10_item_219 : decode cX10_item 219 = .ok (.getfield 29, 3) := by decide +kernel
theorem dX10_item_222 : decode cX10_item 222 = .ok (.iconst 1, 1) := by decide +kernel
theorem dX10_item_223 : decode cX10_item 223 = .ok (.dup2, 1) := by decide +kernel
theorem dX10_item_224 : decode cX10_item 224 = .ok (.iaload, 1) := by decide +kernel
theorem dX10_item_225 : decode cX10_item 225 = .ok (.iconst 1, 1) := by decide +kernel
theorem dX10_item_226 : decode cX10_item 226 = .ok (.iadd, 1) := by decide +kernel
theorem dX10_item_227 : decode cX10_item 227 = .ok (.iastore, 1) := by decide +kernel
theorem dX10_item_228 : decode cX10_item 228 = .ok (.return_, 1) := by decide +kernel
theorem dX10_may_0 : decode cX10_may 0 = .ok (.iload_n 1, 1) := by decide +kernel
theorem dX10_may_1 : decode cX10_may 1 = .ok (.lookupswitch 57 #[(115, 40), (121, 27)], 27) := by decide +kernel
theorem dX10_may_28 : decode cX10_may 28 = .ok (.aload_n 0, 1) := by decide +kernel
theorem dX10_may_29 : decode cX10_may 29 = .ok (.getfield 102, 3) := by decide +kernel
theorem dX10_may_32 : decode cX10_may 32 = .ok (.ifCond .ne 7, 3) := by decide +kernel
theorem dX10_may_35 : decode cX10_may 35 = .ok (.iconst 1, 1) := by decide +kernel
theorem dX10_may_36 : decode cX10_may 36 = .ok (.goto 4, 3) := by decide +kernel
theorem dX10_may_39 : decode cX10_may 39 = .ok (.iconst 0, 1) := by decide +kernel
theorem dX10_may_40 : decode cX10_may 40 = .ok (.ireturn, 1) := by decide +kernel
theorem dX10_may_41 : decode cX10_may 41 = .ok (.aload_n 0, 1) := by decide +kernel
theorem dX10_may_42 : decode cX10_may 42 = .ok (.getfield 17, 3) := by decide +kernel
theorem dX10_may_45 : decode cX10_may 45 = .ok (.iconst 1, 1) := by decide +kernel
theorem dX10_may_46 : decode cX10_may 46 = .ok (.iaload, 1) := by decide +kernel
theorem dX10_may_47 : decode cX10_may 47 = .ok (.bipush 9, 2) := by decide +kernel
theorem dX10_may_49 : decode cX10_may 49 = .ok (.if_icmp .ge 7, 3) := by decide +kernel
theorem dX10_may_52 : decode cX10_may 52 = .ok (.iconst 1, 1) := by decide +kernel
theorem dX10_may_53 : decode cX10_may 53 = .ok (.goto 4, 3) := by decide +kernel
theorem dX10_may_56 : decode cX10_may 56 = .ok (.iconst 0, 1) := by decide +kernel
theorem dX10_may_57 : decode cX10_may 57 = .ok (.ireturn, 1) := by decide +kernel
theorem dX10_may_58 : decode cX10_may 58 = .ok (.iload_n 1, 1) := by decide +kernel
theorem dX10_may_59 : decode cX10_may 59 = .ok (.bipush 99, 2) := by decide +kernel
theorem dX10_may_61 : decode cX10_may 61 = .ok (.if_icmp .ne 18, 3) := by decide +kernel
theorem dX10_may_64 : decode cX10_may 64 = .ok (.aload_n 0, 1) := by decide +kernel
theorem dX10_may_65 : decode cX10_may 65 = .ok (.getfield 29, 3) := by decide +kernel
theorem dX10_may_68 : decode cX10_may 68 = .ok (.iconst 1, 1) := by decide +kernel
theorem dX10_may_69 : decode cX10_may 69 = .ok (.iaload, 1) := by decide +kernel
theorem dX10_may_70 : decode cX10_may 70 = .ok (.bipush 6, 2) := by decide +kernel
theorem dX10_may_72 : decode cX10_may 72 = .ok (.if_icmp .ge 7, 3) := by decide +kernel
theorem dX10_may_75 : decode cX10_may 75 = .ok (.iconst 1, 1) := by decide +kernel
theorem dX10_may_76 : decode cX10_may 76 = .ok (.goto 4, 3) := by decide +kernel
theorem dX10_may_79 : decode cX10_may 79 = .ok (.iconst 0, 1) := by decide +kernel
theorem dX10_may_80 : decode cX10_may 80 = .ok (.ireturn, 1) := by decide +kernel
set_option maxRecDepth 20000 in
theorem ggX10_read_X10_step : GoodIn wsX10_read wsX10_step := goodIn_r _ [13, 1, 14, 8, 7, 15, 16, 17, 12, 18, 19, 20, 21, 22, 23, 45, 46, 47, 48, 49, 50, 51, 52, 53, 54, 55, 56, 57, 58, 59, 60, 61, 62, 63, 64, 65, 66, 67, 68, 69, 70] (by decide +kernel) (by decide +kernel)
set_option maxRecDepth 20000 in
theorem gX10_read_X10_step : GoodIn wsX10_read (wsV RX10 91 RX10 yX10_step wsX10_step) := goodIn_app (goodIn_of _ (by decide +kernel)) ggX10_read_X10_step
set_option maxRecDepth 20000 in
theorem ggX10_read_X10_may : GoodIn wsX10_read wsX10_may := goodIn_r _ [27, 3, 5, 6, 45, 46, 47, 48, 49, 50, 51, 52, 53, 54, 55, 56, 57, 58, 59, 60, 61, 62, 63, 64, 65, 66, 67, 68, 69, 70] (by decide +kernel) (by decide +kernel)
set_option maxRecDepth 20000 in
theorem gX10_read_X10_may : GoodIn wsX10_read (wsV RX10 105 RX10 yX10_may wsX10_may) := goodIn_app (goodIn_of _ (by decide +kernel)) ggX10_read_X10_may
set_option maxRecDepth 20000 in
theorem ggX10_read_X10_due : GoodIn wsX10_read wsX10_due := goodIn_r _ [31, 2, 9, 10, 11, 12, 13, 1, 14, 8, 7, 15, 16, 17, 18, 19, 20, 21, 22, 23, 45, 46, 47, 48, 49, 50, 51, 52, 53, 54, 55, 56, 57, 58, 59, 60, 61, 62, 63, 64, 65, 66, 67, 68, 69, 70] (by decide +kernel) (by decide +kernel)
set_option maxRecDepth 20000 in
theorem gX10_read_X10_due : GoodIn wsX10_read (wsV RX10 94 RX10 yX10_due wsX10_due) := goodIn_app (goodIn_of _ (by decide +kernel)) ggX10_read_X10_due
set_option maxRecDepth 20000 in
theorem ggX10_read_X10_item : GoodIn wsX10_read wsX10_item := goodIn_r _ [35, 4, 2, 5, 36, 37, 8, 7, 38, 39, 6, 40, 41, 42, 43, 12, 44, 21, 22, 23, 28, 29, 30, 31, 9, 10, 11, 13, 1, 14, 15, 16, 17, 18, 19, 20, 45, 46, 47, 48, 49, 50, 51, 52, 53, 54, 55, 56, 57, 58, 59, 60, 61, 62, 63, 64, 65, 66, 67, 68, 69, 70] (by decide +kernel) (by decide +kernel)
set_option maxRecDepth 20000 in
theorem gX10_read_X10_item : GoodIn wsX10_read (wsV RX10 109 RX10 yX10_item wsX10_item) := goodIn_app (goodIn_of _ (by decide +kernel)) ggX10_read_X10_item
theorem dX10_read_0 : decode cX10_read 0 = .ok (.aload_n 0, 1) := by decide +kernel
theorem dX10_read_1 : decode cX10_read 1 = .ok (.iconst 0, 1) := by decide +kernel
theorem dX10_read_2 : decode cX10_read 2 = .ok (.putfield 71, 3) := by decide +kernel
theorem dX10_read_5 : decode cX10_read 5 = .ok (.aload_n 0, 1) := by decide +kernel
theorem dX10_read_6 : decode cX10_read 6 = .ok (.iconst 0, 1) := by decide +kernel
theorem dX10_read_7 : decode cX10_read 7 = .ok (.putfield 87, 3) := by decide +kernel
theorem dX10_read_10 : decode cX10_read 10 = .ok (.aload_n 0, 1) := by decide +kernel
theorem dX10_read_11 : decode cX10_read 11 = .ok (.iconst 0, 1) := by decide +kernel
theorem dX10_read_12 : decode cX10_read 12 = .ok (.putfield 102, 3) := by decide +kernel
theorem dX10_read_15 : decode cX10_read 15 = .ok (.aload_n 0, 1) := by decide +kernel
theorem dX10_read_16 : decode cX10_read 16 = .ok (.getfield 13, 3) := by decide +kernel
theorem dX10_read_19 : decode cX10_read 19 = .ok (.iconst 1, 1) := by decide +kernel
theorem dX10_read_20 : decode cX10_read 20 = .ok (.iconst 4, 1) := by decide +kernel
theorem dX10_read_21 : decode cX10_read 21 = .ok (.iastore, 1) := by decide +kernel
theorem dX10_read_22 : decode cX10_read 22 = .ok (.aload_n 0, 1) := by decide +kernel
theorem dX10_read_23 : decode cX10_read 23 = .ok (.getfield 17, 3) := by decide +kernel
theorem dX10_read_26 : decode cX10_read 26 = .ok (.iconst 1, 1) := by decide +kernel
theorem dX10_read_27 : decode cX10_read 27 = .ok (.iconst 0, 1) := by decide +kernel
theorem dX10_read_28 : decode cX10_read 28 = .ok (.iastore, 1) := by decide +kernel
theorem dX10_read_29 : decode cX10_read 29 = .ok (.aload_n 0, 1) := by decide +kernel
theorem dX10_read_30 : decode cX10_read 30 = .ok (.getfield 29, 3) := by decide +kernel
theorem dX10_read_33 : decode cX10_read 33 = .ok (.iconst 1, 1) := by decide +kernel
theorem dX10_read_34 : decode cX10_read 34 = .ok (.iconst 0, 1) := by decide +kernel
theorem dX10_read_35 : decode cX10_read 35 = .ok (.iastore, 1) := by decide +kernel
theorem dX10_read_36 : decode cX10_read 36 = .ok (.aload_n 0, 1) := by decide +kernel
theorem dX10_read_37 : decode cX10_read 37 = .ok (.invokevirtual 91, 3) := by decide +kernel
theorem dX10_read_40 : decode cX10_read 40 = .ok (.aload_n 0, 1) := by decide +kernel
theorem dX10_read_41 : decode cX10_read 41 = .ok (.getfield 84, 3) := by decide +kernel
theorem dX10_read_44 : decode cX10_read 44 = .ok (.iconst 4, 1) := by decide +kernel
theorem dX10_read_45 : decode cX10_read 45 = .ok (.if_icmp .eq 94, 3) := by decide +kernel
theorem dX10_read_48 : decode cX10_read 48 = .ok (.aload_n 0, 1) := by decide +kernel
theorem dX10_read_49 : decode cX10_read 49 = .ok (.getfield 87, 3) := by decide +kernel
theorem dX10_read_52 : decode cX10_read 52 = .ok (.ifCond .ne 87, 3) := by decide +kernel
theorem dX10_read_55 : decode cX10_read 55 = .ok (.aload_n 0, 1) := by decide +kernel
theorem dX10_read_56 : decode cX10_read 56 = .ok (.getfield 84, 3) := by decide +kernel
theorem dX10_read_59 : decode cX10_read 59 = .ok (.iconst 1, 1) := by decide +kernel
theorem dX10_read_60 : decode cX10_read 60 = .ok (.if_icmp .ne 10, 3) := by decide +kernel
theorem dX10_read_63 : decode cX10_read 63 = .ok (.aload_n 0, 1) := by decide +kernel
theorem dX10_read_64 : decode cX10_read 64 = .ok (.getfield 81, 3) := by decide +kernel
theorem dX10_read_67 : decode cX10_read 67 = .ok (.goto 4, 3) := by decide +kernel
theorem dX10_read_70 : decode cX10_read 70 = .ok (.iconst 0, 1) := by decide +kernel
theorem dX10_read_71 : decode cX10_read 71 = .ok (.istore_n 1, 1) := by decide +kernel
theorem dX10_read_72 : decode cX10_read 72 = .ok (.aload_n 0, 1) := by decide +kernel
theorem dX10_read_73 : decode cX10_read 73 = .ok (.aload_n 0, 1) := by decide +kernel
theorem dX10_read_74 : decode cX10_read 74 = .ok (.getfield 84, 3) := by decide +kernel
theorem dX10_read_77 : decode cX10_read 77 = .ok (.iconst 1, 1) := by decide +kernel
theorem dX10_read_78 : decode cX10_read 78 = .ok (.if_icmp .ne 15, 3) := by decide +kernel
theorem dX10_read_81 : decode cX10_read 81 = .ok (.aload_n 0, 1) := by decide +kernel
theorem dX10_read_82 : decode cX10_read 82 = .ok (.iload_n 1, 1) := by decide +kernel
theorem dX10_read_83 : decode cX10_read 83 = .ok (.invokevirtual 105, 3) := by decide +kernel
theorem dX10_read_86 : decode cX10_read 86 = .ok (.ifCond .eq 7, 3) := by decide +kernel
theorem dX10_read_89 : decode cX10_read 89 = .ok (.iconst 1, 1) := by decide +kernel
theorem dX10_read_90 : decode cX10_read 90 = .ok (.goto 4, 3) := by decide +kernel
theorem dX10_read_93 : decode cX10_read 93 = .ok (.iconst 0, 1) := by decide +kernel
theorem dX10_read_94 : decode cX10_read 94 = .ok (.invokevirtual 94, 3) := by decide +kernel
theorem dX10_read_97 : decode cX10_read 97 = .ok (.aload_n 0, 1) := by decide +kernel
theorem dX10_read_98 : decode cX10_read 98 = .ok (.getfield 87, 3) := by decide +kernel
theorem dX10_read_101 : decode cX10_read 101 = .ok (.ifCond .ne 35, 3) := by decide +kernel
theorem dX10_read_104 : decode cX10_read 104 = .ok (.aload_n 0, 1) := by decide +kernel
theorem dX10_read_105 : decode cX10_read 105 = .ok (.iload_n 1, 1) := by decide +kernel
theorem dX10_read_106 : decode cX10_read 106 = .ok (.invokevirtual 109, 3) := by decide +kernel
theorem dX10_read_109 : decode cX10_read 109 = .ok (.aload_n 0, 1) := by decide +kernel
theorem dX10_read_110 : decode cX10_read 110 = .ok (.aload_n 0, 1) := by decide +kernel
theorem dX10_read_111 : decode cX10_read 111 = .ok (.getfield 84, 3) := by decide +kernel
theorem dX10_read_114 : decode cX10_read 114 = .ok (.iconst 3, 1) := by decide +kernel
theorem dX10_read_115 : decode cX10_read 115 = .ok (.if_icmp .ne 7, 3) := by decide +kernel
theorem dX10_read_118 : decode cX10_read 118 = .ok (.iconst 1, 1) := by decide +kernel
theorem dX10_read_119 : decode cX10_read 119 = .ok (.goto 4, 3) := by decide +kernel
theorem dX10_read_122 : decode cX10_read 122 = .ok (.iconst 0, 1) := by decide +kernel
theorem dX10_read_123 : decode cX10_read 123 = .ok (.invokevirtual 94, 3) := by decide +kernel
theorem dX10_read_126 : decode cX10_read 126 = .ok (.aload_n 0, 1) := by decide +kernel
theorem dX10_read_127 : decode cX10_read 127 = .ok (.dup, 1) := by decide +kernel
theorem dX10_read_128 : decode cX10_read 128 = .ok (.getfield 102, 3) := by decide +kernel
theorem dX10_read_131 : decode cX10_read 131 = .ok (.iconst 1, 1) := by decide +kernel
theorem dX10_read_132 : decode cX10_read 132 = .ok (.iadd, 1) := by decide +kernel
theorem dX10_read_133 : decode cX10_read 133 = .ok (.putfield 102, 3) := by decide +kernel
theorem dX10_read_136 : decode cX10_read 136 = .ok (.goto (-96), 3) := by decide +kernel
theorem dX10_read_139 : decode cX10_read 139 = .ok (.return_, 1) := by decide +kernel
set_option maxRecDepth 20000 in
theorem ggX10_town_X10_read : GoodIn wsX10_town wsX10_read := goodIn_r _ [21, 22, 1, 16, 3, 4, 5, 23, 24, 25, 26, 27, 20, 28, 2, 29, 30, 31, 32, 15, 33, 34, 35, 36, 37, 38, 39, 40, 41, 42, 43, 44, 45, 46, 47, 48, 7, 8, 9, 10, 11, 49, 50, 51, 52, 53, 54, 55, 56, 57, 58, 59, 60, 61, 62, 63, 64, 65, 66, 67, 68, 69, 70, 71, 72, 73, 74, 75, 76, 77, 78] (by decide +kernel) (by decide +kernel)
set_option maxRecDepth 20000 in
theorem gX10_town_X10_read : GoodIn wsX10_town (wsV RX10 113 RX10 yX10_read wsX10_read) := goodIn_app (goodIn_of _ (by decide +kernel)) ggX10_town_X10_read
theorem dX10_town_0 : decode cX10_town 0 = .ok (.aload_n 0, 1) := by decide +kernel
theorem dX10_town_1 : decode cX10_town 1 = .ok (.invokevirtual 113, 3) := by decide +kernel
theorem dX10_town_4 : decode cX10_town 4 = .ok (.aload_n 0, 1) := by decide +kernel
theorem dX10_town_5 : decode cX10_town 5 = .ok (.getfield 87, 3) := by decide +kernel
theorem dX10_town_8 : decode cX10_town 8 = .ok (.ifCond .eq 11, 3) := by decide +kernel
theorem dX10_town_11 : decode cX10_town 11 = .ok (.bipush (-10), 2) := by decide +kernel
theorem dX10_town_13 : decode cX10_town 13 = .ok (.aload_n 0, 1) := by decide +kernel
theorem dX10_town_14 : decode cX10_town 14 = .ok (.getfield 78, 3) := by decide +kernel
theorem dX10_town_17 : decode cX10_town 17 = .ok (.isub, 1) := by decide +kernel
theorem dX10_town_18 : decode cX10_town 18 = .ok (.ireturn, 1) := by decide +kernel
theorem dX10_town_19 : decode cX10_town 19 = .ok (.aload_n 0, 1) := by decide +kernel
theorem dX10_town_20 : decode cX10_town 20 = .ok (.getfield 13, 3) := by decide +kernel
theorem dX10_town_23 : decode cX10_town 23 = .ok (.iconst 0, 1) := by decide +kernel
theorem dX10_town_24 : decode cX10_town 24 = .ok (.aload_n 0, 1) := by decide +kernel
theorem dX10_town_25 : decode cX10_town 25 = .ok (.getfield 13, 3) := by decide +kernel
theorem dX10_town_28 : decode cX10_town 28 = .ok (.iconst 1, 1) := by decide +kernel
theorem dX10_town_29 : decode cX10_town 29 = .ok (.iaload, 1) := by decide +kernel
theorem dX10_town_30 : decode cX10_town 30 = .ok (.iastore, 1) := by decide +kernel
theorem dX10_town_31 : decode cX10_town 31 = .ok (.aload_n 0, 1) := by decide +kernel
theorem dX10_town_32 : decode cX10_town 32 = .ok (.getfield 17, 3) := by decide +kernel
theorem dX10_town_35 : decode cX10_town 35 = .ok (.iconst 0, 1) := by decide +kernel
theorem dX10_town_36 : decode cX10_town 36 = .ok (.aload_n 0, 1) := by decide +kernel
theorem dX10_town_37 : decode cX10_town 37 = .ok (.getfield 17, 3) := by decide +kernel
theorem dX10_town_40 : decode cX10_town 40 = .ok (.iconst 1, 1) := by decide +kernel
theorem dX10_town_41 : decode cX10_town 41 = .ok (.iaload, 1) := by decide +kernel
theorem dX10_town_42 : decode cX10_town 42 = .ok (.iastore, 1) := by decide +kernel
theorem dX10_town_43 : decode cX10_town 43 = .ok (.aload_n 0, 1) := by decide +kernel
theorem dX10_town_44 : decode cX10_town 44 = .ok (.getfield 29, 3) := by decide +kernel
theorem dX10_town_47 : decode cX10_town 47 = .ok (.iconst 0, 1) := by decide +kernel
theorem dX10_town_48 : decode cX10_town 48 = .ok (.aload_n 0, 1) := by decide +kernel
theorem dX10_town_49 : decode cX10_town 49 = .ok (.getfield 29, 3) := by decide +kernel
theorem dX10_town_52 : decode cX10_town 52 = .ok (.iconst 1, 1) := by decide +kernel
theorem dX10_town_53 : decode cX10_town 53 = .ok (.iaload, 1) := by decide +kernel
theorem dX10_town_54 : decode cX10_town 54 = .ok (.iastore, 1) := by decide +kernel
theorem dX10_town_55 : decode cX10_town 55 = .ok (.iconst 0, 1) := by decide +kernel
theorem dX10_town_56 : decode cX10_town 56 = .ok (.istore_n 1, 1) := by decide +kernel
theorem dX10_town_57 : decode cX10_town 57 = .ok (.iload_n 1, 1) := by decide +kernel
theorem dX10_town_58 : decode cX10_town 58 = .ok (.bipush 34, 2) := by decide +kernel
theorem dX10_town_60 : decode cX10_town 60 = .ok (.if_icmp .ge 16, 3) := by decide +kernel
theorem dX10_town_63 : decode cX10_town 63 = .ok (.aload_n 0, 1) := by decide +kernel
theorem dX10_town_64 : decode cX10_town 64 = .ok (.getfield 38, 3) := by decide +kernel
theorem dX10_town_67 : decode cX10_town 67 = .ok (.iload_n 1, 1) := by decide +kernel
theorem dX10_town_68 : decode cX10_town 68 = .ok (.iconst 0, 1) := by decide +kernel
theorem dX10_town_69 : decode cX10_town 69 = .ok (.iastore, 1) := by decide +kernel
theorem dX10_town_70 : decode cX10_town 70 = .ok (.iinc 1 1, 3) := by decide +kernel
theorem dX10_town_73 : decode cX10_town 73 = .ok (.goto (-16), 3) := by decide +kernel
theorem dX10_town_76 : decode cX10_town 76 = .ok (.iconst 0, 1) := by decide +kernel
theorem dX10_town_77 : decode cX10_town 77 = .ok (.istore_n 1, 1) := by decide +kernel
theorem dX10_town_78 : decode cX10_town 78 = .ok (.iload_n 1, 1) := by decide +kernel
theorem dX10_town_79 : decode cX10_town 79 = .ok (.bipush 9, 2) := by decide +kernel
theorem dX10_town_81 : decode cX10_town 81 = .ok (.if_icmp .ge 70, 3) := by decide +kernel
theorem dX10_town_84 : decode cX10_town 84 = .ok (.aload_n 0, 1) := by decide +kernel
theorem dX10_town_85 : decode cX10_town 85 = .ok (.getfield 20, 3) := by decide +kernel
theorem dX10_town_88 : decode cX10_town 88 = .ok (.iload_n 1, 1) := by decide +kernel
theorem dX10_town_89 : decode cX10_town 89 = .ok (.aload_n 0, 1) := by decide +kernel
theorem dX10_town_90 : decode cX10_town 90 = .ok (.getfield 20, 3) := by decide +kernel
theorem dX10_town_93 : decode cX10_town 93 = .ok (.bipush 9, 2) := by decide +kernel
theorem dX10_town_95 : decode cX10_town 95 = .ok (.iload_n 1, 1) := by decide +kernel
theorem dX10_town_96 : decode cX10_town 96 = .ok (.iadd, 1) := by decide +kernel
theorem dX10_town_97 : decode cX10_town 97 = .ok (.iaload, 1) := by decide +kernel
theorem dX10_town_98 : decode cX10_town 98 = .ok (.iastore, 1) := by decide +kernel
theorem dX10_town_99 : decode cX10_town 99 = .ok (.aload_n 0, 1) := by decide +kernel
theorem dX10_town_100 : decode cX10_town 100 = .ok (.getfield 23, 3) := by decide +kernel
theorem dX10_town_103 : decode cX10_town 103 = .ok (.iload_n 1, 1) := by decide +kernel
theorem dX10_town_104 : decode cX10_town 104 = .ok (.aload_n 0, 1) := by decide +kernel
theorem dX10_town_105 : decode cX10_town 105 = .ok (.getfield 23, 3) := by decide +kernel
theorem dX10_town_108 : decode cX10_town 108 = .ok (.bipush 9, 2) := by decide +kernel
theorem dX10_town_110 : decode cX10_town 110 = .ok (.iload_n 1, 1) := by decide +kernel
theorem dX10_town_111 : decode cX10_town 111 = .ok (.iadd, 1) := by decide +kernel
theorem dX10_town_112 : decode cX10_town 112 = .ok (.iaload, 1) := by decide +kernel
theorem dX10_town_113 : decode cX10_town 113 = .ok (.iastore, 1) := by decide +kernel
theorem dX10_town_114 : decode cX10_town 114 = .ok (.aload_n 0, 1) := by decide +kernel
theorem dX10_town_115 : decode cX10_town 115 = .ok (.getfield 38, 3) := by decide +kernel
theorem dX10_town_118 : decode cX10_town 118 = .ok (.iconst 1, 1) := by decide +kernel
theorem dX10_town_119 : decode cX10_town 119 = .ok (.iload_n 1, 1) := by decide +kernel
theorem dX10_town_120 : decode cX10_town 120 = .ok (.iadd, 1) := by decide +kernel
theorem dX10_town_121 : decode cX10_town 121 = .ok (.iload_n 1, 1) := by decide +kernel
theorem dX10_town_122 : decode cX10_town 122 = .ok (.aload_n 0, 1) := by decide +kernel
theorem dX10_town_123 : decode cX10_town 123 = .ok (.getfield 17, 3) := by decide +kernel
theorem dX10_town_126 : decode cX10_town 126 = .ok (.iconst 0, 1) := by decide +kernel
theorem dX10_town_127 : decode cX10_town 127 = .ok (.iaload, 1) := by decide +kernel
theorem dX10_town_128 : decode cX10_town 128 = .ok (.if_icmp .ge 15, 3) := by decide +kernel
theorem dX10_town_131 : decode cX10_town 131 = .ok (.aload_n 0, 1) := by decide +kernel
theorem dX10_town_132 : decode cX10_town 132 = .ok (.getfield 26, 3) := by decide +kernel
theorem dX10_town_135 : decode cX10_town 135 = .ok (.bipush 9, 2) := by decide +kernel
theorem dX10_town_137 : decode cX10_town 137 = .ok (.iload_n 1, 1) := by decide +kernel
theorem dX10_town_138 : decode cX10_town 138 = .ok (.iadd, 1) := by decide +kernel
theorem dX10_town_139 : decode cX10_town 139 = .ok (.iaload, 1) := by decide +kernel
theorem dX10_town_140 : decode cX10_town 140 = .ok (.goto 4, 3) := by decide +kernel
theorem dX10_town_143 : decode cX10_town 143 = .ok (.iconst 0, 1) := by decide +kernel
theorem dX10_town_144 : decode cX10_town 144 = .ok (.iastore, 1) := by decide +kernel
theorem dX10_town_145 : decode cX10_town 145 = .ok (.iinc 1 1, 3) := by decide +kernel
theorem dX10_town_148 : decode cX10_town 148 = .ok (.goto (-70), 3) := by decide +kernel
theorem dX10_town_151 : decode cX10_town 151 = .ok (.iconst 0, 1) := by decide +kernel
theorem dX10_town_152 : decode cX10_town 152 = .ok (.istore_n 1, 1) := by decide +kernel
theorem dX10_town_153 : decode cX10_town 153 = .ok (.iload_n 1, 1) := by decide +kernel
theorem dX10_town_154 : decode cX10_town 154 = .ok (.bipush 6, 2) := by decide +kernel
theorem dX10_town_156 : decode cX10_town 156 = .ok (.if_icmp .ge 56, 3) := by decide +kernel
theorem dX10_town_159 : decode cX10_town 159 = .ok (.aload_n 0, 1) := by decide +kernel
theorem dX10_town_160 : decode cX10_town 160 = .ok (.getfield 38, 3) := by decide +kernel
theorem dX10_town_163 : decode cX10_town 163 = .ok (.bipush 28, 2) := by decide +kernel
theorem dX10_town_165 : decode cX10_town 165 = .ok (.iload_n 1, 1) := by decide +kernel
theorem dX10_town_166 : decode cX10_town 166 = .ok (.iadd, 1) := by decide +kernel
theorem dX10_town_167 : decode cX10_town 167 = .ok (.iload_n 1, 1) := by decide +kernel
theorem dX10_town_168 : decode cX10_town 168 = .ok (.aload_n 0, 1) := by decide +kernel
theorem dX10_town_169 : decode cX10_town 169 = .ok (.getfield 29, 3) := by decide +kernel
theorem dX10_town_172 : decode cX10_town 172 = .ok (.iconst 0, 1) := by decide +kernel
theorem dX10_town_173 : decode cX10_town 173 = .ok (.iaload, 1) := by decide +kernel
theorem dX10_town_174 : decode cX10_town 174 = .ok (.if_icmp .ge 15, 3) := by decide +kernel
theorem dX10_town_177 : decode cX10_town 177 = .ok (.aload_n 0, 1) := by decide +kernel
theorem dX10_town_178 : decode cX10_town 178 = .ok (.getfield 32, 3) := by decide +kernel
theorem dX10_town_181 : decode cX10_town 181 = .ok (.bipush 6, 2) := by decide +kernel
theorem dX10_town_183 : decode cX10_town 183 = .ok (.iload_n 1, 1) := by decide +kernel
theorem dX10_town_184 : decode cX10_town 184 = .ok (.iadd, 1) := by decide +kernel
theorem dX10_town_185 : decode cX10_town 185 = .ok (.iaload, 1) := by decide +kernel
theorem dX10_town_186 : decode cX10_town 186 = .ok (.goto 4, 3) := by decide +kernel
theorem dX10_town_189 : decode cX10_town 189 = .ok (.iconst 0, 1) := by decide +kernel
theorem dX10_town_190 : decode cX10_town 190 = .ok (.iastore, 1) := by decide +kernel
theorem dX10_town_191 : decode cX10_town 191 = .ok (.aload_n 0, 1) := by decide +kernel
theorem dX10_town_192 : decode cX10_town 192 = .ok (.getfield 35, 3) := by decide +kernel
theorem dX10_town_195 : decode cX10_town 195 = .ok (.iload_n 1, 1) := by decide +kernel
theorem dX10_town_196 : decode cX10_town 196 = .ok (.aload_n 0, 1) := by decide +kernel
theorem dX10_town_197 : decode cX10_town 197 = .ok (.getfield 35, 3) := by decide +kernel
theorem dX10_town_200 : decode cX10_town 200 = .ok (.bipush 6, 2) := by decide +kernel
theorem dX10_town_202 : decode cX10_town 202 = .ok (.iload_n 1, 1) := by decide +kernel
theorem dX10_town_203 : decode cX10_town 203 = .ok (.iadd, 1) := by decide +kernel
theorem dX10_town_204 : decode cX10_town 204 = .ok (.iaload, 1) := by decide +kernel
theorem dX10_town_205 : decode cX10_town 205 = .ok (.iastore, 1) := by decide +kernel
theorem dX10_town_206 : decode cX10_town 206 = .ok (.iinc 1 1, 3) := by decide +kernel
theorem dX10_town_209 : decode cX10_town 209 = .ok (.goto (-56), 3) := by decide +kernel
theorem dX10_town_212 : decode cX10_town 212 = .ok (.aload_n 0, 1) := by decide +kernel
theorem dX10_town_213 : decode cX10_town 213 = .ok (.getfield 41, 3) := by decide +kernel
theorem dX10_town_216 : decode cX10_town 216 = .ok (.iconst 0, 1) := by decide +kernel
theorem dX10_town_217 : decode cX10_town 217 = .ok (.iconst 0, 1) := by decide +kernel
theorem dX10_town_218 : decode cX10_town 218 = .ok (.iastore, 1) := by decide +kernel
theorem dX10_town_219 : decode cX10_town 219 = .ok (.aload_n 0, 1) := by decide +kernel
theorem dX10_town_220 : decode cX10_town 220 = .ok (.getfield 50, 3) := by decide +kernel
theorem dX10_town_223 : decode cX10_town 223 = .ok (.iconst 0, 1) := by decide +kernel
theorem dX10_town_224 : decode cX10_town 224 = .ok (.iconst 0, 1) := by decide +kernel
theorem dX10_town_225 : decode cX10_town 225 = .ok (.bastore, 1) := by decide +kernel
theorem dX10_town_226 : decode cX10_town 226 = .ok (.aload_n 0, 1) := by decide +kernel
theorem dX10_town_227 : decode cX10_town 227 = .ok (.getfield 50, 3) := by decide +kernel
theorem dX10_town_230 : decode cX10_town 230 = .ok (.iconst 1, 1) := by decide +kernel
theorem dX10_town_231 : decode cX10_town 231 = .ok (.iconst 0, 1) := by decide +kernel
theorem dX10_town_232 : decode cX10_town 232 = .ok (.bastore, 1) := by decide +kernel
theorem dX10_town_233 : decode cX10_town 233 = .ok (.aload_n 0, 1) := by decide +kernel
theorem dX10_town_234 : decode cX10_town 234 = .ok (.iconst 0, 1) := by decide +kernel
theorem dX10_town_235 : decode cX10_town 235 = .ok (.putfield 116, 3) := by decide +kernel
theorem dX10_town_238 : decode cX10_town 238 = .ok (.aload_n 0, 1) := by decide +kernel
theorem dX10_town_239 : decode cX10_town 239 = .ok (.iconst 0, 1) := by decide +kernel
theorem dX10_town_240 : decode cX10_town 240 = .ok (.putfield 67, 3) := by decide +kernel
theorem dX10_town_243 : decode cX10_town 243 = .ok (.aload_n 0, 1) := by decide +kernel
theorem dX10_town_244 : decode cX10_town 244 = .ok (.getfield 102, 3) := by decide +kernel
theorem dX10_town_247 : decode cX10_town 247 = .ok (.ireturn, 1) := by decide +kernel
set_option maxRecDepth 20000 in
theorem ggX10_isYard_X10_in : GoodIn wsX10_isYard wsX10_in := goodIn_r _ [5] (by decide +kernel) (by decide +kernel)
set_option maxRecDepth 20000 in
theorem gX10_isYard_X10_in : GoodIn wsX10_isYard (va_wsS RX10 63 yX10_in wsX10_in) := goodIn_app (goodIn_of _ (by decide +kernel)) ggX10_isYard_X10_in
theorem dX10_isYard_0 : decode cX10_isYard 0 = .ok (.iload_n 1, 1) := by decide +kernel
theorem dX10_isYard_1 : decode cX10_isYard 1 = .ok (.iconst 0, 1) := by decide +kernel
theorem dX10_isYard_2 : decode cX10_isYard 2 = .ok (.aload_n 0, 1) := by decide +kernel
theorem dX10_isYard_3 : decode cX10_isYard 3 = .ok (.getfield 13, 3) := by decide +kernel
theorem dX10_isYard_6 : decode cX10_isYard 6 = .ok (.iconst 0, 1) := by decide +kernel
theorem dX10_isYard_7 : decode cX10_isYard 7 = .ok (.iaload, 1) := by decide +kernel
theorem dX10_isYard_8 : decode cX10_isYard 8 = .ok (.iconst 1, 1) := by decide +kernel
theorem dX10_isYard_9 : decode cX10_isYard 9 = .ok (.isub, 1) := by decide +kernel
theorem dX10_isYard_10 : decode cX10_isYard 10 = .ok (.invokestatic 63, 3) := by decide +kernel
theorem dX10_isYard_13 : decode cX10_isYard 13 = .ok (.ireturn, 1) := by decide +kernel
set_option maxRecDepth 20000 in
theorem ggX10_areTwo_X10_isYard : GoodIn wsX10_areTwo wsX10_isYard := goodIn_r _ [5, 6, 7, 8, 4, 9, 10, 11, 12, 13, 14, 15, 16, 17, 18, 19, 20, 21, 22, 23, 24, 25, 26, 27, 28, 29, 30, 31, 32, 33, 34, 35] (by decide +kernel) (by decide +kernel)
set_option maxRecDepth 20000 in
theorem gX10_areTwo_X10_isYard : GoodIn wsX10_areTwo (wsV RX10 119 RX10 yX10_isYard wsX10_isYard) := goodIn_app (goodIn_of _ (by decide +kernel)) ggX10_areTwo_X10_isYard
theorem dX10_areTwo_0 : decode cX10_areTwo 0 = .ok (.aload_n 0, 1) := by decide +kernel
theorem dX10_areTwo_1 : decode cX10_areTwo 1 = .ok (.iload_n 1, 1) := by decide +kernel
theorem dX10_areTwo_2 : decode cX10_areTwo 2 = .ok (.invokevirtual 119, 3) := by decide +kernel
theorem dX10_areTwo_5 : decode cX10_areTwo 5 = .ok (.ifCond .eq 20, 3) := by decide +kernel
theorem dX10_areTwo_8 : decode cX10_areTwo 8 = .ok (.aload_n 0, 1) := by decide +kernel
theorem dX10_areTwo_9 : decode cX10_areTwo 9 = .ok (.iload_n 2, 1) := by decide +kernel
theorem dX10_areTwo_10 : decode cX10_areTwo 10 = .ok (.invokevirtual 119, 3) := by decide +kernel
theorem dX10_areTwo_13 : decode cX10_areTwo 13 = .ok (.ifCond .eq 12, 3) := by decide +kernel
theorem dX10_areTwo_16 : decode cX10_areTwo 16 = .ok (.iload_n 1, 1) := by decide +kernel
theorem dX10_areTwo_17 : decode cX10_areTwo 17 = .ok (.iload_n 2, 1) := by decide +kernel
theorem dX10_areTwo_18 : decode cX10_areTwo 18 = .ok (.if_icmp .eq 7, 3) := by decide +kernel
theorem dX10_areTwo_21 : decode cX10_areTwo 21 = .ok (.iconst 1, 1) := by decide +kernel
theorem dX10_areTwo_22 : decode cX10_areTwo 22 = .ok (.goto 4, 3) := by decide +kernel
theorem dX10_areTwo_25 : decode cX10_areTwo 25 = .ok (.iconst 0, 1) := by decide +kernel
theorem dX10_areTwo_26 : decode cX10_areTwo 26 = .ok (.ireturn, 1) := by decide +kernel
set_option maxRecDepth 20000 in
theorem ggX10_isStreet_X10_in : GoodIn wsX10_isStreet wsX10_in := goodIn_r _ [5] (by decide +kernel) (by decide +kernel)
set_option maxRecDepth 20000 in
theorem gX10_isStreet_X10_in : GoodIn wsX10_isStreet (va_wsS RX10 63 yX10_in wsX10_in) := goodIn_app (goodIn_of _ (by decide +kernel)) ggX10_isStreet_X10_in
theorem dX10_isStreet_0 : decode cX10_isStreet 0 = .ok (.iload_n 1, 1) := by decide +kernel
theorem dX10_isStreet_1 : decode cX10_isStreet 1 = .ok (.iconst 0, 1) := by decide +kernel
theorem dX10_isStreet_2 : decode cX10_isStreet 2 = .ok (.aload_n 0, 1) := by decide +kernel
theorem dX10_isStreet_3 : decode cX10_isStreet 3 = .ok (.getfield 17, 3) := by decide +kernel
theorem dX10_isStreet_6 : decode cX10_isStreet 6 = .ok (.iconst 0, 1) := by decide +kernel
theorem dX10_isStreet_7 : decode cX10_isStreet 7 = .ok (.iaload, 1) := by decide +kernel
theorem dX10_isStreet_8 : decode cX10_isStreet 8 = .ok (.iconst 1, 1) := by decide +kernel
theorem dX10_isStreet_9 : decode cX10_isStreet 9 = .ok (.isub, 1) := by decide +kernel
theorem dX10_isStreet_10 : decode cX10_isStreet 10 = .ok (.invokestatic 63, 3) := by decide +kernel
theorem dX10_isStreet_13 : decode cX10_isStreet 13 = .ok (.ireturn, 1) := by decide +kernel
set_option maxRecDepth 20000 in
theorem ggX10_isPerson_X10_in : GoodIn wsX10_isPerson wsX10_in := goodIn_r _ [5] (by decide +kernel) (by decide +kernel)
set_option maxRecDepth 20000 in
theorem gX10_isPerson_X10_in : GoodIn wsX10_isPerson (va_wsS RX10 63 yX10_in wsX10_in) := goodIn_app (goodIn_of _ (by decide +kernel)) ggX10_isPerson_X10_in
theorem dX10_isPerson_0 : decode cX10_isPerson 0 = .ok (.iload_n 1, 1) := by decide +kernel
theorem dX10_isPerson_1 : decode cX10_isPerson 1 = .ok (.iconst 0, 1) := by decide +kernel
theorem dX10_isPerson_2 : decode cX10_isPerson 2 = .ok (.aload_n 0, 1) := by decide +kernel
theorem dX10_isPerson_3 : decode cX10_isPerson 3 = .ok (.getfield 29, 3) := by decide +kernel
theorem dX10_isPerson_6 : decode cX10_isPerson 6 = .ok (.iconst 0, 1) := by decide +kernel
theorem dX10_isPerson_7 : decode cX10_isPerson 7 = .ok (.iaload, 1) := by decide +kernel
theorem dX10_isPerson_8 : decode cX10_isPerson 8 = .ok (.iconst 1, 1) := by decide +kernel
theorem dX10_isPerson_9 : decode cX10_isPerson 9 = .ok (.isub, 1) := by decide +kernel
theorem dX10_isPerson_10 : decode cX10_isPerson 10 = .ok (.invokestatic 63, 3) := by decide +kernel
theorem dX10_isPerson_13 : decode cX10_isPerson 13 = .ok (.ireturn, 1) := by decide +kernel
theorem dX10_widthOf_0 : decode cX10_widthOf 0 = .ok (.aload_n 0, 1) := by decide +kernel
theorem dX10_widthOf_1 : decode cX10_widthOf 1 = .ok (.getfield 38, 3) := by decide +kernel
theorem dX10_widthOf_4 : decode cX10_widthOf 4 = .ok (.iconst 1, 1) := by decide +kernel
theorem dX10_widthOf_5 : decode cX10_widthOf 5 = .ok (.iload_n 1, 1) := by decide +kernel
theorem dX10_widthOf_6 : decode cX10_widthOf 6 = .ok (.iadd, 1) := by decide +kernel
theorem dX10_widthOf_7 : decode cX10_widthOf 7 = .ok (.iaload, 1) := by decide +kernel
theorem dX10_widthOf_8 : decode cX10_widthOf 8 = .ok (.istore_n 2, 1) := by decide +kernel
theorem dX10_widthOf_9 : decode cX10_widthOf 9 = .ok (.aload_n 0, 1) := by decide +kernel
theorem dX10_widthOf_10 : decode cX10_widthOf 10 = .ok (.getfield 38, 3) := by decide +kernel
theorem dX10_widthOf_13 : decode cX10_widthOf 13 = .ok (.iconst 0, 1) := by decide +kernel
theorem dX10_widthOf_14 : decode cX10_widthOf 14 = .ok (.iaload, 1) := by decide +kernel
theorem dX10_widthOf_15 : decode cX10_widthOf 15 = .ok (.iconst 1, 1) := by decide +kernel
theorem dX10_widthOf_16 : decode cX10_widthOf 16 = .ok (.if_icmp .ne 7, 3) := by decide +kernel
theorem dX10_widthOf_19 : decode cX10_widthOf 19 = .ok (.iconst 0, 1) := by decide +kernel
theorem dX10_widthOf_20 : decode cX10_widthOf 20 = .ok (.goto 12, 3) := by decide +kernel
theorem dX10_widthOf_23 : decode cX10_widthOf 23 = .ok (.aload_n 0, 1) := by decide +kernel
theorem dX10_widthOf_24 : decode cX10_widthOf 24 = .ok (.getfield 38, 3) := by decide +kernel
theorem dX10_widthOf_27 : decode cX10_widthOf 27 = .ok (.bipush 19, 2) := by decide +kernel
theorem dX10_widthOf_29 : decode cX10_widthOf 29 = .ok (.iload_n 1, 1) := by decide +kernel
theorem dX10_widthOf_30 : decode cX10_widthOf 30 = .ok (.iadd, 1) := by decide +kernel
theorem dX10_widthOf_31 : decode cX10_widthOf 31 = .ok (.iaload, 1) := by decide +kernel
theorem dX10_widthOf_32 : decode cX10_widthOf 32 = .ok (.istore_n 3, 1) := by decide +kernel
theorem dX10_widthOf_33 : decode cX10_widthOf 33 = .ok (.iconst 1, 1) := by decide +kernel
theorem dX10_widthOf_34 : decode cX10_widthOf 34 = .ok (.iload_n 2, 1) := by decide +kernel
theorem dX10_widthOf_35 : decode cX10_widthOf 35 = .ok (.iload_n 3, 1) := by decide +kernel
theorem dX10_widthOf_36 : decode cX10_widthOf 36 = .ok (.if_icmp .le 7, 3) := by decide +kernel
theorem dX10_widthOf_39 : decode cX10_widthOf 39 = .ok (.iload_n 2, 1) := by decide +kernel
theorem dX10_widthOf_40 : decode cX10_widthOf 40 = .ok (.goto 4, 3) := by decide +kernel
theorem dX10_widthOf_43 : decode cX10_widthOf 43 = .ok (.iload_n 3, 1) := by decide +kernel
theorem dX10_widthOf_44 : decode cX10_widthOf 44 = .ok (.iadd, 1) := by decide +kernel
theorem dX10_widthOf_45 : decode cX10_widthOf 45 = .ok (.ireturn, 1) := by decide +kernel
set_option maxRecDepth 20000 in
theorem ggX10_allWidths_X10_widthOf : GoodIn wsX10_allWidths wsX10_widthOf := goodIn_r _ [6, 7, 8, 9, 10, 11, 12, 13, 14, 15, 16, 17, 18, 19, 20, 21, 22, 23, 24, 25, 26, 27, 28, 29, 30, 31, 32, 33] (by decide +kernel) (by decide +kernel)
set_option maxRecDepth 20000 in
theorem gX10_allWidths_X10_widthOf : GoodIn wsX10_allWidths (wsV RX10 122 RX10 yX10_widthOf wsX10_widthOf) := goodIn_app (goodIn_of _ (by decide +kernel)) ggX10_allWidths_X10_widthOf
theorem dX10_allWidths_0 : decode cX10_allWidths 0 = .ok (.iconst 0, 1) := by decide +kernel
theorem dX10_allWidths_1 : decode cX10_allWidths 1 = .ok (.istore_n 1, 1) := by decide +kernel
theorem dX10_allWidths_2 : decode cX10_allWidths 2 = .ok (.iconst 0, 1) := by decide +kernel
theorem dX10_allWidths_3 : decode cX10_allWidths 3 = .ok (.istore_n 2, 1) := by decide +kernel
theorem dX10_allWidths_4 : decode cX10_allWidths 4 = .ok (.iload_n 2, 1) := by decide +kernel
theorem dX10_allWidths_5 : decode cX10_allWidths 5 = .ok (.aload_n 0, 1) := by decide +kernel
theorem dX10_allWidths_6 : decode cX10_allWidths 6 = .ok (.getfield 17, 3) := by decide +kernel
theorem dX10_allWidths_9 : decode cX10_allWidths 9 = .ok (.iconst 0, 1) := by decide +kernel
theorem dX10_allWidths_10 : decode cX10_allWidths 10 = .ok (.iaload, 1) := by decide +kernel
theorem dX10_allWidths_11 : decode cX10_allWidths 11 = .ok (.if_icmp .ge 17, 3) := by decide +kernel
theorem dX10_allWidths_14 : decode cX10_allWidths 14 = .ok (.iload_n 1, 1) := by decide +kernel
theorem dX10_allWidths_15 : decode cX10_allWidths 15 = .ok (.aload_n 0, 1) := by decide +kernel
theorem dX10_allWidths_16 : decode cX10_allWidths 16 = .ok (.iload_n 2, 1) := by decide +kernel
theorem dX10_allWidths_17 : decode cX10_allWidths 17 = .ok (.invokevirtual 122, 3) := by decide +kernel
theorem dX10_allWidths_20 : decode cX10_allWidths 20 = .ok (.iadd, 1) := by decide +kernel
theorem dX10_allWidths_21 : decode cX10_allWidths 21 = .ok (.istore_n 1, 1) := by decide +kernel
theorem dX10_allWidths_22 : decode cX10_allWidths 22 = .ok (.iinc 2 1, 3) := by decide +kernel
theorem dX10_allWidths_25 : decode cX10_allWidths 25 = .ok (.goto (-21), 3) := by decide +kernel
theorem dX10_allWidths_28 : decode cX10_allWidths 28 = .ok (.iload_n 1, 1) := by decide +kernel
theorem dX10_allWidths_29 : decode cX10_allWidths 29 = .ok (.ireturn, 1) := by decide +kernel
theorem dX10_livingIn_0 : decode cX10_livingIn 0 = .ok (.iconst 0, 1) := by decide +kernel
theorem dX10_livingIn_1 : decode cX10_livingIn 1 = .ok (.istore_n 2, 1) := by decide +kernel
theorem dX10_livingIn_2 : decode cX10_livingIn 2 = .ok (.iconst 0, 1) := by decide +kernel
theorem dX10_livingIn_3 : decode cX10_livingIn 3 = .ok (.istore_n 3, 1) := by decide +kernel
theorem dX10_livingIn_4 : decode cX10_livingIn 4 = .ok (.iload_n 3, 1) := by decide +kernel
theorem dX10_livingIn_5 : decode cX10_livingIn 5 = .ok (.aload_n 0, 1) := by decide +kernel
theorem dX10_livingIn_6 : decode cX10_livingIn 6 = .ok (.getfield 29, 3) := by decide +kernel
theorem dX10_livingIn_9 : decode cX10_livingIn 9 = .ok (.iconst 0, 1) := by decide +kernel
theorem dX10_livingIn_10 : decode cX10_livingIn 10 = .ok (.iaload, 1) := by decide +kernel
theorem dX10_livingIn_11 : decode cX10_livingIn 11 = .ok (.if_icmp .ge 32, 3) := by decide +kernel
theorem dX10_livingIn_14 : decode cX10_livingIn 14 = .ok (.iload_n 2, 1) := by decide +kernel
theorem dX10_livingIn_15 : decode cX10_livingIn 15 = .ok (.aload_n 0, 1) := by decide +kernel
theorem dX10_livingIn_16 : decode cX10_livingIn 16 = .ok (.getfield 38, 3) := by decide +kernel
theorem dX10_livingIn_19 : decode cX10_livingIn 19 = .ok (.bipush 28, 2) := by decide +kernel
theorem dX10_livingIn_21 : decode cX10_livingIn 21 = .ok (.iload_n 3, 1) := by decide +kernel
theorem dX10_livingIn_22 : decode cX10_livingIn 22 = .ok (.iadd, 1) := by decide +kernel
theorem dX10_livingIn_23 : decode cX10_livingIn 23 = .ok (.iaload, 1) := by decide +kernel
theorem dX10_livingIn_24 : decode cX10_livingIn 24 = .ok (.iload_n 1, 1) := by decide +kernel
theorem dX10_livingIn_25 : decode cX10_livingIn 25 = .ok (.if_icmp .ne 9, 3) := by decide +kernel
theorem dX10_livingIn_28 : decode cX10_livingIn 28 = .ok (.iconst 1, 1) := by decide +kernel
theorem dX10_livingIn_29 : decode cX10_livingIn 29 = .ok (.iload_n 3, 1) := by decide +kernel
theorem dX10_livingIn_30 : decode cX10_livingIn 30 = .ok (.ishl, 1) := by decide +kernel
theorem dX10_livingIn_31 : decode cX10_livingIn 31 = .ok (.goto 4, 3) := by decide +kernel
theorem dX10_livingIn_34 : decode cX10_livingIn 34 = .ok (.iconst 0, 1) := by decide +kernel
theorem dX10_livingIn_35 : decode cX10_livingIn 35 = .ok (.ior, 1) := by decide +kernel
theorem dX10_livingIn_36 : decode cX10_livingIn 36 = .ok (.istore_n 2, 1) := by decide +kernel
theorem dX10_livingIn_37 : decode cX10_livingIn 37 = .ok (.iinc 3 1, 3) := by decide +kernel
theorem dX10_livingIn_40 : decode cX10_livingIn 40 = .ok (.goto (-36), 3) := by decide +kernel
theorem dX10_livingIn_43 : decode cX10_livingIn 43 = .ok (.iload_n 2, 1) := by decide +kernel
theorem dX10_livingIn_44 : decode cX10_livingIn 44 = .ok (.ireturn, 1) := by decide +kernel
theorem dX10_doMeet_0 : decode cX10_doMeet 0 = .ok (.aload_n 0, 1) := by decide +kernel
theorem dX10_doMeet_1 : decode cX10_doMeet 1 = .ok (.getfield 20, 3) := by decide +kernel
theorem dX10_doMeet_4 : decode cX10_doMeet 4 = .ok (.iload_n 1, 1) := by decide +kernel
theorem dX10_doMeet_5 : decode cX10_doMeet 5 = .ok (.iaload, 1) := by decide +kernel
theorem dX10_doMeet_6 : decode cX10_doMeet 6 = .ok (.aload_n 0, 1) := by decide +kernel
theorem dX10_doMeet_7 : decode cX10_doMeet 7 = .ok (.getfield 20, 3) := by decide +kernel
theorem dX10_doMeet_10 : decode cX10_doMeet 10 = .ok (.iload_n 2, 1) := by decide +kernel
theorem dX10_doMeet_11 : decode cX10_doMeet 11 = .ok (.iaload, 1) := by decide +kernel
theorem dX10_doMeet_12 : decode cX10_doMeet 12 = .ok (.if_icmp .eq 48, 3) := by decide +kernel
theorem dX10_doMeet_15 : decode cX10_doMeet 15 = .ok (.aload_n 0, 1) := by decide +kernel
theorem dX10_doMeet_16 : decode cX10_doMeet 16 = .ok (.getfield 20, 3) := by decide +kernel
theorem dX10_doMeet_19 : decode cX10_doMeet 19 = .ok (.iload_n 1, 1) := by decide +kernel
theorem dX10_doMeet_20 : decode cX10_doMeet 20 = .ok (.iaload, 1) := by decide +kernel
theorem dX10_doMeet_21 : decode cX10_doMeet 21 = .ok (.aload_n 0, 1) := by decide +kernel
theorem dX10_doMeet_22 : decode cX10_doMeet 22 = .ok (.getfield 23, 3) := by decide +kernel
theorem dX10_doMeet_25 : decode cX10_doMeet 25 = .ok (.iload_n 2, 1) := by decide +kernel
theorem dX10_doMeet_26 : decode cX10_doMeet 26 = .ok (.iaload, 1) := by decide +kernel
theorem dX10_doMeet_27 : decode cX10_doMeet 27 = .ok (.if_icmp .eq 33, 3) := by decide +kernel
theorem dX10_doMeet_30 : decode cX10_doMeet 30 = .ok (.aload_n 0, 1) := by decide +kernel
theorem dX10_doMeet_31 : decode cX10_doMeet 31 = .ok (.getfield 23, 3) := by decide +kernel
theorem dX10_doMeet_34 : decode cX10_doMeet 34 = .ok (.iload_n 1, 1) := by decide +kernel
theorem dX10_doMeet_35 : decode cX10_doMeet 35 = .ok (.iaload, 1) := by decide +kernel
theorem dX10_doMeet_36 : decode cX10_doMeet 36 = .ok (.aload_n 0, 1) := by decide +kernel
theorem dX10_doMeet_37 : decode cX10_doMeet 37 = .ok (.getfield 20, 3) := by decide +kernel
theorem dX10_doMeet_40 : decode cX10_doMeet 40 = .ok (.iload_n 2, 1) := by decide +kernel
theorem dX10_doMeet_41 : decode cX10_doMeet 41 = .ok (.iaload, 1) := by decide +kernel
theorem dX10_doMeet_42 : decode cX10_doMeet 42 = .ok (.if_icmp .eq 18, 3) := by decide +kernel
theorem dX10_doMeet_45 : decode cX10_doMeet 45 = .ok (.aload_n 0, 1) := by decide +kernel
theorem dX10_doMeet_46 : decode cX10_doMeet 46 = .ok (.getfield 23, 3) := by decide +kernel
theorem dX10_doMeet_49 : decode cX10_doMeet 49 = .ok (.iload_n 1, 1) := by decide +kernel
theorem dX10_doMeet_50 : decode cX10_doMeet 50 = .ok (.iaload, 1) := by decide +kernel
theorem dX10_doMeet_51 : decode cX10_doMeet 51 = .ok (.aload_n 0, 1) := by decide +kernel
theorem dX10_doMeet_52 : decode cX10_doMeet 52 = .ok (.getfield 23, 3) := by decide +kernel
theorem dX10_doMeet_55 : decode cX10_doMeet 55 = .ok (.iload_n 2, 1) := by decide +kernel
theorem dX10_doMeet_56 : decode cX10_doMeet 56 = .ok (.iaload, 1) := by decide +kernel
theorem dX10_doMeet_57 : decode cX10_doMeet 57 = .ok (.if_icmp .ne 7, 3) := by decide +kernel
theorem dX10_doMeet_60 : decode cX10_doMeet 60 = .ok (.iconst 1, 1) := by decide +kernel
theorem dX10_doMeet_61 : decode cX10_doMeet 61 = .ok (.goto 4, 3) := by decide +kernel
theorem dX10_doMeet_64 : decode cX10_doMeet 64 = .ok (.iconst 0, 1) := by decide +kernel
theorem dX10_doMeet_65 : decode cX10_doMeet 65 = .ok (.ireturn, 1) := by decide +kernel
set_option maxRecDepth 20000 in
theorem ggX10_witnesses_X10_doMeet : GoodIn wsX10_witnesses wsX10_doMeet := goodIn_r _ [7, 8, 9, 10, 11, 12, 13, 14, 15, 16, 17, 18, 19, 20, 21, 22, 23, 24, 25, 26, 27, 28, 29, 30, 31, 32, 33, 34, 35] (by decide +kernel) (by decide +kernel)
set_option maxRecDepth 20000 in
theorem gX10_witnesses_X10_doMeet : GoodIn wsX10_witnesses (wsV RX10 126 RX10 yX10_doMeet wsX10_doMeet) := goodIn_app (goodIn_of _ (by decide +kernel)) ggX10_witnesses_X10_doMeet
theorem dX10_witnesses_0 : decode cX10_witnesses 0 = .ok (.iconst 0, 1) := by decide +kernel
theorem dX10_witnesses_1 : decode cX10_witnesses 1 = .ok (.istore_n 2, 1) := by decide +kernel
theorem dX10_witnesses_2 : decode cX10_witnesses 2 = .ok (.iconst 0, 1) := by decide +kernel
theorem dX10_witnesses_3 : decode cX10_witnesses 3 = .ok (.istore_n 3, 1) := by decide +kernel
theorem dX10_witnesses_4 : decode cX10_witnesses 4 = .ok (.iload_n 3, 1) := by decide +kernel
theorem dX10_witnesses_5 : decode cX10_witnesses 5 = .ok (.aload_n 0, 1) := by decide +kernel
theorem dX10_witnesses_6 : decode cX10_witnesses 6 = .ok (.getfield 29, 3) := by decide +kernel
theorem dX10_witnesses_9 : decode cX10_witnesses 9 = .ok (.iconst 0, 1) := by decide +kernel
theorem dX10_witnesses_10 : decode cX10_witnesses 10 = .ok (.iaload, 1) := by decide +kernel
theorem dX10_witnesses_11 : decode cX10_witnesses 11 = .ok (.if_icmp .ge 49, 3) := by decide +kernel
theorem dX10_witnesses_14 : decode cX10_witnesses 14 = .ok (.iload_n 2, 1) := by decide +kernel
theorem dX10_witnesses_15 : decode cX10_witnesses 15 = .ok (.iload_n 3, 1) := by decide +kernel
theorem dX10_witnesses_16 : decode cX10_witnesses 16 = .ok (.iload_n 1, 1) := by decide +kernel
theorem dX10_witnesses_17 : decode cX10_witnesses 17 = .ok (.if_icmp .eq 34, 3) := by decide +kernel
theorem dX10_witnesses_20 : decode cX10_witnesses 20 = .ok (.aload_n 0, 1) := by decide +kernel
theorem dX10_witnesses_21 : decode cX10_witnesses 21 = .ok (.aload_n 0, 1) := by decide +kernel
theorem dX10_witnesses_22 : decode cX10_witnesses 22 = .ok (.getfield 38, 3) := by decide +kernel
theorem dX10_witnesses_25 : decode cX10_witnesses 25 = .ok (.bipush 28, 2) := by decide +kernel
theorem dX10_witnesses_27 : decode cX10_witnesses 27 = .ok (.iload_n 1, 1) := by decide +kernel
theorem dX10_witnesses_28 : decode cX10_witnesses 28 = .ok (.iadd, 1) := by decide +kernel
theorem dX10_witnesses_29 : decode cX10_witnesses 29 = .ok (.iaload, 1) := by decide +kernel
theorem dX10_witnesses_30 : decode cX10_witnesses 30 = .ok (.aload_n 0, 1) := by decide +kernel
theorem dX10_witnesses_31 : decode cX10_witnesses 31 = .ok (.getfield 38, 3) := by decide +kernel
theorem dX10_witnesses_34 : decode cX10_witnesses 34 = .ok (.bipush 28, 2) := by decide +kernel
theorem dX10_witnesses_36 : decode cX10_witnesses 36 = .ok (.iload_n 3, 1) := by decide +kernel
theorem dX10_witnesses_37 : decode cX10_witnesses 37 = .ok (.iadd, 1) := by decide +kernel
theorem dX10_witnesses_38 : decode cX10_witnesses 38 = .ok (.iaload, 1) := by decide +kernel
theorem dX10_witnesses_39 : decode cX10_witnesses 39 = .ok (.invokevirtual 126, 3) := by decide +kernel
theorem dX10_witnesses_42 : decode cX10_witnesses 42 = .ok (.ifCond .eq 9, 3) := by decide +kernel
theorem dX10_witnesses_45 : decode cX10_witnesses 45 = .ok (.iconst 1, 1) := by decide +kernel
theorem dX10_witnesses_46 : decode cX10_witnesses 46 = .ok (.iload_n 3, 1) := by decide +kernel
theorem dX10_witnesses_47 : decode cX10_witnesses 47 = .ok (.ishl, 1) := by decide +kernel
theorem dX10_witnesses_48 : decode cX10_witnesses 48 = .ok (.goto 4, 3) := by decide +kernel
theorem dX10_witnesses_51 : decode cX10_witnesses 51 = .ok (.iconst 0, 1) := by decide +kernel
theorem dX10_witnesses_52 : decode cX10_witnesses 52 = .ok (.ior, 1) := by decide +kernel
theorem dX10_witnesses_53 : decode cX10_witnesses 53 = .ok (.istore_n 2, 1) := by decide +kernel
theorem dX10_witnesses_54 : decode cX10_witnesses 54 = .ok (.iinc 3 1, 3) := by decide +kernel
theorem dX10_witnesses_57 : decode cX10_witnesses 57 = .ok (.goto (-53), 3) := by decide +kernel
theorem dX10_witnesses_60 : decode cX10_witnesses 60 = .ok (.iload_n 2, 1) := by decide +kernel
theorem dX10_witnesses_61 : decode cX10_witnesses 61 = .ok (.ireturn, 1) := by decide +kernel
set_option maxRecDepth 20000 in
theorem ggX10_street_X10_isStreet : GoodIn wsX10_street wsX10_isStreet := goodIn_r _ [8, 9, 10, 11, 7, 12, 22, 23, 24, 25, 26, 27, 28, 29, 30, 31, 32, 33, 34, 35, 36, 37, 38, 39, 40, 41, 42, 43, 44, 45, 46, 47] (by decide +kernel) (by decide +kernel)
set_option maxRecDepth 20000 in
theorem gX10_street_X10_isStreet : GoodIn wsX10_street (wsV RX10 130 RX10 yX10_isStreet wsX10_isStreet) := goodIn_app (goodIn_of _ (by decide +kernel)) ggX10_street_X10_isStreet
set_option maxRecDepth 20000 in
theorem ggX10_street_X10_widthOf : GoodIn wsX10_street wsX10_widthOf := goodIn_r _ [16, 3, 22, 23, 24, 25, 26, 27, 28, 29, 30, 31, 32, 33, 34, 35, 36, 37, 38, 39, 40, 41, 42, 43, 44, 45, 46, 47] (by decide +kernel) (by decide +kernel)
set_option maxRecDepth 20000 in
theorem gX10_street_X10_widthOf : GoodIn wsX10_street (wsV RX10 122 RX10 yX10_widthOf wsX10_widthOf) := goodIn_app (goodIn_of _ (by decide +kernel)) ggX10_street_X10_widthOf
set_option maxRecDepth 20000 in
theorem ggX10_street_X10_livingIn : GoodIn wsX10_street wsX10_livingIn := goodIn_r _ [20, 21, 3, 22, 23, 24, 25, 26, 27, 28, 29, 30, 31, 32, 33, 34, 35, 36, 37, 38, 39, 40, 41, 42, 43, 44, 45, 46, 47] (by decide +kernel) (by decide +kernel)
set_option maxRecDepth 20000 in
theorem gX10_street_X10_livingIn : GoodIn wsX10_street (wsV RX10 133 RX10 yX10_livingIn wsX10_livingIn) := goodIn_app (goodIn_of _ (by decide +kernel)) ggX10_street_X10_livingIn
theorem dX10_street_0 : decode cX10_street 0 = .ok (.aload_n 0, 1) := by decide +kernel
theorem dX10_street_1 : decode cX10_street 1 = .ok (.iload_n 1, 1) := by decide +kernel
theorem dX10_street_2 : decode cX10_street 2 = .ok (.invokevirtual 130, 3) := by decide +kernel
theorem dX10_street_5 : decode cX10_street 5 = .ok (.ifCond .ne 5, 3) := by decide +kernel
theorem dX10_street_8 : decode cX10_street 8 = .ok (.iconst (-1), 1) := by decide +kernel
theorem dX10_street_9 : decode cX10_street 9 = .ok (.ireturn, 1) := by decide +kernel
theorem dX10_street_10 : decode cX10_street 10 = .ok (.iload_n 2, 1) := by decide +kernel
theorem dX10_street_11 : decode cX10_street 11 = .ok (.tableswitch 96 0 6 #[41, 48, 55, 64, 74, 84, 90], 41) := by decide +kernel
theorem dX10_street_52 : decode cX10_street 52 = .ok (.aload_n 0, 1) := by decide +kernel
theorem dX10_street_53 : decode cX10_street 53 = .ok (.getfield 20, 3) := by decide +kernel
theorem dX10_street_56 : decode cX10_street 56 = .ok (.iload_n 1, 1) := by decide +kernel
theorem dX10_street_57 : decode cX10_street 57 = .ok (.iaload, 1) := by decide +kernel
theorem dX10_street_58 : decode cX10_street 58 = .ok (.ireturn, 1) := by decide +kernel
theorem dX10_street_59 : decode cX10_street 59 = .ok (.aload_n 0, 1) := by decide +kernel
theorem dX10_street_60 : decode cX10_street 60 = .ok (.getfield 23, 3) := by decide +kernel
theorem dX10_street_63 : decode cX10_street 63 = .ok (.iload_n 1, 1) := by decide +kernel
theorem dX10_street_64 : decode cX10_street 64 = .ok (.iaload, 1) := by decide +kernel
theorem dX10_street_65 : decode cX10_street 65 = .ok (.ireturn, 1) := by decide +kernel
theorem dX10_street_66 : decode cX10_street 66 = .ok (.aload_n 0, 1) := by decide +kernel
theorem dX10_street_67 : decode cX10_street 67 = .ok (.getfield 38, 3) := by decide +kernel
theorem dX10_street_70 : decode cX10_street 70 = .ok (.iconst 1, 1) := by decide +kernel
theorem dX10_street_71 : decode cX10_street 71 = .ok (.iload_n 1, 1) := by decide +kernel
theorem dX10_street_72 : decode cX10_street 72 = .ok (.iadd, 1) := by decide +kernel
theorem dX10_street_73 : decode cX10_street 73 = .ok (.iaload, 1) := by decide +kernel
theorem dX10_street_74 : decode cX10_street 74 = .ok (.ireturn, 1) := by decide +kernel
theorem dX10_street_75 : decode cX10_street 75 = .ok (.aload_n 0, 1) := by decide +kernel
theorem dX10_street_76 : decode cX10_street 76 = .ok (.getfield 38, 3) := by decide +kernel
theorem dX10_street_79 : decode cX10_street 79 = .ok (.bipush 10, 2) := by decide +kernel
theorem dX10_street_81 : decode cX10_street 81 = .ok (.iload_n 1, 1) := by decide +kernel
theorem dX10_street_82 : decode cX10_street 82 = .ok (.iadd, 1) := by decide +kernel
theorem dX10_street_83 : decode cX10_street 83 = .ok (.iaload, 1) := by decide +kernel
theorem dX10_street_84 : decode cX10_street 84 = .ok (.ireturn, 1) := by decide +kernel
theorem dX10_street_85 : decode cX10_street 85 = .ok (.aload_n 0, 1) := by decide +kernel
theorem dX10_street_86 : decode cX10_street 86 = .ok (.getfield 38, 3) := by decide +kernel
theorem dX10_street_89 : decode cX10_street 89 = .ok (.bipush 19, 2) := by decide +kernel
theorem dX10_street_91 : decode cX10_street 91 = .ok (.iload_n 1, 1) := by decide +kernel
theorem dX10_street_92 : decode cX10_street 92 = .ok (.iadd, 1) := by decide +kernel
theorem dX10_street_93 : decode cX10_street 93 = .ok (.iaload, 1) := by decide +kernel
theorem dX10_street_94 : decode cX10_street 94 = .ok (.ireturn, 1) := by decide +kernel
theorem dX10_street_95 : decode cX10_street 95 = .ok (.aload_n 0, 1) := by decide +kernel
theorem dX10_street_96 : decode cX10_street 96 = .ok (.iload_n 1, 1) := by decide +kernel
theorem dX10_street_97 : decode cX10_street 97 = .ok (.invokevirtual 122, 3) := by decide +kernel
theorem dX10_street_100 : decode cX10_street 100 = .ok (.ireturn, 1) := by decide +kernel
theorem dX10_street_101 : decode cX10_street 101 = .ok (.aload_n 0, 1) := by decide +kernel
theorem dX10_street_102 : decode cX10_street 102 = .ok (.iload_n 1, 1) := by decide +kernel
theorem dX10_street_103 : decode cX10_street 103 = .ok (.invokevirtual 133, 3) := by decide +kernel
theorem dX10_street_106 : decode cX10_street 106 = .ok (.ireturn, 1) := by decide +kernel
theorem dX10_street_107 : decode cX10_street 107 = .ok (.iconst (-1), 1) := by decide +kernel
theorem dX10_street_108 : decode cX10_street 108 = .ok (.ireturn, 1) := by decide +kernel
set_option maxRecDepth 20000 in
theorem ggX10_citizen_X10_isPerson : GoodIn wsX10_citizen wsX10_isPerson := goodIn_r _ [7, 8, 9, 10, 6, 11, 22, 23, 24, 25, 26, 27, 28, 29, 30, 31, 32, 33, 34, 35, 36, 37, 38, 39, 40, 41, 42, 43, 44, 45, 46, 47] (by decide +kernel) (by decide +kernel)
set_option maxRecDepth 20000 in
theorem gX10_citizen_X10_isPerson : GoodIn wsX10_citizen (wsV RX10 136 RX10 yX10_isPerson wsX10_isPerson) := goodIn_app (goodIn_of _ (by decide +kernel)) ggX10_citizen_X10_isPerson
set_option maxRecDepth 20000 in
theorem ggX10_citizen_X10_witnesses : GoodIn wsX10_citizen wsX10_witnesses := goodIn_r _ [15, 8, 1, 16, 17, 18, 6, 19, 20, 21, 22, 23, 24, 25, 26, 27, 28, 29, 30, 31, 32, 33, 34, 35, 36, 37, 38, 39, 40, 41, 42, 43, 44, 45, 46, 47] (by decide +kernel) (by decide +kernel)
set_option maxRecDepth 20000 in
theorem gX10_citizen_X10_witnesses : GoodIn wsX10_citizen (wsV RX10 139 RX10 yX10_witnesses wsX10_witnesses) := goodIn_app (goodIn_of _ (by decide +kernel)) ggX10_citizen_X10_witnesses
theorem dX10_citizen_0 : decode cX10_citizen 0 = .ok (.aload_n 0, 1) := by decide +kernel
theorem dX10_citizen_1 : decode cX10_citizen 1 = .ok (.iload_n 1, 1) := by decide +kernel
theorem dX10_citizen_2 : decode cX10_citizen 2 = .ok (.invokevirtual 136, 3) := by decide +kernel
theorem dX10_citizen_5 : decode cX10_citizen 5 = .ok (.ifCond .ne 5, 3) := by decide +kernel
theorem dX10_citizen_8 : decode cX10_citizen 8 = .ok (.iconst (-1), 1) := by decide +kernel
theorem dX10_citizen_9 : decode cX10_citizen 9 = .ok (.ireturn, 1) := by decide +kernel
theorem dX10_citizen_10 : decode cX10_citizen 10 = .ok (.iload_n 2, 1) := by decide +kernel
theorem dX10_citizen_11 : decode cX10_citizen 11 = .ok (.tableswitch 48 0 2 #[25, 35, 42], 25) := by decide +kernel
theorem dX10_citizen_36 : decode cX10_citizen 36 = .ok (.aload_n 0, 1) := by decide +kernel
theorem dX10_citizen_37 : decode cX10_citizen 37 = .ok (.getfield 38, 3) := by decide +kernel
theorem dX10_citizen_40 : decode cX10_citizen 40 = .ok (.bipush 28, 2) := by decide +kernel
theorem dX10_citizen_42 : decode cX10_citizen 42 = .ok (.iload_n 1, 1) := by decide +kernel
theorem dX10_citizen_43 : decode cX10_citizen 43 = .ok (.iadd, 1) := by decide +kernel
theorem dX10_citizen_44 : decode cX10_citizen 44 = .ok (.iaload, 1) := by decide +kernel
theorem dX10_citizen_45 : decode cX10_citizen 45 = .ok (.ireturn, 1) := by decide +kernel
theorem dX10_citizen_46 : decode cX10_citizen 46 = .ok (.aload_n 0, 1) := by decide +kernel
theorem dX10_citizen_47 : decode cX10_citizen 47 = .ok (.getfield 35, 3) := by decide +kernel
theorem dX10_citizen_50 : decode cX10_citizen 50 = .ok (.iload_n 1, 1) := by decide +kernel
theorem dX10_citizen_51 : decode cX10_citizen 51 = .ok (.iaload, 1) := by decide +kernel
theorem dX10_citizen_52 : decode cX10_citizen 52 = .ok (.ireturn, 1) := by decide +kernel
theorem dX10_citizen_53 : decode cX10_citizen 53 = .ok (.aload_n 0, 1) := by decide +kernel
theorem dX10_citizen_54 : decode cX10_citizen 54 = .ok (.iload_n 1, 1) := by decide +kernel
theorem dX10_citizen_55 : decode cX10_citizen 55 = .ok (.invokevirtual 139, 3) := by decide +kernel
theorem dX10_citizen_58 : decode cX10_citizen 58 = .ok (.ireturn, 1) := by decide +kernel
theorem dX10_citizen_59 : decode cX10_citizen 59 = .ok (.iconst (-1), 1) := by decide +kernel
theorem dX10_citizen_60 : decode cX10_citizen 60 = .ok (.ireturn, 1) := by decide +kernel
theorem dX10_know_0 : decode cX10_know 0 = .ok (.aload_n 0, 1) := by decide +kernel
theorem dX10_know_1 : decode cX10_know 1 = .ok (.getfield 41, 3) := by decide +kernel
theorem dX10_know_4 : decode cX10_know 4 = .ok (.iconst 0, 1) := by decide +kernel
theorem dX10_know_5 : decode cX10_know 5 = .ok (.iaload, 1) := by decide +kernel
theorem dX10_know_6 : decode cX10_know 6 = .ok (.bipush 10, 2) := by decide +kernel
theorem dX10_know_8 : decode cX10_know 8 = .ok (.if_icmp .ne 43, 3) := by decide +kernel
theorem dX10_know_11 : decode cX10_know 11 = .ok (.iconst 0, 1) := by decide +kernel
theorem dX10_know_12 : decode cX10_know 12 = .ok (.istore_n 1, 1) := by decide +kernel
theorem dX10_know_13 : decode cX10_know 13 = .ok (.iload_n 1, 1) := by decide +kernel
theorem dX10_know_14 : decode cX10_know 14 = .ok (.sipush 306, 3) := by decide +kernel
theorem dX10_know_17 : decode cX10_know 17 = .ok (.if_icmp .ge 24, 3) := by decide +kernel
theorem dX10_know_20 : decode cX10_know 20 = .ok (.aload_n 0, 1) := by decide +kernel
theorem dX10_know_21 : decode cX10_know 21 = .ok (.getfield 44, 3) := by decide +kernel
theorem dX10_know_24 : decode cX10_know 24 = .ok (.iload_n 1, 1) := by decide +kernel
theorem dX10_know_25 : decode cX10_know 25 = .ok (.aload_n 0, 1) := by decide +kernel
theorem dX10_know_26 : decode cX10_know 26 = .ok (.getfield 44, 3) := by decide +kernel
theorem dX10_know_29 : decode cX10_know 29 = .ok (.bipush 34, 2) := by decide +kernel
theorem dX10_know_31 : decode cX10_know 31 = .ok (.iload_n 1, 1) := by decide +kernel
theorem dX10_know_32 : decode cX10_know 32 = .ok (.iadd, 1) := by decide +kernel
theorem dX10_know_33 : decode cX10_know 33 = .ok (.iaload, 1) := by decide +kernel
theorem dX10_know_34 : decode cX10_know 34 = .ok (.iastore, 1) := by decide +kernel
theorem dX10_know_35 : decode cX10_know 35 = .ok (.iinc 1 1, 3) := by decide +kernel
theorem dX10_know_38 : decode cX10_know 38 = .ok (.goto (-25), 3) := by decide +kernel
theorem dX10_know_41 : decode cX10_know 41 = .ok (.aload_n 0, 1) := by decide +kernel
theorem dX10_know_42 : decode cX10_know 42 = .ok (.getfield 41, 3) := by decide +kernel
theorem dX10_know_45 : decode cX10_know 45 = .ok (.iconst 0, 1) := by decide +kernel
theorem dX10_know_46 : decode cX10_know 46 = .ok (.dup2, 1) := by decide +kernel
theorem dX10_know_47 : decode cX10_know 47 = .ok (.iaload, 1) := by decide +kernel
theorem dX10_know_48 : decode cX10_know 48 = .ok (.iconst 1, 1) := by decide +kernel
theorem dX10_know_49 : decode cX10_know 49 = .ok (.isub, 1) := by decide +kernel
theorem dX10_know_50 : decode cX10_know 50 = .ok (.iastore, 1) := by decide +kernel
theorem dX10_know_51 : decode cX10_know 51 = .ok (.iconst 0, 1) := by decide +kernel
theorem dX10_know_52 : decode cX10_know 52 = .ok (.istore_n 1, 1) := by decide +kernel
theorem dX10_know_53 : decode cX10_know 53 = .ok (.iload_n 1, 1) := by decide +kernel
theorem dX10_know_54 : decode cX10_know 54 = .ok (.bipush 34, 2) := by decide +kernel
theorem dX10_know_56 : decode cX10_know 56 = .ok (.if_icmp .ge 31, 3) := by decide +kernel
theorem dX10_know_59 : decode cX10_know 59 = .ok (.aload_n 0, 1) := by decide +kernel
theorem dX10_know_60 : decode cX10_know 60 = .ok (.getfield 44, 3) := by decide +kernel
theorem dX10_know_63 : decode cX10_know 63 = .ok (.bipush 34, 2) := by decide +kernel
theorem dX10_know_65 : decode cX10_know 65 = .ok (.aload_n 0, 1) := by decide +kernel
theorem dX10_know_66 : decode cX10_know 66 = .ok (.getfield 41, 3) := by decide +kernel
theorem dX10_know_69 : decode cX10_know 69 = .ok (.iconst 0, 1) := by decide +kernel
theorem dX10_know_70 : decode cX10_know 70 = .ok (.iaload, 1) := by decide +kernel
theorem dX10_know_71 : decode cX10_know 71 = .ok (.imul, 1) := by decide +kernel
theorem dX10_know_72 : decode cX10_know 72 = .ok (.iload_n 1, 1) := by decide +kernel
theorem dX10_know_73 : decode cX10_know 73 = .ok (.iadd, 1) := by decide +kernel
theorem dX10_know_74 : decode cX10_know 74 = .ok (.aload_n 0, 1) := by decide +kernel
theorem dX10_know_75 : decode cX10_know 75 = .ok (.getfield 38, 3) := by decide +kernel
theorem dX10_know_78 : decode cX10_know 78 = .ok (.iload_n 1, 1) := by decide +kernel
theorem dX10_know_79 : decode cX10_know 79 = .ok (.iaload, 1) := by decide +kernel
theorem dX10_know_80 : decode cX10_know 80 = .ok (.iastore, 1) := by decide +kernel
theorem dX10_know_81 : decode cX10_know 81 = .ok (.iinc 1 1, 3) := by decide +kernel
theorem dX10_know_84 : decode cX10_know 84 = .ok (.goto (-31), 3) := by decide +kernel
theorem dX10_know_87 : decode cX10_know 87 = .ok (.aload_n 0, 1) := by decide +kernel
theorem dX10_know_88 : decode cX10_know 88 = .ok (.getfield 41, 3) := by decide +kernel
theorem dX10_know_91 : decode cX10_know 91 = .ok (.iconst 0, 1) := by decide +kernel
theorem dX10_know_92 : decode cX10_know 92 = .ok (.dup2, 1) := by decide +kernel
theorem dX10_know_93 : decode cX10_know 93 = .ok (.iaload, 1) := by decide +kernel
theorem dX10_know_94 : decode cX10_know 94 = .ok (.iconst 1, 1) := by decide +kernel
theorem dX10_know_95 : decode cX10_know 95 = .ok (.iadd, 1) := by decide +kernel
theorem dX10_know_96 : decode cX10_know 96 = .ok (.iastore, 1) := by decide +kernel
theorem dX10_know_97 : decode cX10_know 97 = .ok (.return_, 1) := by decide +kernel
set_option maxRecDepth 20000 in
theorem ggX10_does_X10_isPerson : GoodIn wsX10_does wsX10_isPerson := goodIn_r _ [6, 7, 8, 9, 5, 10, 34, 35, 36, 37, 38, 39, 40, 41, 42, 43, 44, 45, 46, 47, 48, 49, 50, 51, 52, 53, 54, 55, 56, 57, 58, 59] (by decide +kernel) (by decide +kernel)
set_option maxRecDepth 20000 in
theorem gX10_does_X10_isPerson : GoodIn wsX10_does (wsV RX10 136 RX10 yX10_isPerson wsX10_isPerson) := goodIn_app (goodIn_of _ (by decide +kernel)) ggX10_does_X10_isPerson
set_option maxRecDepth 20000 in
theorem ggX10_does_X10_in : GoodIn wsX10_does wsX10_in := goodIn_r _ [10] (by decide +kernel) (by decide +kernel)
set_option maxRecDepth 20000 in
theorem gX10_does_X10_in : GoodIn wsX10_does (va_wsS RX10 63 yX10_in wsX10_in) := goodIn_app (goodIn_of _ (by decide +kernel)) ggX10_does_X10_in
set_option maxRecDepth 20000 in
theorem ggX10_does_X10_know : GoodIn wsX10_does wsX10_know := goodIn_r _ [14, 15, 16, 1, 34, 35, 36, 37, 38, 39, 40, 41, 42, 43, 44, 45, 46, 47, 48, 49, 50, 51, 52, 53, 54, 55, 56, 57, 58, 59] (by decide +kernel) (by decide +kernel)
set_option maxRecDepth 20000 in
theorem gX10_does_X10_know : GoodIn wsX10_does (wsV RX10 142 RX10 yX10_know wsX10_know) := goodIn_app (goodIn_of _ (by decide +kernel)) ggX10_does_X10_know
set_option maxRecDepth 20000 in
theorem ggX10_does_X10_witnesses : GoodIn wsX10_does wsX10_witnesses := goodIn_r _ [20, 7, 1, 21, 22, 23, 5, 24, 25, 26, 34, 35, 36, 37, 38, 39, 40, 41, 42, 43, 44, 45, 46, 47, 48, 49, 50, 51, 52, 53, 54, 55, 56, 57, 58, 59] (by decide +kernel) (by decide +kernel)
set_option maxRecDepth 20000 in
theorem gX10_does_X10_witnesses : GoodIn wsX10_does (wsV RX10 139 RX10 yX10_witnesses wsX10_witnesses) := goodIn_app (goodIn_of _ (by decide +kernel)) ggX10_does_X10_witnesses
set_option maxRecDepth 20000 in
theorem ggX10_does_X10_bitsOf : GoodIn wsX10_does wsX10_bitsOf := goodIn_r _ [29] (by decide +kernel) (by decide +kernel)
set_option maxRecDepth 20000 in
theorem gX10_does_X10_bitsOf : GoodIn wsX10_does (va_wsS RX10 145 yX10_bitsOf wsX10_bitsOf) := goodIn_app (goodIn_of _ (by decide +kernel)) ggX10_does_X10_bitsOf
set_option maxRecDepth 20000 in
theorem ggX10_does_X10_widthOf : GoodIn wsX10_does wsX10_widthOf := goodIn_r _ [33, 1, 34, 35, 36, 37, 38, 39, 40, 41, 42, 43, 44, 45, 46, 47, 48, 49, 50, 51, 52, 53, 54, 55, 56, 57, 58, 59] (by decide +kernel) (by decide +kernel)
set_option maxRecDepth 20000 in
theorem gX10_does_X10_widthOf : GoodIn wsX10_does (wsV RX10 122 RX10 yX10_widthOf wsX10_widthOf) := goodIn_app (goodIn_of _ (by decide +kernel)) ggX10_does_X10_widthOf
theorem dX10_does_0 : decode cX10_does 0 = .ok (.aload_n 0, 1) := by decide +kernel
theorem dX10_does_1 : decode cX10_does 1 = .ok (.iload_n 1, 1) := by decide +kernel
theorem dX10_does_2 : decode cX10_does 2 = .ok (.invokevirtual 136, 3) := by decide +kernel
theorem dX10_does_5 : decode cX10_does 5 = .ok (.ifCond .eq 22, 3) := by decide +kernel
theorem dX10_does_8 : decode cX10_does 8 = .ok (.iload_n 2, 1) := by decide +kernel
theorem dX10_does_9 : decode cX10_does 9 = .ok (.iconst 1, 1) := by decide +kernel
theorem dX10_does_10 : decode cX10_does 10 = .ok (.bipush 9, 2) := by decide +kernel
theorem dX10_does_12 : decode cX10_does 12 = .ok (.invokestatic 63, 3) := by decide +kernel
theorem dX10_does_15 : decode cX10_does 15 = .ok (.ifCond .eq 12, 3) := by decide +kernel
theorem dX10_does_18 : decode cX10_does 18 = .ok (.iload_n 3, 1) := by decide +kernel
theorem dX10_does_19 : decode cX10_does 19 = .ok (.iconst 0, 1) := by decide +kernel
theorem dX10_does_20 : decode cX10_does 20 = .ok (.iconst 1, 1) := by decide +kernel
theorem dX10_does_21 : decode cX10_does 21 = .ok (.invokestatic 63, 3) := by decide +kernel
theorem dX10_does_24 : decode cX10_does 24 = .ok (.ifCond .ne 5, 3) := by decide +kernel
theorem dX10_does_27 : decode cX10_does 27 = .ok (.iconst (-1), 1) := by decide +kernel
theorem dX10_does_28 : decode cX10_does 28 = .ok (.ireturn, 1) := by decide +kernel
theorem dX10_does_29 : decode cX10_does 29 = .ok (.aload_n 0, 1) := by decide +kernel
theorem dX10_does_30 : decode cX10_does 30 = .ok (.invokevirtual 142, 3) := by decide +kernel
theorem dX10_does_33 : decode cX10_does 33 = .ok (.aload_n 0, 1) := by decide +kernel
theorem dX10_does_34 : decode cX10_does 34 = .ok (.getfield 38, 3) := by decide +kernel
theorem dX10_does_37 : decode cX10_does 37 = .ok (.bipush 28, 2) := by decide +kernel
theorem dX10_does_39 : decode cX10_does 39 = .ok (.iload_n 1, 1) := by decide +kernel
theorem dX10_does_40 : decode cX10_does 40 = .ok (.iadd, 1) := by decide +kernel
theorem dX10_does_41 : decode cX10_does 41 = .ok (.iaload, 1) := by decide +kernel
theorem dX10_does_42 : decode cX10_does 42 = .ok (.istore 4, 2) := by decide +kernel
theorem dX10_does_44 : decode cX10_does 44 = .ok (.aload_n 0, 1) := by decide +kernel
theorem dX10_does_45 : decode cX10_does 45 = .ok (.iload_n 1, 1) := by decide +kernel
theorem dX10_does_46 : decode cX10_does 46 = .ok (.invokevirtual 139, 3) := by decide +kernel
theorem dX10_does_49 : decode cX10_does 49 = .ok (.invokestatic 145, 3) := by decide +kernel
theorem dX10_does_52 : decode cX10_does 52 = .ok (.iconst 2, 1) := by decide +kernel
theorem dX10_does_53 : decode cX10_does 53 = .ok (.if_icmp .lt 7, 3) := by decide +kernel
theorem dX10_does_56 : decode cX10_does 56 = .ok (.iconst 1, 1) := by decide +kernel
theorem dX10_does_57 : decode cX10_does 57 = .ok (.goto 4, 3) := by decide +kernel
theorem dX10_does_60 : decode cX10_does 60 = .ok (.iconst 0, 1) := by decide +kernel
theorem dX10_does_61 : decode cX10_does 61 = .ok (.istore 5, 2) := by decide +kernel
theorem dX10_does_63 : decode cX10_does 63 = .ok (.iload 5, 2) := by decide +kernel
theorem dX10_does_65 : decode cX10_does 65 = .ok (.ifCond .eq 16, 3) := by decide +kernel
theorem dX10_does_68 : decode cX10_does 68 = .ok (.iload_n 3, 1) := by decide +kernel
theorem dX10_does_69 : decode cX10_does 69 = .ok (.ifCond .ne 7, 3) := by decide +kernel
theorem dX10_does_72 : decode cX10_does 72 = .ok (.iconst 1, 1) := by decide +kernel
theorem dX10_does_73 : decode cX10_does 73 = .ok (.goto 10, 3) := by decide +kernel
theorem dX10_does_76 : decode cX10_does 76 = .ok (.bipush 19, 2) := by decide +kernel
theorem dX10_does_78 : decode cX10_does 78 = .ok (.goto 5, 3) := by decide +kernel
theorem dX10_does_81 : decode cX10_does 81 = .ok (.bipush 10, 2) := by decide +kernel
theorem dX10_does_83 : decode cX10_does 83 = .ok (.istore 6, 2) := by decide +kernel
theorem dX10_does_85 : decode cX10_does 85 = .ok (.iload 5, 2) := by decide +kernel
theorem dX10_does_87 : decode cX10_does 87 = .ok (.ifCond .ne 7, 3) := by decide +kernel
theorem dX10_does_90 : decode cX10_does 90 = .ok (.iload_n 3, 1) := by decide +kernel
theorem dX10_does_91 : decode cX10_does 91 = .ok (.ifCond .ne 28, 3) := by decide +kernel
theorem dX10_does_94 : decode cX10_does 94 = .ok (.aload_n 0, 1) := by decide +kernel
theorem dX10_does_95 : decode cX10_does 95 = .ok (.getfield 38, 3) := by decide +kernel
theorem dX10_does_98 : decode cX10_does 98 = .ok (.iload 6, 2) := by decide +kernel
theorem dX10_does_100 : decode cX10_does 100 = .ok (.iload 4, 2) := by decide +kernel
theorem dX10_does_102 : decode cX10_does 102 = .ok (.iadd, 1) := by decide +kernel
theorem dX10_does_103 : decode cX10_does 103 = .ok (.iaload, 1) := by decide +kernel
theorem dX10_does_104 : decode cX10_does 104 = .ok (.iload_n 2, 1) := by decide +kernel
theorem dX10_does_105 : decode cX10_does 105 = .ok (.if_icmp .ge 14, 3) := by decide +kernel
theorem dX10_does_108 : decode cX10_does 108 = .ok (.aload_n 0, 1) := by decide +kernel
theorem dX10_does_109 : decode cX10_does 109 = .ok (.getfield 38, 3) := by decide +kernel
theorem dX10_does_112 : decode cX10_does 112 = .ok (.iload 6, 2) := by decide +kernel
theorem dX10_does_114 : decode cX10_does 114 = .ok (.iload 4, 2) := by decide +kernel
theorem dX10_does_116 : decode cX10_does 116 = .ok (.iadd, 1) := by decide +kernel
theorem dX10_does_117 : decode cX10_does 117 = .ok (.iload_n 2, 1) := by decide +kernel
theorem dX10_does_118 : decode cX10_does 118 = .ok (.iastore, 1) := by decide +kernel
theorem dX10_does_119 : decode cX10_does 119 = .ok (.aload_n 0, 1) := by decide +kernel
theorem dX10_does_120 : decode cX10_does 120 = .ok (.iload 4, 2) := by decide +kernel
theorem dX10_does_122 : decode cX10_does 122 = .ok (.invokevirtual 122, 3) := by decide +kernel
theorem dX10_does_125 : decode cX10_does 125 = .ok (.ireturn, 1) := by decide +kernel
set_option maxRecDepth 20000 in
theorem ggX10_wills_X10_isStreet : GoodIn wsX10_wills wsX10_isStreet := goodIn_r _ [6, 7, 8, 9, 5, 10, 17, 18, 19, 20, 21, 22, 23, 24, 25, 26, 27, 28, 29, 30, 31, 32, 33, 34, 35, 36, 37, 38, 39, 40, 41, 42] (by decide +kernel) (by decide +kernel)
set_option maxRecDepth 20000 in
theorem gX10_wills_X10_isStreet : GoodIn wsX10_wills (wsV RX10 130 RX10 yX10_isStreet wsX10_isStreet) := goodIn_app (goodIn_of _ (by decide +kernel)) ggX10_wills_X10_isStreet
set_option maxRecDepth 20000 in
theorem ggX10_wills_X10_know : GoodIn wsX10_wills wsX10_know := goodIn_r _ [14, 15, 16, 1, 17, 18, 19, 20, 21, 22, 23, 24, 25, 26, 27, 28, 29, 30, 31, 32, 33, 34, 35, 36, 37, 38, 39, 40, 41, 42] (by decide +kernel) (by decide +kernel)
set_option maxRecDepth 20000 in
theorem gX10_wills_X10_know : GoodIn wsX10_wills (wsV RX10 142 RX10 yX10_know wsX10_know) := goodIn_app (goodIn_of _ (by decide +kernel)) ggX10_wills_X10_know
theorem dX10_wills_0 : decode cX10_wills 0 = .ok (.aload_n 0, 1) := by decide +kernel
theorem dX10_wills_1 : decode cX10_wills 1 = .ok (.iload_n 1, 1) := by decide +kernel
theorem dX10_wills_2 : decode cX10_wills 2 = .ok (.invokevirtual 130, 3) := by decide +kernel
theorem dX10_wills_5 : decode cX10_wills 5 = .ok (.ifCond .ne 5, 3) := by decide +kernel
theorem dX10_wills_8 : decode cX10_wills 8 = .ok (.iconst (-1), 1) := by decide +kernel
theorem dX10_wills_9 : decode cX10_wills 9 = .ok (.ireturn, 1) := by decide +kernel
theorem dX10_wills_10 : decode cX10_wills 10 = .ok (.aload_n 0, 1) := by decide +kernel
theorem dX10_wills_11 : decode cX10_wills 11 = .ok (.getfield 38, 3) := by decide +kernel
theorem dX10_wills_14 : decode cX10_wills 14 = .ok (.bipush 10, 2) := by decide +kernel
theorem dX10_wills_16 : decode cX10_wills 16 = .ok (.iload_n 1, 1) := by decide +kernel
theorem dX10_wills_17 : decode cX10_wills 17 = .ok (.iadd, 1) := by decide +kernel
theorem dX10_wills_18 : decode cX10_wills 18 = .ok (.iaload, 1) := by decide +kernel
theorem dX10_wills_19 : decode cX10_wills 19 = .ok (.istore_n 2, 1) := by decide +kernel
theorem dX10_wills_20 : decode cX10_wills 20 = .ok (.iload_n 2, 1) := by decide +kernel
theorem dX10_wills_21 : decode cX10_wills 21 = .ok (.ifCond .ne 6, 3) := by decide +kernel
theorem dX10_wills_24 : decode cX10_wills 24 = .ok (.bipush (-2), 2) := by decide +kernel
theorem dX10_wills_26 : decode cX10_wills 26 = .ok (.ireturn, 1) := by decide +kernel
theorem dX10_wills_27 : decode cX10_wills 27 = .ok (.aload_n 0, 1) := by decide +kernel
theorem dX10_wills_28 : decode cX10_wills 28 = .ok (.invokevirtual 142, 3) := by decide +kernel
theorem dX10_wills_31 : decode cX10_wills 31 = .ok (.aload_n 0, 1) := by decide +kernel
theorem dX10_wills_32 : decode cX10_wills 32 = .ok (.getfield 38, 3) := by decide +kernel
theorem dX10_wills_35 : decode cX10_wills 35 = .ok (.iconst 1, 1) := by decide +kernel
theorem dX10_wills_36 : decode cX10_wills 36 = .ok (.iload_n 1, 1) := by decide +kernel
theorem dX10_wills_37 : decode cX10_wills 37 = .ok (.iadd, 1) := by decide +kernel
theorem dX10_wills_38 : decode cX10_wills 38 = .ok (.iload_n 2, 1) := by decide +kernel
theorem dX10_wills_39 : decode cX10_wills 39 = .ok (.aload_n 0, 1) := by decide +kernel
theorem dX10_wills_40 : decode cX10_wills 40 = .ok (.getfield 38, 3) := by decide +kernel
theorem dX10_wills_43 : decode cX10_wills 43 = .ok (.iconst 1, 1) := by decide +kernel
theorem dX10_wills_44 : decode cX10_wills 44 = .ok (.iload_n 1, 1) := by decide +kernel
theorem dX10_wills_45 : decode cX10_wills 45 = .ok (.iadd, 1) := by decide +kernel
theorem dX10_wills_46 : decode cX10_wills 46 = .ok (.iaload, 1) := by decide +kernel
theorem dX10_wills_47 : decode cX10_wills 47 = .ok (.if_icmp .le 7, 3) := by decide +kernel
theorem dX10_wills_50 : decode cX10_wills 50 = .ok (.iload_n 2, 1) := by decide +kernel
theorem dX10_wills_51 : decode cX10_wills 51 = .ok (.goto 11, 3) := by decide +kernel
theorem dX10_wills_54 : decode cX10_wills 54 = .ok (.aload_n 0, 1) := by decide +kernel
theorem dX10_wills_55 : decode cX10_wills 55 = .ok (.getfield 38, 3) := by decide +kernel
theorem dX10_wills_58 : decode cX10_wills 58 = .ok (.iconst 1, 1) := by decide +kernel
theorem dX10_wills_59 : decode cX10_wills 59 = .ok (.iload_n 1, 1) := by decide +kernel
theorem dX10_wills_60 : decode cX10_wills 60 = .ok (.iadd, 1) := by decide +kernel
theorem dX10_wills_61 : decode cX10_wills 61 = .ok (.iaload, 1) := by decide +kernel
theorem dX10_wills_62 : decode cX10_wills 62 = .ok (.iastore, 1) := by decide +kernel
theorem dX10_wills_63 : decode cX10_wills 63 = .ok (.aload_n 0, 1) := by decide +kernel
theorem dX10_wills_64 : decode cX10_wills 64 = .ok (.getfield 38, 3) := by decide +kernel
theorem dX10_wills_67 : decode cX10_wills 67 = .ok (.bipush 10, 2) := by decide +kernel
theorem dX10_wills_69 : decode cX10_wills 69 = .ok (.iload_n 1, 1) := by decide +kernel
theorem dX10_wills_70 : decode cX10_wills 70 = .ok (.iadd, 1) := by decide +kernel
theorem dX10_wills_71 : decode cX10_wills 71 = .ok (.iconst 0, 1) := by decide +kernel
theorem dX10_wills_72 : decode cX10_wills 72 = .ok (.iastore, 1) := by decide +kernel
theorem dX10_wills_73 : decode cX10_wills 73 = .ok (.iload_n 2, 1) := by decide +kernel
theorem dX10_wills_74 : decode cX10_wills 74 = .ok (.ireturn, 1) := by decide +kernel
set_option maxRecDepth 20000 in
theorem ggX10_moves_X10_isPerson : GoodIn wsX10_moves wsX10_isPerson := goodIn_r _ [6, 7, 8, 9, 5, 10, 22, 23, 24, 25, 26, 27, 28, 29, 30, 31, 32, 33, 34, 35, 36, 37, 38, 39, 40, 41, 42, 43, 44, 45, 46, 47] (by decide +kernel) (by decide +kernel)
set_option maxRecDepth 20000 in
theorem gX10_moves_X10_isPerson : GoodIn wsX10_moves (wsV RX10 136 RX10 yX10_isPerson wsX10_isPerson) := goodIn_app (goodIn_of _ (by decide +kernel)) ggX10_moves_X10_isPerson
set_option maxRecDepth 20000 in
theorem ggX10_moves_X10_isStreet : GoodIn wsX10_moves wsX10_isStreet := goodIn_r _ [14, 15, 8, 9, 5, 10, 22, 23, 24, 25, 26, 27, 28, 29, 30, 31, 32, 33, 34, 35, 36, 37, 38, 39, 40, 41, 42, 43, 44, 45, 46, 47] (by decide +kernel) (by decide +kernel)
set_option maxRecDepth 20000 in
theorem gX10_moves_X10_isStreet : GoodIn wsX10_moves (wsV RX10 130 RX10 yX10_isStreet wsX10_isStreet) := goodIn_app (goodIn_of _ (by decide +kernel)) ggX10_moves_X10_isStreet
set_option maxRecDepth 20000 in
theorem ggX10_moves_X10_know : GoodIn wsX10_moves wsX10_know := goodIn_r _ [19, 20, 21, 1, 22, 23, 24, 25, 26, 27, 28, 29, 30, 31, 32, 33, 34, 35, 36, 37, 38, 39, 40, 41, 42, 43, 44, 45, 46, 47] (by decide +kernel) (by decide +kernel)
set_option maxRecDepth 20000 in
theorem gX10_moves_X10_know : GoodIn wsX10_moves (wsV RX10 142 RX10 yX10_know wsX10_know) := goodIn_app (goodIn_of _ (by decide +kernel)) ggX10_moves_X10_know
theorem dX10_moves_0 : decode cX10_moves 0 = .ok (.aload_n 0, 1) := by decide +kernel
theorem dX10_moves_1 : decode cX10_moves 1 = .ok (.iload_n 1, 1) := by decide +kernel
theorem dX10_moves_2 : decode cX10_moves 2 = .ok (.invokevirtual 136, 3) := by decide +kernel
theorem dX10_moves_5 : decode cX10_moves 5 = .ok (.ifCond .eq 11, 3) := by decide +kernel
theorem dX10_moves_8 : decode cX10_moves 8 = .ok (.aload_n 0, 1) := by decide +kernel
theorem dX10_moves_9 : decode cX10_moves 9 = .ok (.iload_n 2, 1) := by decide +kernel
theorem dX10_moves_10 : decode cX10_moves 10 = .ok (.invokevirtual 130, 3) := by decide +kernel
theorem dX10_moves_13 : decode cX10_moves 13 = .ok (.ifCond .ne 5, 3) := by decide +kernel
theorem dX10_moves_16 : decode cX10_moves 16 = .ok (.iconst (-1), 1) := by decide +kernel
theorem dX10_moves_17 : decode cX10_moves 17 = .ok (.ireturn, 1) := by decide +kernel
theorem dX10_moves_18 : decode cX10_moves 18 = .ok (.aload_n 0, 1) := by decide +kernel
theorem dX10_moves_19 : decode cX10_moves 19 = .ok (.getfield 38, 3) := by decide +kernel
theorem dX10_moves_22 : decode cX10_moves 22 = .ok (.bipush 28, 2) := by decide +kernel
theorem dX10_moves_24 : decode cX10_moves 24 = .ok (.iload_n 1, 1) := by decide +kernel
theorem dX10_moves_25 : decode cX10_moves 25 = .ok (.iadd, 1) := by decide +kernel
theorem dX10_moves_26 : decode cX10_moves 26 = .ok (.iaload, 1) := by decide +kernel
theorem dX10_moves_27 : decode cX10_moves 27 = .ok (.istore_n 3, 1) := by decide +kernel
theorem dX10_moves_28 : decode cX10_moves 28 = .ok (.iload_n 3, 1) := by decide +kernel
theorem dX10_moves_29 : decode cX10_moves 29 = .ok (.iload_n 2, 1) := by decide +kernel
theorem dX10_moves_30 : decode cX10_moves 30 = .ok (.if_icmp .ne 6, 3) := by decide +kernel
theorem dX10_moves_33 : decode cX10_moves 33 = .ok (.bipush (-2), 2) := by decide +kernel
theorem dX10_moves_35 : decode cX10_moves 35 = .ok (.ireturn, 1) := by decide +kernel
theorem dX10_moves_36 : decode cX10_moves 36 = .ok (.aload_n 0, 1) := by decide +kernel
theorem dX10_moves_37 : decode cX10_moves 37 = .ok (.invokevirtual 142, 3) := by decide +kernel
theorem dX10_moves_40 : decode cX10_moves 40 = .ok (.aload_n 0, 1) := by decide +kernel
theorem dX10_moves_41 : decode cX10_moves 41 = .ok (.getfield 38, 3) := by decide +kernel
theorem dX10_moves_44 : decode cX10_moves 44 = .ok (.bipush 28, 2) := by decide +kernel
theorem dX10_moves_46 : decode cX10_moves 46 = .ok (.iload_n 1, 1) := by decide +kernel
theorem dX10_moves_47 : decode cX10_moves 47 = .ok (.iadd, 1) := by decide +kernel
theorem dX10_moves_48 : decode cX10_moves 48 = .ok (.iload_n 2, 1) := by decide +kernel
theorem dX10_moves_49 : decode cX10_moves 49 = .ok (.iastore, 1) := by decide +kernel
theorem dX10_moves_50 : decode cX10_moves 50 = .ok (.iload_n 3, 1) := by decide +kernel
theorem dX10_moves_51 : decode cX10_moves 51 = .ok (.ireturn, 1) := by decide +kernel
set_option maxRecDepth 20000 in
theorem ggX10_night_X10_in : GoodIn wsX10_night wsX10_in := goodIn_r _ [5] (by decide +kernel) (by decide +kernel)
set_option maxRecDepth 20000 in
theorem gX10_night_X10_in : GoodIn wsX10_night (va_wsS RX10 63 yX10_in wsX10_in) := goodIn_app (goodIn_of _ (by decide +kernel)) ggX10_night_X10_in
set_option maxRecDepth 20000 in
theorem ggX10_night_X10_know : GoodIn wsX10_night wsX10_know := goodIn_r _ [9, 10, 11, 1, 21, 22, 23, 24, 25, 26, 27, 28, 29, 30, 31, 32, 33, 34, 35, 36, 37, 38, 39, 40, 41, 42, 43, 44, 45, 46] (by decide +kernel) (by decide +kernel)
set_option maxRecDepth 20000 in
theorem gX10_night_X10_know : GoodIn wsX10_night (wsV RX10 142 RX10 yX10_know wsX10_know) := goodIn_app (goodIn_of _ (by decide +kernel)) ggX10_night_X10_know
set_option maxRecDepth 20000 in
theorem ggX10_night_X10_allWidths : GoodIn wsX10_night wsX10_allWidths := goodIn_r _ [15, 16, 17, 18, 19, 4, 20, 1, 21, 22, 23, 24, 25, 26, 27, 28, 29, 30, 31, 32, 33, 34, 35, 36, 37, 38, 39, 40, 41, 42, 43, 44, 45, 46] (by decide +kernel) (by decide +kernel)
set_option maxRecDepth 20000 in
theorem gX10_night_X10_allWidths : GoodIn wsX10_night (wsV RX10 148 RX10 yX10_allWidths wsX10_allWidths) := goodIn_app (goodIn_of _ (by decide +kernel)) ggX10_night_X10_allWidths
theorem dX10_night_0 : decode cX10_night 0 = .ok (.iload_n 1, 1) := by decide +kernel
theorem dX10_night_1 : decode cX10_night 1 = .ok (.iconst 0, 1) := by decide +kernel
theorem dX10_night_2 : decode cX10_night 2 = .ok (.iconst 1, 1) := by decide +kernel
theorem dX10_night_3 : decode cX10_night 3 = .ok (.invokestatic 63, 3) := by decide +kernel
theorem dX10_night_6 : decode cX10_night 6 = .ok (.ifCond .ne 5, 3) := by decide +kernel
theorem dX10_night_9 : decode cX10_night 9 = .ok (.iconst (-1), 1) := by decide +kernel
theorem dX10_night_10 : decode cX10_night 10 = .ok (.ireturn, 1) := by decide +kernel
theorem dX10_night_11 : decode cX10_night 11 = .ok (.aload_n 0, 1) := by decide +kernel
theorem dX10_night_12 : decode cX10_night 12 = .ok (.getfield 38, 3) := by decide +kernel
theorem dX10_night_15 : decode cX10_night 15 = .ok (.iconst 0, 1) := by decide +kernel
theorem dX10_night_16 : decode cX10_night 16 = .ok (.iaload, 1) := by decide +kernel
theorem dX10_night_17 : decode cX10_night 17 = .ok (.iload_n 1, 1) := by decide +kernel
theorem dX10_night_18 : decode cX10_night 18 = .ok (.if_icmp .ne 6, 3) := by decide +kernel
theorem dX10_night_21 : decode cX10_night 21 = .ok (.bipush (-2), 2) := by decide +kernel
theorem dX10_night_23 : decode cX10_night 23 = .ok (.ireturn, 1) := by decide +kernel
theorem dX10_night_24 : decode cX10_night 24 = .ok (.aload_n 0, 1) := by decide +kernel
theorem dX10_night_25 : decode cX10_night 25 = .ok (.invokevirtual 142, 3) := by decide +kernel
theorem dX10_night_28 : decode cX10_night 28 = .ok (.aload_n 0, 1) := by decide +kernel
theorem dX10_night_29 : decode cX10_night 29 = .ok (.getfield 38, 3) := by decide +kernel
theorem dX10_night_32 : decode cX10_night 32 = .ok (.iconst 0, 1) := by decide +kernel
theorem dX10_night_33 : decode cX10_night 33 = .ok (.iload_n 1, 1) := by decide +kernel
theorem dX10_night_34 : decode cX10_night 34 = .ok (.iastore, 1) := by decide +kernel
theorem dX10_night_35 : decode cX10_night 35 = .ok (.aload_n 0, 1) := by decide +kernel
theorem dX10_night_36 : decode cX10_night 36 = .ok (.invokevirtual 148, 3) := by decide +kernel
theorem dX10_night_39 : decode cX10_night 39 = .ok (.ireturn, 1) := by decide +kernel
theorem dX10_undo_0 : decode cX10_undo 0 = .ok (.aload_n 0, 1) := by decide +kernel
theorem dX10_undo_1 : decode cX10_undo 1 = .ok (.getfield 41, 3) := by decide +kernel
theorem dX10_undo_4 : decode cX10_undo 4 = .ok (.iconst 0, 1) := by decide +kernel
theorem dX10_undo_5 : decode cX10_undo 5 = .ok (.iaload, 1) := by decide +kernel
theorem dX10_undo_6 : decode cX10_undo 6 = .ok (.ifCond .ne 6, 3) := by decide +kernel
theorem dX10_undo_9 : decode cX10_undo 9 = .ok (.bipush (-2), 2) := by decide +kernel
theorem dX10_undo_11 : decode cX10_undo 11 = .ok (.ireturn, 1) := by decide +kernel
theorem dX10_undo_12 : decode cX10_undo 12 = .ok (.aload_n 0, 1) := by decide +kernel
theorem dX10_undo_13 : decode cX10_undo 13 = .ok (.getfield 41, 3) := by decide +kernel
theorem dX10_undo_16 : decode cX10_undo 16 = .ok (.iconst 0, 1) := by decide +kernel
theorem dX10_undo_17 : decode cX10_undo 17 = .ok (.dup2, 1) := by decide +kernel
theorem dX10_undo_18 : decode cX10_undo 18 = .ok (.iaload, 1) := by decide +kernel
theorem dX10_undo_19 : decode cX10_undo 19 = .ok (.iconst 1, 1) := by decide +kernel
theorem dX10_undo_20 : decode cX10_undo 20 = .ok (.isub, 1) := by decide +kernel
theorem dX10_undo_21 : decode cX10_undo 21 = .ok (.iastore, 1) := by decide +kernel
theorem dX10_undo_22 : decode cX10_undo 22 = .ok (.iconst 0, 1) := by decide +kernel
theorem dX10_undo_23 : decode cX10_undo 23 = .ok (.istore_n 1, 1) := by decide +kernel
theorem dX10_undo_24 : decode cX10_undo 24 = .ok (.iload_n 1, 1) := by decide +kernel
theorem dX10_undo_25 : decode cX10_undo 25 = .ok (.bipush 34, 2) := by decide +kernel
theorem dX10_undo_27 : decode cX10_undo 27 = .ok (.if_icmp .ge 31, 3) := by decide +kernel
theorem dX10_undo_30 : decode cX10_undo 30 = .ok (.aload_n 0, 1) := by decide +kernel
theorem dX10_undo_31 : decode cX10_undo 31 = .ok (.getfield 38, 3) := by decide +kernel
theorem dX10_undo_34 : decode cX10_undo 34 = .ok (.iload_n 1, 1) := by decide +kernel
theorem dX10_undo_35 : decode cX10_undo 35 = .ok (.aload_n 0, 1) := by decide +kernel
theorem dX10_undo_36 : decode cX10_undo 36 = .ok (.getfield 44, 3) := by decide +kernel
theorem dX10_undo_39 : decode cX10_undo 39 = .ok (.bipush 34, 2) := by decide +kernel
theorem dX10_undo_41 : decode cX10_undo 41 = .ok (.aload_n 0, 1) := by decide +kernel
theorem dX10_undo_42 : decode cX10_undo 42 = .ok (.getfield 41, 3) := by decide +kernel
theorem dX10_undo_45 : decode cX10_undo 45 = .ok (.iconst 0, 1) := by decide +kernel
theorem dX10_undo_46 : decode cX10_undo 46 = .ok (.iaload, 1) := by decide +kernel
theorem dX10_undo_47 : decode cX10_undo 47 = .ok (.imul, 1) := by decide +kernel
theorem dX10_undo_48 : decode cX10_undo 48 = .ok (.iload_n 1, 1) := by decide +kernel
theorem dX10_undo_49 : decode cX10_undo 49 = .ok (.iadd, 1) := by decide +kernel
theorem dX10_undo_50 : decode cX10_undo 50 = .ok (.iaload, 1) := by decide +kernel
theorem dX10_undo_51 : decode cX10_undo 51 = .ok (.iastore, 1) := by decide +kernel
theorem dX10_undo_52 : decode cX10_undo 52 = .ok (.iinc 1 1, 3) := by decide +kernel
theorem dX10_undo_55 : decode cX10_undo 55 = .ok (.goto (-31), 3) := by decide +kernel
theorem dX10_undo_58 : decode cX10_undo 58 = .ok (.aload_n 0, 1) := by decide +kernel
theorem dX10_undo_59 : decode cX10_undo 59 = .ok (.getfield 41, 3) := by decide +kernel
theorem dX10_undo_62 : decode cX10_undo 62 = .ok (.iconst 0, 1) := by decide +kernel
theorem dX10_undo_63 : decode cX10_undo 63 = .ok (.iaload, 1) := by decide +kernel
theorem dX10_undo_64 : decode cX10_undo 64 = .ok (.ireturn, 1) := by decide +kernel
set_option maxRecDepth 20000 in
theorem ggX10_now_X10_allWidths : GoodIn wsX10_now wsX10_allWidths := goodIn_r _ [7, 2, 8, 9, 10, 6, 11, 1, 12, 13, 14, 15, 16, 17, 18, 19, 20, 21, 22, 23, 24, 25, 26, 27, 28, 29, 30, 31, 32, 33, 34, 35, 36, 37] (by decide +kernel) (by decide +kernel)
set_option maxRecDepth 20000 in
theorem gX10_now_X10_allWidths : GoodIn wsX10_now (wsV RX10 148 RX10 yX10_allWidths wsX10_allWidths) := goodIn_app (goodIn_of _ (by decide +kernel)) ggX10_now_X10_allWidths
theorem dX10_now_0 : decode cX10_now 0 = .ok (.iconst 0, 1) := by decide +kernel
theorem dX10_now_1 : decode cX10_now 1 = .ok (.istore_n 2, 1) := by decide +kernel
theorem dX10_now_2 : decode cX10_now 2 = .ok (.iload_n 1, 1) := by decide +kernel
theorem dX10_now_3 : decode cX10_now 3 = .ok (.tableswitch 77 0 2 #[25, 32, 37], 25) := by decide +kernel
theorem dX10_now_28 : decode cX10_now 28 = .ok (.aload_n 0, 1) := by decide +kernel
theorem dX10_now_29 : decode cX10_now 29 = .ok (.getfield 38, 3) := by decide +kernel
theorem dX10_now_32 : decode cX10_now 32 = .ok (.iconst 0, 1) := by decide +kernel
theorem dX10_now_33 : decode cX10_now 33 = .ok (.iaload, 1) := by decide +kernel
theorem dX10_now_34 : decode cX10_now 34 = .ok (.ireturn, 1) := by decide +kernel
theorem dX10_now_35 : decode cX10_now 35 = .ok (.aload_n 0, 1) := by decide +kernel
theorem dX10_now_36 : decode cX10_now 36 = .ok (.invokevirtual 148, 3) := by decide +kernel
theorem dX10_now_39 : decode cX10_now 39 = .ok (.ireturn, 1) := by decide +kernel
theorem dX10_now_40 : decode cX10_now 40 = .ok (.iconst 0, 1) := by decide +kernel
theorem dX10_now_41 : decode cX10_now 41 = .ok (.istore_n 3, 1) := by decide +kernel
theorem dX10_now_42 : decode cX10_now 42 = .ok (.iload_n 3, 1) := by decide +kernel
theorem dX10_now_43 : decode cX10_now 43 = .ok (.aload_n 0, 1) := by decide +kernel
theorem dX10_now_44 : decode cX10_now 44 = .ok (.getfield 17, 3) := by decide +kernel
theorem dX10_now_47 : decode cX10_now 47 = .ok (.iconst 0, 1) := by decide +kernel
theorem dX10_now_48 : decode cX10_now 48 = .ok (.iaload, 1) := by decide +kernel
theorem dX10_now_49 : decode cX10_now 49 = .ok (.if_icmp .ge 29, 3) := by decide +kernel
theorem dX10_now_52 : decode cX10_now 52 = .ok (.iload_n 2, 1) := by decide +kernel
theorem dX10_now_53 : decode cX10_now 53 = .ok (.aload_n 0, 1) := by decide +kernel
theorem dX10_now_54 : decode cX10_now 54 = .ok (.getfield 38, 3) := by decide +kernel
theorem dX10_now_57 : decode cX10_now 57 = .ok (.bipush 10, 2) := by decide +kernel
theorem dX10_now_59 : decode cX10_now 59 = .ok (.iload_n 3, 1) := by decide +kernel
theorem dX10_now_60 : decode cX10_now 60 = .ok (.iadd, 1) := by decide +kernel
theorem dX10_now_61 : decode cX10_now 61 = .ok (.iaload, 1) := by decide +kernel
theorem dX10_now_62 : decode cX10_now 62 = .ok (.ifCond .le 7, 3) := by decide +kernel
theorem dX10_now_65 : decode cX10_now 65 = .ok (.iconst 1, 1) := by decide +kernel
theorem dX10_now_66 : decode cX10_now 66 = .ok (.goto 4, 3) := by decide +kernel
theorem dX10_now_69 : decode cX10_now 69 = .ok (.iconst 0, 1) := by decide +kernel
theorem dX10_now_70 : decode cX10_now 70 = .ok (.iadd, 1) := by decide +kernel
theorem dX10_now_71 : decode cX10_now 71 = .ok (.istore_n 2, 1) := by decide +kernel
theorem dX10_now_72 : decode cX10_now 72 = .ok (.iinc 3 1, 3) := by decide +kernel
theorem dX10_now_75 : decode cX10_now 75 = .ok (.goto (-33), 3) := by decide +kernel
theorem dX10_now_78 : decode cX10_now 78 = .ok (.iload_n 2, 1) := by decide +kernel
theorem dX10_now_79 : decode cX10_now 79 = .ok (.ireturn, 1) := by decide +kernel
theorem dX10_now_80 : decode cX10_now 80 = .ok (.iconst (-1), 1) := by decide +kernel
theorem dX10_now_81 : decode cX10_now 81 = .ok (.ireturn, 1) := by decide +kernel
set_option maxRecDepth 20000 in
theorem ggX10_openBy_X10_widthOf : GoodIn wsX10_openBy wsX10_widthOf := goodIn_r _ [6, 7, 8, 9, 10, 11, 12, 13, 14, 15, 16, 17, 18, 19, 20, 21, 22, 23, 24, 25, 26, 27, 28, 29, 30, 31, 32, 33] (by decide +kernel) (by decide +kernel)
set_option maxRecDepth 20000 in
theorem gX10_openBy_X10_widthOf : GoodIn wsX10_openBy (wsV RX10 122 RX10 yX10_widthOf wsX10_widthOf) := goodIn_app (goodIn_of _ (by decide +kernel)) ggX10_openBy_X10_widthOf
theorem dX10_openBy_0 : decode cX10_openBy 0 = .ok (.iconst 0, 1) := by decide +kernel
theorem dX10_openBy_1 : decode cX10_openBy 1 = .ok (.istore_n 2, 1) := by decide +kernel
theorem dX10_openBy_2 : decode cX10_openBy 2 = .ok (.iconst 0, 1) := by decide +kernel
theorem dX10_openBy_3 : decode cX10_openBy 3 = .ok (.istore_n 3, 1) := by decide +kernel
theorem dX10_openBy_4 : decode cX10_openBy 4 = .ok (.iload_n 3, 1) := by decide +kernel
theorem dX10_openBy_5 : decode cX10_openBy 5 = .ok (.aload_n 0, 1) := by decide +kernel
theorem dX10_openBy_6 : decode cX10_openBy 6 = .ok (.getfield 17, 3) := by decide +kernel
theorem dX10_openBy_9 : decode cX10_openBy 9 = .ok (.iconst 0, 1) := by decide +kernel
theorem dX10_openBy_10 : decode cX10_openBy 10 = .ok (.iaload, 1) := by decide +kernel
theorem dX10_openBy_11 : decode cX10_openBy 11 = .ok (.if_icmp .ge 28, 3) := by decide +kernel
theorem dX10_openBy_14 : decode cX10_openBy 14 = .ok (.iload_n 2, 1) := by decide +kernel
theorem dX10_openBy_15 : decode cX10_openBy 15 = .ok (.aload_n 0, 1) := by decide +kernel
theorem dX10_openBy_16 : decode cX10_openBy 16 = .ok (.iload_n 3, 1) := by decide +kernel
theorem dX10_openBy_17 : decode cX10_openBy 17 = .ok (.invokevirtual 122, 3) := by decide +kernel
theorem dX10_openBy_20 : decode cX10_openBy 20 = .ok (.iload_n 1, 1) := by decide +kernel
theorem dX10_openBy_21 : decode cX10_openBy 21 = .ok (.if_icmp .lt 9, 3) := by decide +kernel
theorem dX10_openBy_24 : decode cX10_openBy 24 = .ok (.iconst 1, 1) := by decide +kernel
theorem dX10_openBy_25 : decode cX10_openBy 25 = .ok (.iload_n 3, 1) := by decide +kernel
theorem dX10_openBy_26 : decode cX10_openBy 26 = .ok (.ishl, 1) := by decide +kernel
theorem dX10_openBy_27 : decode cX10_openBy 27 = .ok (.goto 4, 3) := by decide +kernel
theorem dX10_openBy_30 : decode cX10_openBy 30 = .ok (.iconst 0, 1) := by decide +kernel
theorem dX10_openBy_31 : decode cX10_openBy 31 = .ok (.ior, 1) := by decide +kernel
theorem dX10_openBy_32 : decode cX10_openBy 32 = .ok (.istore_n 2, 1) := by decide +kernel
theorem dX10_openBy_33 : decode cX10_openBy 33 = .ok (.iinc 3 1, 3) := by decide +kernel
theorem dX10_openBy_36 : decode cX10_openBy 36 = .ok (.goto (-32), 3) := by decide +kernel
theorem dX10_openBy_39 : decode cX10_openBy 39 = .ok (.iload_n 2, 1) := by decide +kernel
theorem dX10_openBy_40 : decode cX10_openBy 40 = .ok (.ireturn, 1) := by decide +kernel
set_option maxRecDepth 20000 in
theorem ggX10_wayBy_X10_has : GoodIn wsX10_wayBy wsX10_has := goodIn_r _ [7] (by decide +kernel) (by decide +kernel)
set_option maxRecDepth 20000 in
theorem gX10_wayBy_X10_has : GoodIn wsX10_wayBy (va_wsS RX10 151 yX10_has wsX10_has) := goodIn_app (goodIn_of _ (by decide +kernel)) ggX10_wayBy_X10_has
theorem dX10_wayBy_0 : decode cX10_wayBy 0 = .ok (.iconst 1, 1) := by decide +kernel
theorem dX10_wayBy_1 : decode cX10_wayBy 1 = .ok (.iload_n 1, 1) := by decide +kernel
theorem dX10_wayBy_2 : decode cX10_wayBy 2 = .ok (.ishl, 1) := by decide +kernel
theorem dX10_wayBy_3 : decode cX10_wayBy 3 = .ok (.istore 4, 2) := by decide +kernel
theorem dX10_wayBy_5 : decode cX10_wayBy 5 = .ok (.iconst 0, 1) := by decide +kernel
theorem dX10_wayBy_6 : decode cX10_wayBy 6 = .ok (.istore 5, 2) := by decide +kernel
theorem dX10_wayBy_8 : decode cX10_wayBy 8 = .ok (.iload 5, 2) := by decide +kernel
theorem dX10_wayBy_10 : decode cX10_wayBy 10 = .ok (.bipush 8, 2) := by decide +kernel
theorem dX10_wayBy_12 : decode cX10_wayBy 12 = .ok (.if_icmp .ge 128, 3) := by decide +kernel
theorem dX10_wayBy_15 : decode cX10_wayBy 15 = .ok (.iload 4, 2) := by decide +kernel
theorem dX10_wayBy_17 : decode cX10_wayBy 17 = .ok (.iload_n 2, 1) := by decide +kernel
theorem dX10_wayBy_18 : decode cX10_wayBy 18 = .ok (.invokestatic 151, 3) := by decide +kernel
theorem dX10_wayBy_21 : decode cX10_wayBy 21 = .ok (.ifCond .eq 6, 3) := by decide +kernel
theorem dX10_wayBy_24 : decode cX10_wayBy 24 = .ok (.iload 5, 2) := by decide +kernel
theorem dX10_wayBy_26 : decode cX10_wayBy 26 = .ok (.ireturn, 1) := by decide +kernel
theorem dX10_wayBy_27 : decode cX10_wayBy 27 = .ok (.iload 4, 2) := by decide +kernel
theorem dX10_wayBy_29 : decode cX10_wayBy 29 = .ok (.istore 6, 2) := by decide +kernel
theorem dX10_wayBy_31 : decode cX10_wayBy 31 = .ok (.iconst 0, 1) := by decide +kernel
theorem dX10_wayBy_32 : decode cX10_wayBy 32 = .ok (.istore 7, 2) := by decide +kernel
theorem dX10_wayBy_34 : decode cX10_wayBy 34 = .ok (.iload 7, 2) := by decide +kernel
theorem dX10_wayBy_36 : decode cX10_wayBy 36 = .ok (.aload_n 0, 1) := by decide +kernel
theorem dX10_wayBy_37 : decode cX10_wayBy 37 = .ok (.getfield 17, 3) := by decide +kernel
theorem dX10_wayBy_40 : decode cX10_wayBy 40 = .ok (.iconst 0, 1) := by decide +kernel
theorem dX10_wayBy_41 : decode cX10_wayBy 41 = .ok (.iaload, 1) := by decide +kernel
theorem dX10_wayBy_42 : decode cX10_wayBy 42 = .ok (.if_icmp .ge 88, 3) := by decide +kernel
theorem dX10_wayBy_45 : decode cX10_wayBy 45 = .ok (.iload 4, 2) := by decide +kernel
theorem dX10_wayBy_47 : decode cX10_wayBy 47 = .ok (.aload_n 0, 1) := by decide +kernel
theorem dX10_wayBy_48 : decode cX10_wayBy 48 = .ok (.getfield 20, 3) := by decide +kernel
theorem dX10_wayBy_51 : decode cX10_wayBy 51 = .ok (.iload 7, 2) := by decide +kernel
theorem dX10_wayBy_53 : decode cX10_wayBy 53 = .ok (.iaload, 1) := by decide +kernel
theorem dX10_wayBy_54 : decode cX10_wayBy 54 = .ok (.invokestatic 151, 3) := by decide +kernel
theorem dX10_wayBy_57 : decode cX10_wayBy 57 = .ok (.ifCond .ne 18, 3) := by decide +kernel
theorem dX10_wayBy_60 : decode cX10_wayBy 60 = .ok (.iload 4, 2) := by decide +kernel
theorem dX10_wayBy_62 : decode cX10_wayBy 62 = .ok (.aload_n 0, 1) := by decide +kernel
theorem dX10_wayBy_63 : decode cX10_wayBy 63 = .ok (.getfield 23, 3) := by decide +kernel
theorem dX10_wayBy_66 : decode cX10_wayBy 66 = .ok (.iload 7, 2) := by decide +kernel
theorem dX10_wayBy_68 : decode cX10_wayBy 68 = .ok (.iaload, 1) := by decide +kernel
theorem dX10_wayBy_69 : decode cX10_wayBy 69 = .ok (.invokestatic 151, 3) := by decide +kernel
theorem dX10_wayBy_72 : decode cX10_wayBy 72 = .ok (.ifCond .eq 7, 3) := by decide +kernel
theorem dX10_wayBy_75 : decode cX10_wayBy 75 = .ok (.iconst 1, 1) := by decide +kernel
theorem dX10_wayBy_76 : decode cX10_wayBy 76 = .ok (.goto 4, 3) := by decide +kernel
theorem dX10_wayBy_79 : decode cX10_wayBy 79 = .ok (.iconst 0, 1) := by decide +kernel
theorem dX10_wayBy_80 : decode cX10_wayBy 80 = .ok (.istore 8, 2) := by decide +kernel
theorem dX10_wayBy_82 : decode cX10_wayBy 82 = .ok (.iload 6, 2) := by decide +kernel
theorem dX10_wayBy_84 : decode cX10_wayBy 84 = .ok (.iload_n 3, 1) := by decide +kernel
theorem dX10_wayBy_85 : decode cX10_wayBy 85 = .ok (.iload 7, 2) := by decide +kernel
theorem dX10_wayBy_87 : decode cX10_wayBy 87 = .ok (.invokestatic 151, 3) := by decide +kernel
theorem dX10_wayBy_90 : decode cX10_wayBy 90 = .ok (.ifCond .eq 30, 3) := by decide +kernel
theorem dX10_wayBy_93 : decode cX10_wayBy 93 = .ok (.iload 8, 2) := by decide +kernel
theorem dX10_wayBy_95 : decode cX10_wayBy 95 = .ok (.ifCond .eq 25, 3) := by decide +kernel
theorem dX10_wayBy_98 : decode cX10_wayBy 98 = .ok (.iconst 1, 1) := by decide +kernel
theorem dX10_wayBy_99 : decode cX10_wayBy 99 = .ok (.aload_n 0, 1) := by decide +kernel
theorem dX10_wayBy_100 : decode cX10_wayBy 100 = .ok (.getfield 20, 3) := by decide +kernel
theorem dX10_wayBy_103 : decode cX10_wayBy 103 = .ok (.iload 7, 2) := by decide +kernel
theorem dX10_wayBy_105 : decode cX10_wayBy 105 = .ok (.iaload, 1) := by decide +kernel
theorem dX10_wayBy_106 : decode cX10_wayBy 106 = .ok (.ishl, 1) := by decide +kernel
theorem dX10_wayBy_107 : decode cX10_wayBy 107 = .ok (.iconst 1, 1) := by decide +kernel
theorem dX10_wayBy_108 : decode cX10_wayBy 108 = .ok (.aload_n 0, 1) := by decide +kernel
theorem dX10_wayBy_109 : decode cX10_wayBy 109 = .ok (.getfield 23, 3) := by decide +kernel
theorem dX10_wayBy_112 : decode cX10_wayBy 112 = .ok (.iload 7, 2) := by decide +kernel
theorem dX10_wayBy_114 : decode cX10_wayBy 114 = .ok (.iaload, 1) := by decide +kernel
theorem dX10_wayBy_115 : decode cX10_wayBy 115 = .ok (.ishl, 1) := by decide +kernel
theorem dX10_wayBy_116 : decode cX10_wayBy 116 = .ok (.ior, 1) := by decide +kernel
theorem dX10_wayBy_117 : decode cX10_wayBy 117 = .ok (.goto 4, 3) := by decide +kernel
theorem dX10_wayBy_120 : decode cX10_wayBy 120 = .ok (.iconst 0, 1) := by decide +kernel
theorem dX10_wayBy_121 : decode cX10_wayBy 121 = .ok (.ior, 1) := by decide +kernel
theorem dX10_wayBy_122 : decode cX10_wayBy 122 = .ok (.istore 6, 2) := by decide +kernel
theorem dX10_wayBy_124 : decode cX10_wayBy 124 = .ok (.iinc 7 1, 3) := by decide +kernel
theorem dX10_wayBy_127 : decode cX10_wayBy 127 = .ok (.goto (-93), 3) := by decide +kernel
theorem dX10_wayBy_130 : decode cX10_wayBy 130 = .ok (.iload 6, 2) := by decide +kernel
theorem dX10_wayBy_132 : decode cX10_wayBy 132 = .ok (.istore 4, 2) := by decide +kernel
theorem dX10_wayBy_134 : decode cX10_wayBy 134 = .ok (.iinc 5 1, 3) := by decide +kernel
theorem dX10_wayBy_137 : decode cX10_wayBy 137 = .ok (.goto (-129), 3) := by decide +kernel
theorem dX10_wayBy_140 : decode cX10_wayBy 140 = .ok (.bipush (-9), 2) := by decide +kernel
theorem dX10_wayBy_142 : decode cX10_wayBy 142 = .ok (.ireturn, 1) := by decide +kernel
set_option maxRecDepth 20000 in
theorem ggX10_widest_X10_areTwo : GoodIn wsX10_widest wsX10_areTwo := goodIn_r _ [5, 6, 7, 8, 4, 9, 10, 11, 12, 13, 33, 34, 35, 36, 37, 38, 39, 40, 41, 42, 43, 44, 45, 46, 47, 48, 49, 50, 51, 52, 53, 54, 55, 56, 57, 58] (by decide +kernel) (by decide +kernel)
set_option maxRecDepth 20000 in
theorem gX10_widest_X10_areTwo : GoodIn wsX10_widest (wsV RX10 154 RX10 yX10_areTwo wsX10_areTwo) := goodIn_app (goodIn_of _ (by decide +kernel)) ggX10_widest_X10_areTwo
set_option maxRecDepth 20000 in
theorem ggX10_widest_X10_openBy : GoodIn wsX10_widest wsX10_openBy := goodIn_r _ [17, 18, 19, 20, 21, 4, 22, 23, 33, 34, 35, 36, 37, 38, 39, 40, 41, 42, 43, 44, 45, 46, 47, 48, 49, 50, 51, 52, 53, 54, 55, 56, 57, 58] (by decide +kernel) (by decide +kernel)
set_option maxRecDepth 20000 in
theorem gX10_widest_X10_openBy : GoodIn wsX10_widest (wsV RX10 157 RX10 yX10_openBy wsX10_openBy) := goodIn_app (goodIn_of _ (by decide +kernel)) ggX10_widest_X10_openBy
set_option maxRecDepth 20000 in
theorem ggX10_widest_X10_wayBy : GoodIn wsX10_widest wsX10_wayBy := goodIn_r _ [27, 18, 28, 29, 30, 31, 4, 32, 33, 34, 35, 36, 37, 38, 39, 40, 41, 42, 43, 44, 45, 46, 47, 48, 49, 50, 51, 52, 53, 54, 55, 56, 57, 58] (by decide +kernel) (by decide +kernel)
set_option maxRecDepth 20000 in
theorem gX10_widest_X10_wayBy : GoodIn wsX10_widest (wsV RX10 160 RX10 yX10_wayBy wsX10_wayBy) := goodIn_app (goodIn_of _ (by decide +kernel)) ggX10_widest_X10_wayBy
theorem dX10_widest_0 : decode cX10_widest 0 = .ok (.aload_n 0, 1) := by decide +kernel
theorem dX10_widest_1 : decode cX10_widest 1 = .ok (.iload_n 1, 1) := by decide +kernel
theorem dX10_widest_2 : decode cX10_widest 2 = .ok (.iload_n 2, 1) := by decide +kernel
theorem dX10_widest_3 : decode cX10_widest 3 = .ok (.invokevirtual 154, 3) := by decide +kernel
theorem dX10_widest_6 : decode cX10_widest 6 = .ok (.ifCond .ne 5, 3) := by decide +kernel
theorem dX10_widest_9 : decode cX10_widest 9 = .ok (.iconst (-1), 1) := by decide +kernel
theorem dX10_widest_10 : decode cX10_widest 10 = .ok (.ireturn, 1) := by decide +kernel
theorem dX10_widest_11 : decode cX10_widest 11 = .ok (.bipush 10, 2) := by decide +kernel
theorem dX10_widest_13 : decode cX10_widest 13 = .ok (.istore_n 3, 1) := by decide +kernel
theorem dX10_widest_14 : decode cX10_widest 14 = .ok (.iload_n 3, 1) := by decide +kernel
theorem dX10_widest_15 : decode cX10_widest 15 = .ok (.iconst 1, 1) := by decide +kernel
theorem dX10_widest_16 : decode cX10_widest 16 = .ok (.if_icmp .lt 27, 3) := by decide +kernel
theorem dX10_widest_19 : decode cX10_widest 19 = .ok (.aload_n 0, 1) := by decide +kernel
theorem dX10_widest_20 : decode cX10_widest 20 = .ok (.iload_n 1, 1) := by decide +kernel
theorem dX10_widest_21 : decode cX10_widest 21 = .ok (.iload_n 2, 1) := by decide +kernel
theorem dX10_widest_22 : decode cX10_widest 22 = .ok (.aload_n 0, 1) := by decide +kernel
theorem dX10_widest_23 : decode cX10_widest 23 = .ok (.iload_n 3, 1) := by decide +kernel
theorem dX10_widest_24 : decode cX10_widest 24 = .ok (.invokevirtual 157, 3) := by decide +kernel
theorem dX10_widest_27 : decode cX10_widest 27 = .ok (.invokevirtual 160, 3) := by decide +kernel
theorem dX10_widest_30 : decode cX10_widest 30 = .ok (.bipush (-9), 2) := by decide +kernel
theorem dX10_widest_32 : decode cX10_widest 32 = .ok (.if_icmp .eq 5, 3) := by decide +kernel
theorem dX10_widest_35 : decode cX10_widest 35 = .ok (.iload_n 3, 1) := by decide +kernel
theorem dX10_widest_36 : decode cX10_widest 36 = .ok (.ireturn, 1) := by decide +kernel
theorem dX10_widest_37 : decode cX10_widest 37 = .ok (.iinc 3 (-1), 3) := by decide +kernel
theorem dX10_widest_40 : decode cX10_widest 40 = .ok (.goto (-26), 3) := by decide +kernel
theorem dX10_widest_43 : decode cX10_widest 43 = .ok (.bipush (-9), 2) := by decide +kernel
theorem dX10_widest_45 : decode cX10_widest 45 = .ok (.ireturn, 1) := by decide +kernel
set_option maxRecDepth 20000 in
theorem ggX10_way_X10_areTwo : GoodIn wsX10_way wsX10_areTwo := goodIn_r _ [5, 6, 7, 8, 4, 9, 10, 11, 12, 13, 33, 34, 35, 36, 37, 38, 39, 40, 41, 42, 43, 44, 45, 46, 47, 48, 49, 50, 51, 52, 53, 54, 55, 56, 57, 58] (by decide +kernel) (by decide +kernel)
set_option maxRecDepth 20000 in
theorem gX10_way_X10_areTwo : GoodIn wsX10_way (wsV RX10 154 RX10 yX10_areTwo wsX10_areTwo) := goodIn_app (goodIn_of _ (by decide +kernel)) ggX10_way_X10_areTwo
set_option maxRecDepth 20000 in
theorem ggX10_way_X10_in : GoodIn wsX10_way wsX10_in := goodIn_r _ [13] (by decide +kernel) (by decide +kernel)
set_option maxRecDepth 20000 in
theorem gX10_way_X10_in : GoodIn wsX10_way (va_wsS RX10 63 yX10_in wsX10_in) := goodIn_app (goodIn_of _ (by decide +kernel)) ggX10_way_X10_in
set_option maxRecDepth 20000 in
theorem ggX10_way_X10_openBy : GoodIn wsX10_way wsX10_openBy := goodIn_r _ [17, 18, 19, 20, 21, 4, 22, 23, 33, 34, 35, 36, 37, 38, 39, 40, 41, 42, 43, 44, 45, 46, 47, 48, 49, 50, 51, 52, 53, 54, 55, 56, 57, 58] (by decide +kernel) (by decide +kernel)
set_option maxRecDepth 20000 in
theorem gX10_way_X10_openBy : GoodIn wsX10_way (wsV RX10 157 RX10 yX10_openBy wsX10_openBy) := goodIn_app (goodIn_of _ (by decide +kernel)) ggX10_way_X10_openBy
set_option maxRecDepth 20000 in
theorem ggX10_way_X10_wayBy : GoodIn wsX10_way wsX10_wayBy := goodIn_r _ [27, 18, 28, 29, 30, 31, 4, 32, 33, 34, 35, 36, 37, 38, 39, 40, 41, 42, 43, 44, 45, 46, 47, 48, 49, 50, 51, 52, 53, 54, 55, 56, 57, 58] (by decide +kernel) (by decide +kernel)
set_option maxRecDepth 20000 in
theorem gX10_way_X10_wayBy : GoodIn wsX10_way (wsV RX10 160 RX10 yX10_wayBy wsX10_wayBy) := goodIn_app (goodIn_of _ (by decide +kernel)) ggX10_way_X10_wayBy
theorem dX10_way_0 : decode cX10_way 0 = .ok (.aload_n 0, 1) := by decide +kernel
theorem dX10_way_1 : decode cX10_way 1 = .ok (.iload_n 1, 1) := by decide +kernel
theorem dX10_way_2 : decode cX10_way 2 = .ok (.iload_n 2, 1) := by decide +kernel
theorem dX10_way_3 : decode cX10_way 3 = .ok (.invokevirtual 154, 3) := by decide +kernel
theorem dX10_way_6 : decode cX10_way 6 = .ok (.ifCond .eq 13, 3) := by decide +kernel
theorem dX10_way_9 : decode cX10_way 9 = .ok (.iload_n 3, 1) := by decide +kernel
theorem dX10_way_10 : decode cX10_way 10 = .ok (.iconst 1, 1) := by decide +kernel
theorem dX10_way_11 : decode cX10_way 11 = .ok (.bipush 10, 2) := by decide +kernel
theorem dX10_way_13 : decode cX10_way 13 = .ok (.invokestatic 63, 3) := by decide +kernel
theorem dX10_way_16 : decode cX10_way 16 = .ok (.ifCond .ne 5, 3) := by decide +kernel
theorem dX10_way_19 : decode cX10_way 19 = .ok (.iconst (-1), 1) := by decide +kernel
theorem dX10_way_20 : decode cX10_way 20 = .ok (.ireturn, 1) := by decide +kernel
theorem dX10_way_21 : decode cX10_way 21 = .ok (.aload_n 0, 1) := by decide +kernel
theorem dX10_way_22 : decode cX10_way 22 = .ok (.iload_n 1, 1) := by decide +kernel
theorem dX10_way_23 : decode cX10_way 23 = .ok (.iload_n 2, 1) := by decide +kernel
theorem dX10_way_24 : decode cX10_way 24 = .ok (.aload_n 0, 1) := by decide +kernel
theorem dX10_way_25 : decode cX10_way 25 = .ok (.iload_n 3, 1) := by decide +kernel
theorem dX10_way_26 : decode cX10_way 26 = .ok (.invokevirtual 157, 3) := by decide +kernel
theorem dX10_way_29 : decode cX10_way 29 = .ok (.invokevirtual 160, 3) := by decide +kernel
theorem dX10_way_32 : decode cX10_way 32 = .ok (.ireturn, 1) := by decide +kernel
set_option maxRecDepth 20000 in
theorem ggX10_widthsOf_X10_has : GoodIn wsX10_widthsOf wsX10_has := goodIn_r _ [5] (by decide +kernel) (by decide +kernel)
set_option maxRecDepth 20000 in
theorem gX10_widthsOf_X10_has : GoodIn wsX10_widthsOf (va_wsS RX10 151 yX10_has wsX10_has) := goodIn_app (goodIn_of _ (by decide +kernel)) ggX10_widthsOf_X10_has
set_option maxRecDepth 20000 in
theorem ggX10_widthsOf_X10_widthOf : GoodIn wsX10_widthsOf wsX10_widthOf := goodIn_r _ [9, 10, 11, 12, 13, 14, 15, 16, 17, 18, 19, 20, 21, 22, 23, 24, 25, 26, 27, 28, 29, 30, 31, 32, 33, 34, 35, 36] (by decide +kernel) (by decide +kernel)
set_option maxRecDepth 20000 in
theorem gX10_widthsOf_X10_widthOf : GoodIn wsX10_widthsOf (wsV RX10 122 RX10 yX10_widthOf wsX10_widthOf) := goodIn_app (goodIn_of _ (by decide +kernel)) ggX10_widthsOf_X10_widthOf
theorem dX10_widthsOf_0 : decode cX10_widthsOf 0 = .ok (.iconst 0, 1) := by decide +kernel
theorem dX10_widthsOf_1 : decode cX10_widthsOf 1 = .ok (.istore_n 2, 1) := by decide +kernel
theorem dX10_widthsOf_2 : decode cX10_widthsOf 2 = .ok (.iconst 0, 1) := by decide +kernel
theorem dX10_widthsOf_3 : decode cX10_widthsOf 3 = .ok (.istore_n 3, 1) := by decide +kernel
theorem dX10_widthsOf_4 : decode cX10_widthsOf 4 = .ok (.iload_n 3, 1) := by decide +kernel
theorem dX10_widthsOf_5 : decode cX10_widthsOf 5 = .ok (.aload_n 0, 1) := by decide +kernel
theorem dX10_widthsOf_6 : decode cX10_widthsOf 6 = .ok (.getfield 17, 3) := by decide +kernel
theorem dX10_widthsOf_9 : decode cX10_widthsOf 9 = .ok (.iconst 0, 1) := by decide +kernel
theorem dX10_widthsOf_10 : decode cX10_widthsOf 10 = .ok (.iaload, 1) := by decide +kernel
theorem dX10_widthsOf_11 : decode cX10_widthsOf 11 = .ok (.if_icmp .ge 29, 3) := by decide +kernel
theorem dX10_widthsOf_14 : decode cX10_widthsOf 14 = .ok (.iload_n 2, 1) := by decide +kernel
theorem dX10_widthsOf_15 : decode cX10_widthsOf 15 = .ok (.iload_n 1, 1) := by decide +kernel
theorem dX10_widthsOf_16 : decode cX10_widthsOf 16 = .ok (.iload_n 3, 1) := by decide +kernel
theorem dX10_widthsOf_17 : decode cX10_widthsOf 17 = .ok (.invokestatic 151, 3) := by decide +kernel
theorem dX10_widthsOf_20 : decode cX10_widthsOf 20 = .ok (.ifCond .eq 11, 3) := by decide +kernel
theorem dX10_widthsOf_23 : decode cX10_widthsOf 23 = .ok (.aload_n 0, 1) := by decide +kernel
theorem dX10_widthsOf_24 : decode cX10_widthsOf 24 = .ok (.iload_n 3, 1) := by decide +kernel
theorem dX10_widthsOf_25 : decode cX10_widthsOf 25 = .ok (.invokevirtual 122, 3) := by decide +kernel
theorem dX10_widthsOf_28 : decode cX10_widthsOf 28 = .ok (.goto 4, 3) := by decide +kernel
theorem dX10_widthsOf_31 : decode cX10_widthsOf 31 = .ok (.iconst 0, 1) := by decide +kernel
theorem dX10_widthsOf_32 : decode cX10_widthsOf 32 = .ok (.iadd, 1) := by decide +kernel
theorem dX10_widthsOf_33 : decode cX10_widthsOf 33 = .ok (.istore_n 2, 1) := by decide +kernel
theorem dX10_widthsOf_34 : decode cX10_widthsOf 34 = .ok (.iinc 3 1, 3) := by decide +kernel
theorem dX10_widthsOf_37 : decode cX10_widthsOf 37 = .ok (.goto (-33), 3) := by decide +kernel
theorem dX10_widthsOf_40 : decode cX10_widthsOf 40 = .ok (.iload_n 2, 1) := by decide +kernel
theorem dX10_widthsOf_41 : decode cX10_widthsOf 41 = .ok (.ireturn, 1) := by decide +kernel
set_option maxRecDepth 20000 in
theorem ggX10_flow_X10_areTwo : GoodIn wsX10_flow wsX10_areTwo := goodIn_r _ [5, 6, 7, 8, 4, 9, 10, 11, 12, 13, 40, 41, 42, 43, 44, 45, 46, 47, 48, 49, 50, 51, 52, 53, 54, 55, 56, 57, 58, 59, 60, 61, 62, 63, 64, 65] (by decide +kernel) (by decide +kernel)
set_option maxRecDepth 20000 in
theorem gX10_flow_X10_areTwo : GoodIn wsX10_flow (wsV RX10 154 RX10 yX10_areTwo wsX10_areTwo) := goodIn_app (goodIn_of _ (by decide +kernel)) ggX10_flow_X10_areTwo
set_option maxRecDepth 20000 in
theorem ggX10_flow_X10_in : GoodIn wsX10_flow wsX10_in := goodIn_r _ [13] (by decide +kernel) (by decide +kernel)
set_option maxRecDepth 20000 in
theorem gX10_flow_X10_in : GoodIn wsX10_flow (va_wsS RX10 63 yX10_in wsX10_in) := goodIn_app (goodIn_of _ (by decide +kernel)) ggX10_flow_X10_in
set_option maxRecDepth 20000 in
theorem ggX10_flow_X10_openBy : GoodIn wsX10_flow wsX10_openBy := goodIn_r _ [17, 18, 19, 20, 21, 4, 22, 23, 40, 41, 42, 43, 44, 45, 46, 47, 48, 49, 50, 51, 52, 53, 54, 55, 56, 57, 58, 59, 60, 61, 62, 63, 64, 65] (by decide +kernel) (by decide +kernel)
set_option maxRecDepth 20000 in
theorem gX10_flow_X10_openBy : GoodIn wsX10_flow (wsV RX10 157 RX10 yX10_openBy wsX10_openBy) := goodIn_app (goodIn_of _ (by decide +kernel)) ggX10_flow_X10_openBy
set_option maxRecDepth 20000 in
theorem ggX10_flow_X10_widthsOf : GoodIn wsX10_flow wsX10_widthsOf := goodIn_r _ [27, 18, 28, 29, 4, 30, 19, 20, 21, 22, 23, 40, 41, 42, 43, 44, 45, 46, 47, 48, 49, 50, 51, 52, 53, 54, 55, 56, 57, 58, 59, 60, 61, 62, 63, 64, 65] (by decide +kernel) (by decide +kernel)
set_option maxRecDepth 20000 in
theorem gX10_flow_X10_widthsOf : GoodIn wsX10_flow (wsV RX10 164 RX10 yX10_widthsOf wsX10_widthsOf) := goodIn_app (goodIn_of _ (by decide +kernel)) ggX10_flow_X10_widthsOf
set_option maxRecDepth 20000 in
theorem ggX10_flow_X10_bitsOf : GoodIn wsX10_flow wsX10_bitsOf := goodIn_r _ [33] (by decide +kernel) (by decide +kernel)
set_option maxRecDepth 20000 in
theorem gX10_flow_X10_bitsOf : GoodIn wsX10_flow (va_wsS RX10 145 yX10_bitsOf wsX10_bitsOf) := goodIn_app (goodIn_of _ (by decide +kernel)) ggX10_flow_X10_bitsOf
set_option maxRecDepth 20000 in
theorem ggX10_flow_X10_wayBy : GoodIn wsX10_flow wsX10_wayBy := goodIn_r _ [37, 18, 38, 39, 28, 29, 4, 30, 40, 41, 42, 43, 44, 45, 46, 47, 48, 49, 50, 51, 52, 53, 54, 55, 56, 57, 58, 59, 60, 61, 62, 63, 64, 65] (by decide +kernel) (by decide +kernel)
set_option maxRecDepth 20000 in
theorem gX10_flow_X10_wayBy : GoodIn wsX10_flow (wsV RX10 160 RX10 yX10_wayBy wsX10_wayBy) := goodIn_app (goodIn_of _ (by decide +kernel)) ggX10_flow_X10_wayBy
theorem dX10_flow_0 : decode cX10_flow 0 = .ok (.aload_n 0, 1) := by decide +kernel
theorem dX10_flow_1 : decode cX10_flow 1 = .ok (.iload_n 1, 1) := by decide +kernel
theorem dX10_flow_2 : decode cX10_flow 2 = .ok (.iload_n 2, 1) := by decide +kernel
theorem dX10_flow_3 : decode cX10_flow 3 = .ok (.invokevirtual 154, 3) := by decide +kernel
theorem dX10_flow_6 : decode cX10_flow 6 = .ok (.ifCond .eq 12, 3) := by decide +kernel
theorem dX10_flow_9 : decode cX10_flow 9 = .ok (.iload_n 3, 1) := by decide +kernel
theorem dX10_flow_10 : decode cX10_flow 10 = .ok (.iconst 0, 1) := by decide +kernel
theorem dX10_flow_11 : decode cX10_flow 11 = .ok (.iconst 1, 1) := by decide +kernel
theorem dX10_flow_12 : decode cX10_flow 12 = .ok (.invokestatic 63, 3) := by decide +kernel
theorem dX10_flow_15 : decode cX10_flow 15 = .ok (.ifCond .ne 5, 3) := by decide +kernel
theorem dX10_flow_18 : decode cX10_flow 18 = .ok (.iconst (-1), 1) := by decide +kernel
theorem dX10_flow_19 : decode cX10_flow 19 = .ok (.ireturn, 1) := by decide +kernel
theorem dX10_flow_20 : decode cX10_flow 20 = .ok (.aload_n 0, 1) := by decide +kernel
theorem dX10_flow_21 : decode cX10_flow 21 = .ok (.iconst 0, 1) := by decide +kernel
theorem dX10_flow_22 : decode cX10_flow 22 = .ok (.invokevirtual 157, 3) := by decide +kernel
theorem dX10_flow_25 : decode cX10_flow 25 = .ok (.istore 4, 2) := by decide +kernel
theorem dX10_flow_27 : decode cX10_flow 27 = .ok (.bipush (-9), 2) := by decide +kernel
theorem dX10_flow_29 : decode cX10_flow 29 = .ok (.istore 5, 2) := by decide +kernel
theorem dX10_flow_31 : decode cX10_flow 31 = .ok (.iconst 0, 1) := by decide +kernel
theorem dX10_flow_32 : decode cX10_flow 32 = .ok (.istore 6, 2) := by decide +kernel
theorem dX10_flow_34 : decode cX10_flow 34 = .ok (.iconst 0, 1) := by decide +kernel
theorem dX10_flow_35 : decode cX10_flow 35 = .ok (.istore 7, 2) := by decide +kernel
theorem dX10_flow_37 : decode cX10_flow 37 = .ok (.iload 7, 2) := by decide +kernel
theorem dX10_flow_39 : decode cX10_flow 39 = .ok (.iload 4, 2) := by decide +kernel
theorem dX10_flow_41 : decode cX10_flow 41 = .ok (.if_icmp .gt 89, 3) := by decide +kernel
theorem dX10_flow_44 : decode cX10_flow 44 = .ok (.aload_n 0, 1) := by decide +kernel
theorem dX10_flow_45 : decode cX10_flow 45 = .ok (.iload 7, 2) := by decide +kernel
theorem dX10_flow_47 : decode cX10_flow 47 = .ok (.invokevirtual 164, 3) := by decide +kernel
theorem dX10_flow_50 : decode cX10_flow 50 = .ok (.istore 8, 2) := by decide +kernel
theorem dX10_flow_52 : decode cX10_flow 52 = .ok (.iload 5, 2) := by decide +kernel
theorem dX10_flow_54 : decode cX10_flow 54 = .ok (.bipush (-9), 2) := by decide +kernel
theorem dX10_flow_56 : decode cX10_flow 56 = .ok (.if_icmp .eq 30, 3) := by decide +kernel
theorem dX10_flow_59 : decode cX10_flow 59 = .ok (.iload 8, 2) := by decide +kernel
theorem dX10_flow_61 : decode cX10_flow 61 = .ok (.iload 6, 2) := by decide +kernel
theorem dX10_flow_63 : decode cX10_flow 63 = .ok (.if_icmp .lt 23, 3) := by decide +kernel
theorem dX10_flow_66 : decode cX10_flow 66 = .ok (.iload 8, 2) := by decide +kernel
theorem dX10_flow_68 : decode cX10_flow 68 = .ok (.iload 6, 2) := by decide +kernel
theorem dX10_flow_70 : decode cX10_flow 70 = .ok (.if_icmp .ne 20, 3) := by decide +kernel
theorem dX10_flow_73 : decode cX10_flow 73 = .ok (.iload 7, 2) := by decide +kernel
theorem dX10_flow_75 : decode cX10_flow 75 = .ok (.invokestatic 145, 3) := by decide +kernel
theorem dX10_flow_78 : decode cX10_flow 78 = .ok (.iload 5, 2) := by decide +kernel
theorem dX10_flow_80 : decode cX10_flow 80 = .ok (.invokestatic 145, 3) := by decide +kernel
theorem dX10_flow_83 : decode cX10_flow 83 = .ok (.if_icmp .ge 7, 3) := by decide +kernel
theorem dX10_flow_86 : decode cX10_flow 86 = .ok (.iconst 1, 1) := by decide +kernel
theorem dX10_flow_87 : decode cX10_flow 87 = .ok (.goto 4, 3) := by decide +kernel
theorem dX10_flow_90 : decode cX10_flow 90 = .ok (.iconst 0, 1) := by decide +kernel
theorem dX10_flow_91 : decode cX10_flow 91 = .ok (.istore 9, 2) := by decide +kernel
theorem dX10_flow_93 : decode cX10_flow 93 = .ok (.iload 9, 2) := by decide +kernel
theorem dX10_flow_95 : decode cX10_flow 95 = .ok (.ifCond .eq 29, 3) := by decide +kernel
theorem dX10_flow_98 : decode cX10_flow 98 = .ok (.aload_n 0, 1) := by decide +kernel
theorem dX10_flow_99 : decode cX10_flow 99 = .ok (.iload_n 1, 1) := by decide +kernel
theorem dX10_flow_100 : decode cX10_flow 100 = .ok (.iload_n 2, 1) := by decide +kernel
theorem dX10_flow_101 : decode cX10_flow 101 = .ok (.iload 4, 2) := by decide +kernel
theorem dX10_flow_103 : decode cX10_flow 103 = .ok (.iload 7, 2) := by decide +kernel
theorem dX10_flow_105 : decode cX10_flow 105 = .ok (.iconst (-1), 1) := by decide +kernel
theorem dX10_flow_106 : decode cX10_flow 106 = .ok (.ixor, 1) := by decide +kernel
theorem dX10_flow_107 : decode cX10_flow 107 = .ok (.iand, 1) := by decide +kernel
theorem dX10_flow_108 : decode cX10_flow 108 = .ok (.invokevirtual 160, 3) := by decide +kernel
theorem dX10_flow_111 : decode cX10_flow 111 = .ok (.bipush (-9), 2) := by decide +kernel
theorem dX10_flow_113 : decode cX10_flow 113 = .ok (.if_icmp .ne 11, 3) := by decide +kernel
theorem dX10_flow_116 : decode cX10_flow 116 = .ok (.iload 7, 2) := by decide +kernel
theorem dX10_flow_118 : decode cX10_flow 118 = .ok (.istore 5, 2) := by decide +kernel
theorem dX10_flow_120 : decode cX10_flow 120 = .ok (.iload 8, 2) := by decide +kernel
theorem dX10_flow_122 : decode cX10_flow 122 = .ok (.istore 6, 2) := by decide +kernel
theorem dX10_flow_124 : decode cX10_flow 124 = .ok (.iinc 7 1, 3) := by decide +kernel
theorem dX10_flow_127 : decode cX10_flow 127 = .ok (.goto (-90), 3) := by decide +kernel
theorem dX10_flow_130 : decode cX10_flow 130 = .ok (.iload_n 3, 1) := by decide +kernel
theorem dX10_flow_131 : decode cX10_flow 131 = .ok (.ifCond .ne 8, 3) := by decide +kernel
theorem dX10_flow_134 : decode cX10_flow 134 = .ok (.iload 6, 2) := by decide +kernel
theorem dX10_flow_136 : decode cX10_flow 136 = .ok (.goto 5, 3) := by decide +kernel
theorem dX10_flow_139 : decode cX10_flow 139 = .ok (.iload 5, 2) := by decide +kernel
theorem dX10_flow_141 : decode cX10_flow 141 = .ok (.ireturn, 1) := by decide +kernel
set_option maxRecDepth 20000 in
theorem ggX10_need_X10_areTwo : GoodIn wsX10_need wsX10_areTwo := goodIn_r _ [5, 6, 7, 8, 4, 9, 10, 11, 12, 13, 36, 37, 38, 39, 40, 41, 42, 43, 44, 45, 46, 47, 48, 49, 50, 51, 52, 53, 54, 55, 56, 57, 58, 59, 60, 61] (by decide +kernel) (by decide +kernel)
set_option maxRecDepth 20000 in
theorem gX10_need_X10_areTwo : GoodIn wsX10_need (wsV RX10 154 RX10 yX10_areTwo wsX10_areTwo) := goodIn_app (goodIn_of _ (by decide +kernel)) ggX10_need_X10_areTwo
set_option maxRecDepth 20000 in
theorem ggX10_need_X10_in : GoodIn wsX10_need wsX10_in := goodIn_r _ [13] (by decide +kernel) (by decide +kernel)
set_option maxRecDepth 20000 in
theorem gX10_need_X10_in : GoodIn wsX10_need (va_wsS RX10 63 yX10_in wsX10_in) := goodIn_app (goodIn_of _ (by decide +kernel)) ggX10_need_X10_in
set_option maxRecDepth 20000 in
theorem ggX10_need_X10_openBy : GoodIn wsX10_need wsX10_openBy := goodIn_r _ [17, 18, 19, 20, 21, 4, 22, 23, 36, 37, 38, 39, 40, 41, 42, 43, 44, 45, 46, 47, 48, 49, 50, 51, 52, 53, 54, 55, 56, 57, 58, 59, 60, 61] (by decide +kernel) (by decide +kernel)
set_option maxRecDepth 20000 in
theorem gX10_need_X10_openBy : GoodIn wsX10_need (wsV RX10 157 RX10 yX10_openBy wsX10_openBy) := goodIn_app (goodIn_of _ (by decide +kernel)) ggX10_need_X10_openBy
set_option maxRecDepth 20000 in
theorem ggX10_need_X10_bitsOf : GoodIn wsX10_need wsX10_bitsOf := goodIn_r _ [26] (by decide +kernel) (by decide +kernel)
set_option maxRecDepth 20000 in
theorem gX10_need_X10_bitsOf : GoodIn wsX10_need (va_wsS RX10 145 yX10_bitsOf wsX10_bitsOf) := goodIn_app (goodIn_of _ (by decide +kernel)) ggX10_need_X10_bitsOf
set_option maxRecDepth 20000 in
theorem ggX10_need_X10_wayBy : GoodIn wsX10_need wsX10_wayBy := goodIn_r _ [30, 18, 31, 32, 33, 34, 4, 35, 36, 37, 38, 39, 40, 41, 42, 43, 44, 45, 46, 47, 48, 49, 50, 51, 52, 53, 54, 55, 56, 57, 58, 59, 60, 61] (by decide +kernel) (by decide +kernel)
set_option maxRecDepth 20000 in
theorem gX10_need_X10_wayBy : GoodIn wsX10_need (wsV RX10 160 RX10 yX10_wayBy wsX10_wayBy) := goodIn_app (goodIn_of _ (by decide +kernel)) ggX10_need_X10_wayBy
theorem dX10_need_0 : decode cX10_need 0 = .ok (.aload_n 0, 1) := by decide +kernel
theorem dX10_need_1 : decode cX10_need 1 = .ok (.iload_n 1, 1) := by decide +kernel
theorem dX10_need_2 : decode cX10_need 2 = .ok (.iload_n 2, 1) := by decide +kernel
theorem dX10_need_3 : decode cX10_need 3 = .ok (.invokevirtual 154, 3) := by decide +kernel
theorem dX10_need_6 : decode cX10_need 6 = .ok (.ifCond .eq 13, 3) := by decide +kernel
theorem dX10_need_9 : decode cX10_need 9 = .ok (.iload_n 3, 1) := by decide +kernel
theorem dX10_need_10 : decode cX10_need 10 = .ok (.iconst 1, 1) := by decide +kernel
theorem dX10_need_11 : decode cX10_need 11 = .ok (.bipush 10, 2) := by decide +kernel
theorem dX10_need_13 : decode cX10_need 13 = .ok (.invokestatic 63, 3) := by decide +kernel
theorem dX10_need_16 : decode cX10_need 16 = .ok (.ifCond .ne 5, 3) := by decide +kernel
theorem dX10_need_19 : decode cX10_need 19 = .ok (.iconst (-1), 1) := by decide +kernel
theorem dX10_need_20 : decode cX10_need 20 = .ok (.ireturn, 1) := by decide +kernel
theorem dX10_need_21 : decode cX10_need 21 = .ok (.aload_n 0, 1) := by decide +kernel
theorem dX10_need_22 : decode cX10_need 22 = .ok (.iload_n 3, 1) := by decide +kernel
theorem dX10_need_23 : decode cX10_need 23 = .ok (.invokevirtual 157, 3) := by decide +kernel
theorem dX10_need_26 : decode cX10_need 26 = .ok (.istore 4, 2) := by decide +kernel
theorem dX10_need_28 : decode cX10_need 28 = .ok (.aload_n 0, 1) := by decide +kernel
theorem dX10_need_29 : decode cX10_need 29 = .ok (.iconst 0, 1) := by decide +kernel
theorem dX10_need_30 : decode cX10_need 30 = .ok (.invokevirtual 157, 3) := by decide +kernel
theorem dX10_need_33 : decode cX10_need 33 = .ok (.istore 5, 2) := by decide +kernel
theorem dX10_need_35 : decode cX10_need 35 = .ok (.bipush (-9), 2) := by decide +kernel
theorem dX10_need_37 : decode cX10_need 37 = .ok (.istore 6, 2) := by decide +kernel
theorem dX10_need_39 : decode cX10_need 39 = .ok (.iconst 0, 1) := by decide +kernel
theorem dX10_need_40 : decode cX10_need 40 = .ok (.istore 7, 2) := by decide +kernel
theorem dX10_need_42 : decode cX10_need 42 = .ok (.iload 7, 2) := by decide +kernel
theorem dX10_need_44 : decode cX10_need 44 = .ok (.iload 5, 2) := by decide +kernel
theorem dX10_need_46 : decode cX10_need 46 = .ok (.if_icmp .gt 49, 3) := by decide +kernel
theorem dX10_need_49 : decode cX10_need 49 = .ok (.iload 6, 2) := by decide +kernel
theorem dX10_need_51 : decode cX10_need 51 = .ok (.bipush (-9), 2) := by decide +kernel
theorem dX10_need_53 : decode cX10_need 53 = .ok (.if_icmp .eq 16, 3) := by decide +kernel
theorem dX10_need_56 : decode cX10_need 56 = .ok (.iload 7, 2) := by decide +kernel
theorem dX10_need_58 : decode cX10_need 58 = .ok (.invokestatic 145, 3) := by decide +kernel
theorem dX10_need_61 : decode cX10_need 61 = .ok (.iload 6, 2) := by decide +kernel
theorem dX10_need_63 : decode cX10_need 63 = .ok (.invokestatic 145, 3) := by decide +kernel
theorem dX10_need_66 : decode cX10_need 66 = .ok (.if_icmp .ge 23, 3) := by decide +kernel
theorem dX10_need_69 : decode cX10_need 69 = .ok (.aload_n 0, 1) := by decide +kernel
theorem dX10_need_70 : decode cX10_need 70 = .ok (.iload_n 1, 1) := by decide +kernel
theorem dX10_need_71 : decode cX10_need 71 = .ok (.iload_n 2, 1) := by decide +kernel
theorem dX10_need_72 : decode cX10_need 72 = .ok (.iload 4, 2) := by decide +kernel
theorem dX10_need_74 : decode cX10_need 74 = .ok (.iload 7, 2) := by decide +kernel
theorem dX10_need_76 : decode cX10_need 76 = .ok (.ior, 1) := by decide +kernel
theorem dX10_need_77 : decode cX10_need 77 = .ok (.invokevirtual 160, 3) := by decide +kernel
theorem dX10_need_80 : decode cX10_need 80 = .ok (.bipush (-9), 2) := by decide +kernel
theorem dX10_need_82 : decode cX10_need 82 = .ok (.if_icmp .eq 7, 3) := by decide +kernel
theorem dX10_need_85 : decode cX10_need 85 = .ok (.iload 7, 2) := by decide +kernel
theorem dX10_need_87 : decode cX10_need 87 = .ok (.istore 6, 2) := by decide +kernel
theorem dX10_need_89 : decode cX10_need 89 = .ok (.iinc 7 1, 3) := by decide +kernel
theorem dX10_need_92 : decode cX10_need 92 = .ok (.goto (-50), 3) := by decide +kernel
theorem dX10_need_95 : decode cX10_need 95 = .ok (.iload 6, 2) := by decide +kernel
theorem dX10_need_97 : decode cX10_need 97 = .ok (.ireturn, 1) := by decide +kernel
set_option maxRecDepth 20000 in
theorem ggX10_odds_X10_areTwo : GoodIn wsX10_odds wsX10_areTwo := goodIn_r _ [6, 7, 8, 9, 5, 10, 11, 12, 13, 14, 33, 34, 35, 36, 37, 38, 39, 40, 41, 42, 43, 44, 45, 46, 47, 48, 49, 50, 51, 52, 53, 54, 55, 56, 57, 58] (by decide +kernel) (by decide +kernel)
set_option maxRecDepth 20000 in
theorem gX10_odds_X10_areTwo : GoodIn wsX10_odds (wsV RX10 154 RX10 yX10_areTwo wsX10_areTwo) := goodIn_app (goodIn_of _ (by decide +kernel)) ggX10_odds_X10_areTwo
set_option maxRecDepth 20000 in
theorem ggX10_odds_X10_in : GoodIn wsX10_odds wsX10_in := goodIn_r _ [14] (by decide +kernel) (by decide +kernel)
set_option maxRecDepth 20000 in
theorem gX10_odds_X10_in : GoodIn wsX10_odds (va_wsS RX10 63 yX10_in wsX10_in) := goodIn_app (goodIn_of _ (by decide +kernel)) ggX10_odds_X10_in
set_option maxRecDepth 20000 in
theorem ggX10_odds_X10_openBy : GoodIn wsX10_odds wsX10_openBy := goodIn_r _ [18, 1, 19, 20, 21, 5, 22, 23, 33, 34, 35, 36, 37, 38, 39, 40, 41, 42, 43, 44, 45, 46, 47, 48, 49, 50, 51, 52, 53, 54, 55, 56, 57, 58] (by decide +kernel) (by decide +kernel)
set_option maxRecDepth 20000 in
theorem gX10_odds_X10_openBy : GoodIn wsX10_odds (wsV RX10 157 RX10 yX10_openBy wsX10_openBy) := goodIn_app (goodIn_of _ (by decide +kernel)) ggX10_odds_X10_openBy
set_option maxRecDepth 20000 in
theorem ggX10_odds_X10_has : GoodIn wsX10_odds wsX10_has := goodIn_r _ [26] (by decide +kernel) (by decide +kernel)
set_option maxRecDepth 20000 in
theorem gX10_odds_X10_has : GoodIn wsX10_odds (va_wsS RX10 151 yX10_has wsX10_has) := goodIn_app (goodIn_of _ (by decide +kernel)) ggX10_odds_X10_has
set_option maxRecDepth 20000 in
theorem ggX10_odds_X10_wayBy : GoodIn wsX10_odds wsX10_wayBy := goodIn_r _ [30, 1, 31, 32, 24, 25, 5, 26, 33, 34, 35, 36, 37, 38, 39, 40, 41, 42, 43, 44, 45, 46, 47, 48, 49, 50, 51, 52, 53, 54, 55, 56, 57, 58] (by decide +kernel) (by decide +kernel)
set_option maxRecDepth 20000 in
theorem gX10_odds_X10_wayBy : GoodIn wsX10_odds (wsV RX10 160 RX10 yX10_wayBy wsX10_wayBy) := goodIn_app (goodIn_of _ (by decide +kernel)) ggX10_odds_X10_wayBy
theorem dX10_odds_0 : decode cX10_odds 0 = .ok (.aload_n 0, 1) := by decide +kernel
theorem dX10_odds_1 : decode cX10_odds 1 = .ok (.iload_n 1, 1) := by decide +kernel
theorem dX10_odds_2 : decode cX10_odds 2 = .ok (.iload_n 2, 1) := by decide +kernel
theorem dX10_odds_3 : decode cX10_odds 3 = .ok (.invokevirtual 154, 3) := by decide +kernel
theorem dX10_odds_6 : decode cX10_odds 6 = .ok (.ifCond .eq 23, 3) := by decide +kernel
theorem dX10_odds_9 : decode cX10_odds 9 = .ok (.iload_n 3, 1) := by decide +kernel
theorem dX10_odds_10 : decode cX10_odds 10 = .ok (.iconst 0, 1) := by decide +kernel
theorem dX10_odds_11 : decode cX10_odds 11 = .ok (.bipush 10, 2) := by decide +kernel
theorem dX10_odds_13 : decode cX10_odds 13 = .ok (.invokestatic 63, 3) := by decide +kernel
theorem dX10_odds_16 : decode cX10_odds 16 = .ok (.ifCond .eq 13, 3) := by decide +kernel
theorem dX10_odds_19 : decode cX10_odds 19 = .ok (.iload 4, 2) := by decide +kernel
theorem dX10_odds_21 : decode cX10_odds 21 = .ok (.iconst 0, 1) := by decide +kernel
theorem dX10_odds_22 : decode cX10_odds 22 = .ok (.iconst 1, 1) := by decide +kernel
theorem dX10_odds_23 : decode cX10_odds 23 = .ok (.invokestatic 63, 3) := by decide +kernel
theorem dX10_odds_26 : decode cX10_odds 26 = .ok (.ifCond .ne 5, 3) := by decide +kernel
theorem dX10_odds_29 : decode cX10_odds 29 = .ok (.iconst (-1), 1) := by decide +kernel
theorem dX10_odds_30 : decode cX10_odds 30 = .ok (.ireturn, 1) := by decide +kernel
theorem dX10_odds_31 : decode cX10_odds 31 = .ok (.iconst 0, 1) := by decide +kernel
theorem dX10_odds_32 : decode cX10_odds 32 = .ok (.istore 5, 2) := by decide +kernel
theorem dX10_odds_34 : decode cX10_odds 34 = .ok (.iconst 1, 1) := by decide +kernel
theorem dX10_odds_35 : decode cX10_odds 35 = .ok (.istore 6, 2) := by decide +kernel
theorem dX10_odds_37 : decode cX10_odds 37 = .ok (.aload_n 0, 1) := by decide +kernel
theorem dX10_odds_38 : decode cX10_odds 38 = .ok (.iconst 0, 1) := by decide +kernel
theorem dX10_odds_39 : decode cX10_odds 39 = .ok (.invokevirtual 157, 3) := by decide +kernel
theorem dX10_odds_42 : decode cX10_odds 42 = .ok (.istore 7, 2) := by decide +kernel
theorem dX10_odds_44 : decode cX10_odds 44 = .ok (.iconst 0, 1) := by decide +kernel
theorem dX10_odds_45 : decode cX10_odds 45 = .ok (.istore 8, 2) := by decide +kernel
theorem dX10_odds_47 : decode cX10_odds 47 = .ok (.iload 8, 2) := by decide +kernel
theorem dX10_odds_49 : decode cX10_odds 49 = .ok (.iload 7, 2) := by decide +kernel
theorem dX10_odds_51 : decode cX10_odds 51 = .ok (.if_icmp .gt 89, 3) := by decide +kernel
theorem dX10_odds_54 : decode cX10_odds 54 = .ok (.iconst 1, 1) := by decide +kernel
theorem dX10_odds_55 : decode cX10_odds 55 = .ok (.istore 9, 2) := by decide +kernel
theorem dX10_odds_57 : decode cX10_odds 57 = .ok (.iconst 0, 1) := by decide +kernel
theorem dX10_odds_58 : decode cX10_odds 58 = .ok (.istore 10, 2) := by decide +kernel
theorem dX10_odds_60 : decode cX10_odds 60 = .ok (.iload 10, 2) := by decide +kernel
theorem dX10_odds_62 : decode cX10_odds 62 = .ok (.aload_n 0, 1) := by decide +kernel
theorem dX10_odds_63 : decode cX10_odds 63 = .ok (.getfield 17, 3) := by decide +kernel
theorem dX10_odds_66 : decode cX10_odds 66 = .ok (.iconst 0, 1) := by decide +kernel
theorem dX10_odds_67 : decode cX10_odds 67 = .ok (.iaload, 1) := by decide +kernel
theorem dX10_odds_68 : decode cX10_odds 68 = .ok (.if_icmp .ge 32, 3) := by decide +kernel
theorem dX10_odds_71 : decode cX10_odds 71 = .ok (.iload 9, 2) := by decide +kernel
theorem dX10_odds_73 : decode cX10_odds 73 = .ok (.iload 8, 2) := by decide +kernel
theorem dX10_odds_75 : decode cX10_odds 75 = .ok (.iload 10, 2) := by decide +kernel
theorem dX10_odds_77 : decode cX10_odds 77 = .ok (.invokestatic 151, 3) := by decide +kernel
theorem dX10_odds_80 : decode cX10_odds 80 = .ok (.ifCond .eq 7, 3) := by decide +kernel
theorem dX10_odds_83 : decode cX10_odds 83 = .ok (.iload_n 3, 1) := by decide +kernel
theorem dX10_odds_84 : decode cX10_odds 84 = .ok (.goto 7, 3) := by decide +kernel
theorem dX10_odds_87 : decode cX10_odds 87 = .ok (.bipush 10, 2) := by decide +kernel
theorem dX10_odds_89 : decode cX10_odds 89 = .ok (.iload_n 3, 1) := by decide +kernel
theorem dX10_odds_90 : decode cX10_odds 90 = .ok (.isub, 1) := by decide +kernel
theorem dX10_odds_91 : decode cX10_odds 91 = .ok (.imul, 1) := by decide +kernel
theorem dX10_odds_92 : decode cX10_odds 92 = .ok (.istore 9, 2) := by decide +kernel
theorem dX10_odds_94 : decode cX10_odds 94 = .ok (.iinc 10 1, 3) := by decide +kernel
theorem dX10_odds_97 : decode cX10_odds 97 = .ok (.goto (-37), 3) := by decide +kernel
theorem dX10_odds_100 : decode cX10_odds 100 = .ok (.iload 5, 2) := by decide +kernel
theorem dX10_odds_102 : decode cX10_odds 102 = .ok (.iload 9, 2) := by decide +kernel
theorem dX10_odds_104 : decode cX10_odds 104 = .ok (.ifCond .le 26, 3) := by decide +kernel
theorem dX10_odds_107 : decode cX10_odds 107 = .ok (.aload_n 0, 1) := by decide +kernel
theorem dX10_odds_108 : decode cX10_odds 108 = .ok (.iload_n 1, 1) := by decide +kernel
theorem dX10_odds_109 : decode cX10_odds 109 = .ok (.iload_n 2, 1) := by decide +kernel
theorem dX10_odds_110 : decode cX10_odds 110 = .ok (.iload 7, 2) := by decide +kernel
theorem dX10_odds_112 : decode cX10_odds 112 = .ok (.iload 8, 2) := by decide +kernel
theorem dX10_odds_114 : decode cX10_odds 114 = .ok (.iconst (-1), 1) := by decide +kernel
theorem dX10_odds_115 : decode cX10_odds 115 = .ok (.ixor, 1) := by decide +kernel
theorem dX10_odds_116 : decode cX10_odds 116 = .ok (.iand, 1) := by decide +kernel
theorem dX10_odds_117 : decode cX10_odds 117 = .ok (.invokevirtual 160, 3) := by decide +kernel
theorem dX10_odds_120 : decode cX10_odds 120 = .ok (.bipush (-9), 2) := by decide +kernel
theorem dX10_odds_122 : decode cX10_odds 122 = .ok (.if_icmp .eq 8, 3) := by decide +kernel
theorem dX10_odds_125 : decode cX10_odds 125 = .ok (.iload 9, 2) := by decide +kernel
theorem dX10_odds_127 : decode cX10_odds 127 = .ok (.goto 4, 3) := by decide +kernel
theorem dX10_odds_130 : decode cX10_odds 130 = .ok (.iconst 0, 1) := by decide +kernel
theorem dX10_odds_131 : decode cX10_odds 131 = .ok (.iadd, 1) := by decide +kernel
theorem dX10_odds_132 : decode cX10_odds 132 = .ok (.istore 5, 2) := by decide +kernel
theorem dX10_odds_134 : decode cX10_odds 134 = .ok (.iinc 8 1, 3) := by decide +kernel
theorem dX10_odds_137 : decode cX10_odds 137 = .ok (.goto (-90), 3) := by decide +kernel
theorem dX10_odds_140 : decode cX10_odds 140 = .ok (.iconst 0, 1) := by decide +kernel
theorem dX10_odds_141 : decode cX10_odds 141 = .ok (.istore 8, 2) := by decide +kernel
theorem dX10_odds_143 : decode cX10_odds 143 = .ok (.iload 8, 2) := by decide +kernel
theorem dX10_odds_145 : decode cX10_odds 145 = .ok (.aload_n 0, 1) := by decide +kernel
theorem dX10_odds_146 : decode cX10_odds 146 = .ok (.getfield 17, 3) := by decide +kernel
theorem dX10_odds_149 : decode cX10_odds 149 = .ok (.iconst 0, 1) := by decide +kernel
theorem dX10_odds_150 : decode cX10_odds 150 = .ok (.iaload, 1) := by decide +kernel
theorem dX10_odds_151 : decode cX10_odds 151 = .ok (.if_icmp .ge 16, 3) := by decide +kernel
theorem dX10_odds_154 : decode cX10_odds 154 = .ok (.iload 6, 2) := by decide +kernel
theorem dX10_odds_156 : decode cX10_odds 156 = .ok (.bipush 10, 2) := by decide +kernel
theorem dX10_odds_158 : decode cX10_odds 158 = .ok (.imul, 1) := by decide +kernel
theorem dX10_odds_159 : decode cX10_odds 159 = .ok (.istore 6, 2) := by decide +kernel
theorem dX10_odds_161 : decode cX10_odds 161 = .ok (.iinc 8 1, 3) := by decide +kernel
theorem dX10_odds_164 : decode cX10_odds 164 = .ok (.goto (-21), 3) := by decide +kernel
theorem dX10_odds_167 : decode cX10_odds 167 = .ok (.iload 5, 2) := by decide +kernel
theorem dX10_odds_169 : decode cX10_odds 169 = .ok (.istore 8, 2) := by decide +kernel
theorem dX10_odds_171 : decode cX10_odds 171 = .ok (.iload 6, 2) := by decide +kernel
theorem dX10_odds_173 : decode cX10_odds 173 = .ok (.istore 9, 2) := by decide +kernel
theorem dX10_odds_175 : decode cX10_odds 175 = .ok (.iload 9, 2) := by decide +kernel
theorem dX10_odds_177 : decode cX10_odds 177 = .ok (.ifCond .eq 21, 3) := by decide +kernel
theorem dX10_odds_180 : decode cX10_odds 180 = .ok (.iload 8, 2) := by decide +kernel
theorem dX10_odds_182 : decode cX10_odds 182 = .ok (.iload 9, 2) := by decide +kernel
theorem dX10_odds_184 : decode cX10_odds 184 = .ok (.irem, 1) := by decide +kernel
theorem dX10_odds_185 : decode cX10_odds 185 = .ok (.istore 10, 2) := by decide +kernel
theorem dX10_odds_187 : decode cX10_odds 187 = .ok (.iload 9, 2) := by decide +kernel
theorem dX10_odds_189 : decode cX10_odds 189 = .ok (.istore 8, 2) := by decide +kernel
theorem dX10_odds_191 : decode cX10_odds 191 = .ok (.iload 10, 2) := by decide +kernel
theorem dX10_odds_193 : decode cX10_odds 193 = .ok (.istore 9, 2) := by decide +kernel
theorem dX10_odds_195 : decode cX10_odds 195 = .ok (.goto (-20), 3) := by decide +kernel
theorem dX10_odds_198 : decode cX10_odds 198 = .ok (.iload 4, 2) := by decide +kernel
theorem dX10_odds_200 : decode cX10_odds 200 = .ok (.ifCond .ne 11, 3) := by decide +kernel
theorem dX10_odds_203 : decode cX10_odds 203 = .ok (.iload 5, 2) := by decide +kernel
theorem dX10_odds_205 : decode cX10_odds 205 = .ok (.iload 8, 2) := by decide +kernel
theorem dX10_odds_207 : decode cX10_odds 207 = .ok (.idiv, 1) := by decide +kernel
theorem dX10_odds_208 : decode cX10_odds 208 = .ok (.goto 8, 3) := by decide +kernel
theorem dX10_odds_211 : decode cX10_odds 211 = .ok (.iload 6, 2) := by decide +kernel
theorem dX10_odds_213 : decode cX10_odds 213 = .ok (.iload 8, 2) := by decide +kernel
theorem dX10_odds_215 : decode cX10_odds 215 = .ok (.idiv, 1) := by decide +kernel
theorem dX10_odds_216 : decode cX10_odds 216 = .ok (.ireturn, 1) := by decide +kernel
set_option maxRecDepth 20000 in
theorem ggX10_canHave_X10_widthOf : GoodIn wsX10_canHave wsX10_widthOf := goodIn_r _ [6, 7, 8, 9, 10, 11, 12, 13, 14, 15, 16, 17, 18, 19, 20, 21, 22, 23, 24, 25, 26, 27, 28, 29, 30, 31, 32, 33] (by decide +kernel) (by decide +kernel)
set_option maxRecDepth 20000 in
theorem gX10_canHave_X10_widthOf : GoodIn wsX10_canHave (wsV RX10 122 RX10 yX10_widthOf wsX10_widthOf) := goodIn_app (goodIn_of _ (by decide +kernel)) ggX10_canHave_X10_widthOf
theorem dX10_canHave_0 : decode cX10_canHave 0 = .ok (.aload_n 0, 1) := by decide +kernel
theorem dX10_canHave_1 : decode cX10_canHave 1 = .ok (.iload_n 2, 1) := by decide +kernel
theorem dX10_canHave_2 : decode cX10_canHave 2 = .ok (.invokevirtual 122, 3) := by decide +kernel
theorem dX10_canHave_5 : decode cX10_canHave 5 = .ok (.aload_n 0, 1) := by decide +kernel
theorem dX10_canHave_6 : decode cX10_canHave 6 = .ok (.getfield 35, 3) := by decide +kernel
theorem dX10_canHave_9 : decode cX10_canHave 9 = .ok (.iload_n 1, 1) := by decide +kernel
theorem dX10_canHave_10 : decode cX10_canHave 10 = .ok (.iaload, 1) := by decide +kernel
theorem dX10_canHave_11 : decode cX10_canHave 11 = .ok (.if_icmp .lt 7, 3) := by decide +kernel
theorem dX10_canHave_14 : decode cX10_canHave 14 = .ok (.iconst 1, 1) := by decide +kernel
theorem dX10_canHave_15 : decode cX10_canHave 15 = .ok (.goto 4, 3) := by decide +kernel
theorem dX10_canHave_18 : decode cX10_canHave 18 = .ok (.iconst 0, 1) := by decide +kernel
theorem dX10_canHave_19 : decode cX10_canHave 19 = .ok (.ireturn, 1) := by decide +kernel
set_option maxRecDepth 20000 in
theorem ggX10_tellMost_X10_has : GoodIn wsX10_tellMost wsX10_has := goodIn_r _ [7] (by decide +kernel) (by decide +kernel)
set_option maxRecDepth 20000 in
theorem gX10_tellMost_X10_has : GoodIn wsX10_tellMost (va_wsS RX10 151 yX10_has wsX10_has) := goodIn_app (goodIn_of _ (by decide +kernel)) ggX10_tellMost_X10_has
set_option maxRecDepth 20000 in
theorem ggX10_tellMost_X10_canHave : GoodIn wsX10_tellMost wsX10_canHave := goodIn_r _ [11, 12, 13, 14, 15, 6, 16, 17, 18, 19, 20, 21, 22, 23, 24, 25, 26, 27, 28, 29, 30, 31, 32, 33, 34, 35, 36, 37, 38, 39, 40, 41, 42, 43] (by decide +kernel) (by decide +kernel)
set_option maxRecDepth 20000 in
theorem gX10_tellMost_X10_canHave : GoodIn wsX10_tellMost (wsV RX10 167 RX10 yX10_canHave wsX10_canHave) := goodIn_app (goodIn_of _ (by decide +kernel)) ggX10_tellMost_X10_canHave
theorem dX10_tellMost_0 : decode cX10_tellMost 0 = .ok (.iconst 1, 1) := by decide +kernel
theorem dX10_tellMost_1 : decode cX10_tellMost 1 = .ok (.aload_n 0, 1) := by decide +kernel
theorem dX10_tellMost_2 : decode cX10_tellMost 2 = .ok (.getfield 17, 3) := by decide +kernel
theorem dX10_tellMost_5 : decode cX10_tellMost 5 = .ok (.iconst 0, 1) := by decide +kernel
theorem dX10_tellMost_6 : decode cX10_tellMost 6 = .ok (.iaload, 1) := by decide +kernel
theorem dX10_tellMost_7 : decode cX10_tellMost 7 = .ok (.ishl, 1) := by decide +kernel
theorem dX10_tellMost_8 : decode cX10_tellMost 8 = .ok (.istore_n 1, 1) := by decide +kernel
theorem dX10_tellMost_9 : decode cX10_tellMost 9 = .ok (.iconst 0, 1) := by decide +kernel
theorem dX10_tellMost_10 : decode cX10_tellMost 10 = .ok (.istore_n 2, 1) := by decide +kernel
theorem dX10_tellMost_11 : decode cX10_tellMost 11 = .ok (.iload_n 2, 1) := by decide +kernel
theorem dX10_tellMost_12 : decode cX10_tellMost 12 = .ok (.iload_n 1, 1) := by decide +kernel
theorem dX10_tellMost_13 : decode cX10_tellMost 13 = .ok (.if_icmp .ge 27, 3) := by decide +kernel
theorem dX10_tellMost_16 : decode cX10_tellMost 16 = .ok (.aload_n 0, 1) := by decide +kernel
theorem dX10_tellMost_17 : decode cX10_tellMost 17 = .ok (.getfield 54, 3) := by decide +kernel
theorem dX10_tellMost_20 : decode cX10_tellMost 20 = .ok (.sipush 512, 3) := by decide +kernel
theorem dX10_tellMost_23 : decode cX10_tellMost 23 = .ok (.aload_n 0, 1) := by decide +kernel
theorem dX10_tellMost_24 : decode cX10_tellMost 24 = .ok (.getfield 29, 3) := by decide +kernel
theorem dX10_tellMost_27 : decode cX10_tellMost 27 = .ok (.iconst 0, 1) := by decide +kernel
theorem dX10_tellMost_28 : decode cX10_tellMost 28 = .ok (.iaload, 1) := by decide +kernel
theorem dX10_tellMost_29 : decode cX10_tellMost 29 = .ok (.imul, 1) := by decide +kernel
theorem dX10_tellMost_30 : decode cX10_tellMost 30 = .ok (.iload_n 2, 1) := by decide +kernel
theorem dX10_tellMost_31 : decode cX10_tellMost 31 = .ok (.iadd, 1) := by decide +kernel
theorem dX10_tellMost_32 : decode cX10_tellMost 32 = .ok (.iconst 0, 1) := by decide +kernel
theorem dX10_tellMost_33 : decode cX10_tellMost 33 = .ok (.iastore, 1) := by decide +kernel
theorem dX10_tellMost_34 : decode cX10_tellMost 34 = .ok (.iinc 2 1, 3) := by decide +kernel
theorem dX10_tellMost_37 : decode cX10_tellMost 37 = .ok (.goto (-26), 3) := by decide +kernel
theorem dX10_tellMost_40 : decode cX10_tellMost 40 = .ok (.aload_n 0, 1) := by decide +kernel
theorem dX10_tellMost_41 : decode cX10_tellMost 41 = .ok (.getfield 29, 3) := by decide +kernel
theorem dX10_tellMost_44 : decode cX10_tellMost 44 = .ok (.iconst 0, 1) := by decide +kernel
theorem dX10_tellMost_45 : decode cX10_tellMost 45 = .ok (.iaload, 1) := by decide +kernel
theorem dX10_tellMost_46 : decode cX10_tellMost 46 = .ok (.iconst 1, 1) := by decide +kernel
theorem dX10_tellMost_47 : decode cX10_tellMost 47 = .ok (.isub, 1) := by decide +kernel
theorem dX10_tellMost_48 : decode cX10_tellMost 48 = .ok (.istore_n 2, 1) := by decide +kernel
theorem dX10_tellMost_49 : decode cX10_tellMost 49 = .ok (.iload_n 2, 1) := by decide +kernel
theorem dX10_tellMost_50 : decode cX10_tellMost 50 = .ok (.ifCond .lt 130, 3) := by decide +kernel
theorem dX10_tellMost_53 : decode cX10_tellMost 53 = .ok (.iconst 0, 1) := by decide +kernel
theorem dX10_tellMost_54 : decode cX10_tellMost 54 = .ok (.istore_n 3, 1) := by decide +kernel
theorem dX10_tellMost_55 : decode cX10_tellMost 55 = .ok (.iload_n 3, 1) := by decide +kernel
theorem dX10_tellMost_56 : decode cX10_tellMost 56 = .ok (.iload_n 1, 1) := by decide +kernel
theorem dX10_tellMost_57 : decode cX10_tellMost 57 = .ok (.if_icmp .ge 117, 3) := by decide +kernel
theorem dX10_tellMost_60 : decode cX10_tellMost 60 = .ok (.aload_n 0, 1) := by decide +kernel
theorem dX10_tellMost_61 : decode cX10_tellMost 61 = .ok (.getfield 54, 3) := by decide +kernel
theorem dX10_tellMost_64 : decode cX10_tellMost 64 = .ok (.sipush 512, 3) := by decide +kernel
theorem dX10_tellMost_67 : decode cX10_tellMost 67 = .ok (.iload_n 2, 1) := by decide +kernel
theorem dX10_tellMost_68 : decode cX10_tellMost 68 = .ok (.iconst 1, 1) := by decide +kernel
theorem dX10_tellMost_69 : decode cX10_tellMost 69 = .ok (.iadd, 1) := by decide +kernel
theorem dX10_tellMost_70 : decode cX10_tellMost 70 = .ok (.imul, 1) := by decide +kernel
theorem dX10_tellMost_71 : decode cX10_tellMost 71 = .ok (.iload_n 3, 1) := by decide +kernel
theorem dX10_tellMost_72 : decode cX10_tellMost 72 = .ok (.iadd, 1) := by decide +kernel
theorem dX10_tellMost_73 : decode cX10_tellMost 73 = .ok (.iaload, 1) := by decide +kernel
theorem dX10_tellMost_74 : decode cX10_tellMost 74 = .ok (.istore 4, 2) := by decide +kernel
theorem dX10_tellMost_76 : decode cX10_tellMost 76 = .ok (.iconst 0, 1) := by decide +kernel
theorem dX10_tellMost_77 : decode cX10_tellMost 77 = .ok (.istore 5, 2) := by decide +kernel
theorem dX10_tellMost_79 : decode cX10_tellMost 79 = .ok (.iload 5, 2) := by decide +kernel
theorem dX10_tellMost_81 : decode cX10_tellMost 81 = .ok (.aload_n 0, 1) := by decide +kernel
theorem dX10_tellMost_82 : decode cX10_tellMost 82 = .ok (.getfield 17, 3) := by decide +kernel
theorem dX10_tellMost_85 : decode cX10_tellMost 85 = .ok (.iconst 0, 1) := by decide +kernel
theorem dX10_tellMost_86 : decode cX10_tellMost 86 = .ok (.iaload, 1) := by decide +kernel
theorem dX10_tellMost_87 : decode cX10_tellMost 87 = .ok (.if_icmp .ge 67, 3) := by decide +kernel
theorem dX10_tellMost_90 : decode cX10_tellMost 90 = .ok (.iload_n 3, 1) := by decide +kernel
theorem dX10_tellMost_91 : decode cX10_tellMost 91 = .ok (.iload 5, 2) := by decide +kernel
theorem dX10_tellMost_93 : decode cX10_tellMost 93 = .ok (.invokestatic 151, 3) := by decide +kernel
theorem dX10_tellMost_96 : decode cX10_tellMost 96 = .ok (.ifCond .ne 52, 3) := by decide +kernel
theorem dX10_tellMost_99 : decode cX10_tellMost 99 = .ok (.aload_n 0, 1) := by decide +kernel
theorem dX10_tellMost_100 : decode cX10_tellMost 100 = .ok (.iload_n 2, 1) := by decide +kernel
theorem dX10_tellMost_101 : decode cX10_tellMost 101 = .ok (.iload 5, 2) := by decide +kernel
theorem dX10_tellMost_103 : decode cX10_tellMost 103 = .ok (.invokevirtual 167, 3) := by decide +kernel
theorem dX10_tellMost_106 : decode cX10_tellMost 106 = .ok (.ifCond .eq 42, 3) := by decide +kernel
theorem dX10_tellMost_109 : decode cX10_tellMost 109 = .ok (.iconst 1, 1) := by decide +kernel
theorem dX10_tellMost_110 : decode cX10_tellMost 110 = .ok (.aload_n 0, 1) := by decide +kernel
theorem dX10_tellMost_111 : decode cX10_tellMost 111 = .ok (.getfield 54, 3) := by decide +kernel
theorem dX10_tellMost_114 : decode cX10_tellMost 114 = .ok (.sipush 512, 3) := by decide +kernel
theorem dX10_tellMost_117 : decode cX10_tellMost 117 = .ok (.iload_n 2, 1) := by decide +kernel
theorem dX10_tellMost_118 : decode cX10_tellMost 118 = .ok (.iconst 1, 1) := by decide +kernel
theorem dX10_tellMost_119 : decode cX10_tellMost 119 = .ok (.iadd, 1) := by decide +kernel
theorem dX10_tellMost_120 : decode cX10_tellMost 120 = .ok (.imul, 1) := by decide +kernel
theorem dX10_tellMost_121 : decode cX10_tellMost 121 = .ok (.iload_n 3, 1) := by decide +kernel
theorem dX10_tellMost_122 : decode cX10_tellMost 122 = .ok (.iconst 1, 1) := by decide +kernel
theorem dX10_tellMost_123 : decode cX10_tellMost 123 = .ok (.iload 5, 2) := by decide +kernel
theorem dX10_tellMost_125 : decode cX10_tellMost 125 = .ok (.ishl, 1) := by decide +kernel
theorem dX10_tellMost_126 : decode cX10_tellMost 126 = .ok (.ior, 1) := by decide +kernel
theorem dX10_tellMost_127 : decode cX10_tellMost 127 = .ok (.iadd, 1) := by decide +kernel
theorem dX10_tellMost_128 : decode cX10_tellMost 128 = .ok (.iaload, 1) := by decide +kernel
theorem dX10_tellMost_129 : decode cX10_tellMost 129 = .ok (.iadd, 1) := by decide +kernel
theorem dX10_tellMost_130 : decode cX10_tellMost 130 = .ok (.istore 6, 2) := by decide +kernel
theorem dX10_tellMost_132 : decode cX10_tellMost 132 = .ok (.iload 6, 2) := by decide +kernel
theorem dX10_tellMost_134 : decode cX10_tellMost 134 = .ok (.iload 4, 2) := by decide +kernel
theorem dX10_tellMost_136 : decode cX10_tellMost 136 = .ok (.if_icmp .le 8, 3) := by decide +kernel
theorem dX10_tellMost_139 : decode cX10_tellMost 139 = .ok (.iload 6, 2) := by decide +kernel
theorem dX10_tellMost_141 : decode cX10_tellMost 141 = .ok (.goto 5, 3) := by decide +kernel
theorem dX10_tellMost_144 : decode cX10_tellMost 144 = .ok (.iload 4, 2) := by decide +kernel
theorem dX10_tellMost_146 : decode cX10_tellMost 146 = .ok (.istore 4, 2) := by decide +kernel
theorem dX10_tellMost_148 : decode cX10_tellMost 148 = .ok (.iinc 5 1, 3) := by decide +kernel
theorem dX10_tellMost_151 : decode cX10_tellMost 151 = .ok (.goto (-72), 3) := by decide +kernel
theorem dX10_tellMost_154 : decode cX10_tellMost 154 = .ok (.aload_n 0, 1) := by decide +kernel
theorem dX10_tellMost_155 : decode cX10_tellMost 155 = .ok (.getfield 54, 3) := by decide +kernel
theorem dX10_tellMost_158 : decode cX10_tellMost 158 = .ok (.sipush 512, 3) := by decide +kernel
theorem dX10_tellMost_161 : decode cX10_tellMost 161 = .ok (.iload_n 2, 1) := by decide +kernel
theorem dX10_tellMost_162 : decode cX10_tellMost 162 = .ok (.imul, 1) := by decide +kernel
theorem dX10_tellMost_163 : decode cX10_tellMost 163 = .ok (.iload_n 3, 1) := by decide +kernel
theorem dX10_tellMost_164 : decode cX10_tellMost 164 = .ok (.iadd, 1) := by decide +kernel
theorem dX10_tellMost_165 : decode cX10_tellMost 165 = .ok (.iload 4, 2) := by decide +kernel
theorem dX10_tellMost_167 : decode cX10_tellMost 167 = .ok (.iastore, 1) := by decide +kernel
theorem dX10_tellMost_168 : decode cX10_tellMost 168 = .ok (.iinc 3 1, 3) := by decide +kernel
theorem dX10_tellMost_171 : decode cX10_tellMost 171 = .ok (.goto (-116), 3) := by decide +kernel
theorem dX10_tellMost_174 : decode cX10_tellMost 174 = .ok (.iinc 2 (-1), 3) := by decide +kernel
theorem dX10_tellMost_177 : decode cX10_tellMost 177 = .ok (.goto (-128), 3) := by decide +kernel
theorem dX10_tellMost_180 : decode cX10_tellMost 180 = .ok (.return_, 1) := by decide +kernel
set_option maxRecDepth 20000 in
theorem ggX10_carriage_X10_isPerson : GoodIn wsX10_carriage wsX10_isPerson := goodIn_r _ [7, 8, 9, 10, 6, 11, 29, 30, 31, 32, 33, 34, 35, 36, 37, 38, 39, 40, 41, 42, 43, 44, 45, 46, 47, 48, 49, 50, 51, 52, 53, 54] (by decide +kernel) (by decide +kernel)
set_option maxRecDepth 20000 in
theorem gX10_carriage_X10_isPerson : GoodIn wsX10_carriage (wsV RX10 136 RX10 yX10_isPerson wsX10_isPerson) := goodIn_app (goodIn_of _ (by decide +kernel)) ggX10_carriage_X10_isPerson
set_option maxRecDepth 20000 in
theorem ggX10_carriage_X10_tellMost : GoodIn wsX10_carriage wsX10_tellMost := goodIn_r _ [15, 2, 1, 8, 16, 17, 6, 18, 19, 20, 21, 22, 23, 24, 25, 26, 27, 28, 29, 30, 31, 32, 33, 34, 35, 36, 37, 38, 39, 40, 41, 42, 43, 44, 45, 46, 47, 48, 49, 50, 51, 52, 53, 54] (by decide +kernel) (by decide +kernel)
set_option maxRecDepth 20000 in
theorem gX10_carriage_X10_tellMost : GoodIn wsX10_carriage (wsV RX10 170 RX10 yX10_tellMost wsX10_tellMost) := goodIn_app (goodIn_of _ (by decide +kernel)) ggX10_carriage_X10_tellMost
set_option maxRecDepth 20000 in
theorem ggX10_carriage_X10_has : GoodIn wsX10_carriage wsX10_has := goodIn_r _ [18] (by decide +kernel) (by decide +kernel)
set_option maxRecDepth 20000 in
theorem gX10_carriage_X10_has : GoodIn wsX10_carriage (va_wsS RX10 151 yX10_has wsX10_has) := goodIn_app (goodIn_of _ (by decide +kernel)) ggX10_carriage_X10_has
set_option maxRecDepth 20000 in
theorem ggX10_carriage_X10_canHave : GoodIn wsX10_carriage wsX10_canHave := goodIn_r _ [22, 23, 24, 25, 26, 6, 27, 28, 29, 30, 31, 32, 33, 34, 35, 36, 37, 38, 39, 40, 41, 42, 43, 44, 45, 46, 47, 48, 49, 50, 51, 52, 53, 54] (by decide +kernel) (by decide +kernel)
set_option maxRecDepth 20000 in
theorem gX10_carriage_X10_canHave : GoodIn wsX10_carriage (wsV RX10 167 RX10 yX10_canHave wsX10_canHave) := goodIn_app (goodIn_of _ (by decide +kernel)) ggX10_carriage_X10_canHave
theorem dX10_carriage_0 : decode cX10_carriage 0 = .ok (.iload_n 1, 1) := by decide +kernel
theorem dX10_carriage_1 : decode cX10_carriage 1 = .ok (.iconst (-1), 1) := by decide +kernel
theorem dX10_carriage_2 : decode cX10_carriage 2 = .ok (.if_icmp .eq 13, 3) := by decide +kernel
theorem dX10_carriage_5 : decode cX10_carriage 5 = .ok (.aload_n 0, 1) := by decide +kernel
theorem dX10_carriage_6 : decode cX10_carriage 6 = .ok (.iload_n 1, 1) := by decide +kernel
theorem dX10_carriage_7 : decode cX10_carriage 7 = .ok (.invokevirtual 136, 3) := by decide +kernel
theorem dX10_carriage_10 : decode cX10_carriage 10 = .ok (.ifCond .ne 5, 3) := by decide +kernel
theorem dX10_carriage_13 : decode cX10_carriage 13 = .ok (.iconst (-1), 1) := by decide +kernel
theorem dX10_carriage_14 : decode cX10_carriage 14 = .ok (.ireturn, 1) := by decide +kernel
theorem dX10_carriage_15 : decode cX10_carriage 15 = .ok (.aload_n 0, 1) := by decide +kernel
theorem dX10_carriage_16 : decode cX10_carriage 16 = .ok (.invokevirtual 170, 3) := by decide +kernel
theorem dX10_carriage_19 : decode cX10_carriage 19 = .ok (.iload_n 1, 1) := by decide +kernel
theorem dX10_carriage_20 : decode cX10_carriage 20 = .ok (.iconst (-1), 1) := by decide +kernel
theorem dX10_carriage_21 : decode cX10_carriage 21 = .ok (.if_icmp .ne 10, 3) := by decide +kernel
theorem dX10_carriage_24 : decode cX10_carriage 24 = .ok (.aload_n 0, 1) := by decide +kernel
theorem dX10_carriage_25 : decode cX10_carriage 25 = .ok (.getfield 54, 3) := by decide +kernel
theorem dX10_carriage_28 : decode cX10_carriage 28 = .ok (.iconst 0, 1) := by decide +kernel
theorem dX10_carriage_29 : decode cX10_carriage 29 = .ok (.iaload, 1) := by decide +kernel
theorem dX10_carriage_30 : decode cX10_carriage 30 = .ok (.ireturn, 1) := by decide +kernel
theorem dX10_carriage_31 : decode cX10_carriage 31 = .ok (.iconst 0, 1) := by decide +kernel
theorem dX10_carriage_32 : decode cX10_carriage 32 = .ok (.istore_n 2, 1) := by decide +kernel
theorem dX10_carriage_33 : decode cX10_carriage 33 = .ok (.bipush (-9), 2) := by decide +kernel
theorem dX10_carriage_35 : decode cX10_carriage 35 = .ok (.istore_n 3, 1) := by decide +kernel
theorem dX10_carriage_36 : decode cX10_carriage 36 = .ok (.iconst 0, 1) := by decide +kernel
theorem dX10_carriage_37 : decode cX10_carriage 37 = .ok (.istore 4, 2) := by decide +kernel
theorem dX10_carriage_39 : decode cX10_carriage 39 = .ok (.iload 4, 2) := by decide +kernel
theorem dX10_carriage_41 : decode cX10_carriage 41 = .ok (.iload_n 1, 1) := by decide +kernel
theorem dX10_carriage_42 : decode cX10_carriage 42 = .ok (.if_icmp .gt 126, 3) := by decide +kernel
theorem dX10_carriage_45 : decode cX10_carriage 45 = .ok (.bipush (-9), 2) := by decide +kernel
theorem dX10_carriage_47 : decode cX10_carriage 47 = .ok (.istore_n 3, 1) := by decide +kernel
theorem dX10_carriage_48 : decode cX10_carriage 48 = .ok (.aload_n 0, 1) := by decide +kernel
theorem dX10_carriage_49 : decode cX10_carriage 49 = .ok (.getfield 17, 3) := by decide +kernel
theorem dX10_carriage_52 : decode cX10_carriage 52 = .ok (.iconst 0, 1) := by decide +kernel
theorem dX10_carriage_53 : decode cX10_carriage 53 = .ok (.iaload, 1) := by decide +kernel
theorem dX10_carriage_54 : decode cX10_carriage 54 = .ok (.iconst 1, 1) := by decide +kernel
theorem dX10_carriage_55 : decode cX10_carriage 55 = .ok (.isub, 1) := by decide +kernel
theorem dX10_carriage_56 : decode cX10_carriage 56 = .ok (.istore 5, 2) := by decide +kernel
theorem dX10_carriage_58 : decode cX10_carriage 58 = .ok (.iload 5, 2) := by decide +kernel
theorem dX10_carriage_60 : decode cX10_carriage 60 = .ok (.ifCond .lt 86, 3) := by decide +kernel
theorem dX10_carriage_63 : decode cX10_carriage 63 = .ok (.iload_n 2, 1) := by decide +kernel
theorem dX10_carriage_64 : decode cX10_carriage 64 = .ok (.iload 5, 2) := by decide +kernel
theorem dX10_carriage_66 : decode cX10_carriage 66 = .ok (.invokestatic 151, 3) := by decide +kernel
theorem dX10_carriage_69 : decode cX10_carriage 69 = .ok (.ifCond .ne 18, 3) := by decide +kernel
theorem dX10_carriage_72 : decode cX10_carriage 72 = .ok (.aload_n 0, 1) := by decide +kernel
theorem dX10_carriage_73 : decode cX10_carriage 73 = .ok (.iload 4, 2) := by decide +kernel
theorem dX10_carriage_75 : decode cX10_carriage 75 = .ok (.iload 5, 2) := by decide +kernel
theorem dX10_carriage_77 : decode cX10_carriage 77 = .ok (.invokevirtual 167, 3) := by decide +kernel
theorem dX10_carriage_80 : decode cX10_carriage 80 = .ok (.ifCond .eq 7, 3) := by decide +kernel
theorem dX10_carriage_83 : decode cX10_carriage 83 = .ok (.iconst 1, 1) := by decide +kernel
theorem dX10_carriage_84 : decode cX10_carriage 84 = .ok (.goto 4, 3) := by decide +kernel
theorem dX10_carriage_87 : decode cX10_carriage 87 = .ok (.iconst 0, 1) := by decide +kernel
theorem dX10_carriage_88 : decode cX10_carriage 88 = .ok (.istore 6, 2) := by decide +kernel
theorem dX10_carriage_90 : decode cX10_carriage 90 = .ok (.iload 6, 2) := by decide +kernel
theorem dX10_carriage_92 : decode cX10_carriage 92 = .ok (.ifCond .eq 46, 3) := by decide +kernel
theorem dX10_carriage_95 : decode cX10_carriage 95 = .ok (.iconst 1, 1) := by decide +kernel
theorem dX10_carriage_96 : decode cX10_carriage 96 = .ok (.aload_n 0, 1) := by decide +kernel
theorem dX10_carriage_97 : decode cX10_carriage 97 = .ok (.getfield 54, 3) := by decide +kernel
theorem dX10_carriage_100 : decode cX10_carriage 100 = .ok (.sipush 512, 3) := by decide +kernel
theorem dX10_carriage_103 : decode cX10_carriage 103 = .ok (.iload 4, 2) := by decide +kernel
theorem dX10_carriage_105 : decode cX10_carriage 105 = .ok (.iconst 1, 1) := by decide +kernel
theorem dX10_carriage_106 : decode cX10_carriage 106 = .ok (.iadd, 1) := by decide +kernel
theorem dX10_carriage_107 : decode cX10_carriage 107 = .ok (.imul, 1) := by decide +kernel
theorem dX10_carriage_108 : decode cX10_carriage 108 = .ok (.iload_n 2, 1) := by decide +kernel
theorem dX10_carriage_109 : decode cX10_carriage 109 = .ok (.iconst 1, 1) := by decide +kernel
theorem dX10_carriage_110 : decode cX10_carriage 110 = .ok (.iload 5, 2) := by decide +kernel
theorem dX10_carriage_112 : decode cX10_carriage 112 = .ok (.ishl, 1) := by decide +kernel
theorem dX10_carriage_113 : decode cX10_carriage 113 = .ok (.ior, 1) := by decide +kernel
theorem dX10_carriage_114 : decode cX10_carriage 114 = .ok (.iadd, 1) := by decide +kernel
theorem dX10_carriage_115 : decode cX10_carriage 115 = .ok (.iaload, 1) := by decide +kernel
theorem dX10_carriage_116 : decode cX10_carriage 116 = .ok (.iadd, 1) := by decide +kernel
theorem dX10_carriage_117 : decode cX10_carriage 117 = .ok (.aload_n 0, 1) := by decide +kernel
theorem dX10_carriage_118 : decode cX10_carriage 118 = .ok (.getfield 54, 3) := by decide +kernel
theorem dX10_carriage_121 : decode cX10_carriage 121 = .ok (.sipush 512, 3) := by decide +kernel
theorem dX10_carriage_124 : decode cX10_carriage 124 = .ok (.iload 4, 2) := by decide +kernel
theorem dX10_carriage_126 : decode cX10_carriage 126 = .ok (.imul, 1) := by decide +kernel
theorem dX10_carriage_127 : decode cX10_carriage 127 = .ok (.iload_n 2, 1) := by decide +kernel
theorem dX10_carriage_128 : decode cX10_carriage 128 = .ok (.iadd, 1) := by decide +kernel
theorem dX10_carriage_129 : decode cX10_carriage 129 = .ok (.iaload, 1) := by decide +kernel
theorem dX10_carriage_130 : decode cX10_carriage 130 = .ok (.if_icmp .ne 8, 3) := by decide +kernel
theorem dX10_carriage_133 : decode cX10_carriage 133 = .ok (.iload 5, 2) := by decide +kernel
theorem dX10_carriage_135 : decode cX10_carriage 135 = .ok (.goto 4, 3) := by decide +kernel
theorem dX10_carriage_138 : decode cX10_carriage 138 = .ok (.iload_n 3, 1) := by decide +kernel
theorem dX10_carriage_139 : decode cX10_carriage 139 = .ok (.istore_n 3, 1) := by decide +kernel
theorem dX10_carriage_140 : decode cX10_carriage 140 = .ok (.iinc 5 (-1), 3) := by decide +kernel
theorem dX10_carriage_143 : decode cX10_carriage 143 = .ok (.goto (-85), 3) := by decide +kernel
theorem dX10_carriage_146 : decode cX10_carriage 146 = .ok (.iload_n 2, 1) := by decide +kernel
theorem dX10_carriage_147 : decode cX10_carriage 147 = .ok (.iload_n 3, 1) := by decide +kernel
theorem dX10_carriage_148 : decode cX10_carriage 148 = .ok (.bipush (-9), 2) := by decide +kernel
theorem dX10_carriage_150 : decode cX10_carriage 150 = .ok (.if_icmp .ne 7, 3) := by decide +kernel
theorem dX10_carriage_153 : decode cX10_carriage 153 = .ok (.iconst 0, 1) := by decide +kernel
theorem dX10_carriage_154 : decode cX10_carriage 154 = .ok (.goto 6, 3) := by decide +kernel
theorem dX10_carriage_157 : decode cX10_carriage 157 = .ok (.iconst 1, 1) := by decide +kernel
theorem dX10_carriage_158 : decode cX10_carriage 158 = .ok (.iload_n 3, 1) := by decide +kernel
theorem dX10_carriage_159 : decode cX10_carriage 159 = .ok (.ishl, 1) := by decide +kernel
theorem dX10_carriage_160 : decode cX10_carriage 160 = .ok (.ior, 1) := by decide +kernel
theorem dX10_carriage_161 : decode cX10_carriage 161 = .ok (.istore_n 2, 1) := by decide +kernel
theorem dX10_carriage_162 : decode cX10_carriage 162 = .ok (.iinc 4 1, 3) := by decide +kernel
theorem dX10_carriage_165 : decode cX10_carriage 165 = .ok (.goto (-126), 3) := by decide +kernel
theorem dX10_carriage_168 : decode cX10_carriage 168 = .ok (.iload_n 3, 1) := by decide +kernel
theorem dX10_carriage_169 : decode cX10_carriage 169 = .ok (.ireturn, 1) := by decide +kernel
set_option maxRecDepth 20000 in
theorem ggX10_measures_X10_in : GoodIn wsX10_measures wsX10_in := goodIn_r _ [7] (by decide +kernel) (by decide +kernel)
set_option maxRecDepth 20000 in
theorem gX10_measures_X10_in : GoodIn wsX10_measures (va_wsS RX10 63 yX10_in wsX10_in) := goodIn_app (goodIn_of _ (by decide +kernel)) ggX10_measures_X10_in
theorem dX10_measures_0 : decode cX10_measures 0 = .ok (.iload_n 1, 1) := by decide +kernel
theorem dX10_measures_1 : decode cX10_measures 1 = .ok (.iconst 1, 1) := by decide +kernel
theorem dX10_measures_2 : decode cX10_measures 2 = .ok (.bipush 10, 2) := by decide +kernel
theorem dX10_measures_4 : decode cX10_measures 4 = .ok (.invokestatic 63, 3) := by decide +kernel
theorem dX10_measures_7 : decode cX10_measures 7 = .ok (.ifCond .eq 12, 3) := by decide +kernel
theorem dX10_measures_10 : decode cX10_measures 10 = .ok (.iload_n 2, 1) := by decide +kernel
theorem dX10_measures_11 : decode cX10_measures 11 = .ok (.iconst 0, 1) := by decide +kernel
theorem dX10_measures_12 : decode cX10_measures 12 = .ok (.iconst 1, 1) := by decide +kernel
theorem dX10_measures_13 : decode cX10_measures 13 = .ok (.invokestatic 63, 3) := by decide +kernel
theorem dX10_measures_16 : decode cX10_measures 16 = .ok (.ifCond .ne 5, 3) := by decide +kernel
theorem dX10_measures_19 : decode cX10_measures 19 = .ok (.iconst (-1), 1) := by decide +kernel
theorem dX10_measures_20 : decode cX10_measures 20 = .ok (.ireturn, 1) := by decide +kernel
theorem dX10_measures_21 : decode cX10_measures 21 = .ok (.aload_n 0, 1) := by decide +kernel
theorem dX10_measures_22 : decode cX10_measures 22 = .ok (.getfield 116, 3) := by decide +kernel
theorem dX10_measures_25 : decode cX10_measures 25 = .ok (.iconst 4, 1) := by decide +kernel
theorem dX10_measures_26 : decode cX10_measures 26 = .ok (.if_icmp .ne 6, 3) := by decide +kernel
theorem dX10_measures_29 : decode cX10_measures 29 = .ok (.bipush (-3), 2) := by decide +kernel
theorem dX10_measures_31 : decode cX10_measures 31 = .ok (.ireturn, 1) := by decide +kernel
theorem dX10_measures_32 : decode cX10_measures 32 = .ok (.aload_n 0, 1) := by decide +kernel
theorem dX10_measures_33 : decode cX10_measures 33 = .ok (.getfield 57, 3) := by decide +kernel
theorem dX10_measures_36 : decode cX10_measures 36 = .ok (.aload_n 0, 1) := by decide +kernel
theorem dX10_measures_37 : decode cX10_measures 37 = .ok (.getfield 116, 3) := by decide +kernel
theorem dX10_measures_40 : decode cX10_measures 40 = .ok (.iload_n 1, 1) := by decide +kernel
theorem dX10_measures_41 : decode cX10_measures 41 = .ok (.iastore, 1) := by decide +kernel
theorem dX10_measures_42 : decode cX10_measures 42 = .ok (.aload_n 0, 1) := by decide +kernel
theorem dX10_measures_43 : decode cX10_measures 43 = .ok (.getfield 60, 3) := by decide +kernel
theorem dX10_measures_46 : decode cX10_measures 46 = .ok (.aload_n 0, 1) := by decide +kernel
theorem dX10_measures_47 : decode cX10_measures 47 = .ok (.getfield 116, 3) := by decide +kernel
theorem dX10_measures_50 : decode cX10_measures 50 = .ok (.iload_n 2, 1) := by decide +kernel
theorem dX10_measures_51 : decode cX10_measures 51 = .ok (.iastore, 1) := by decide +kernel
theorem dX10_measures_52 : decode cX10_measures 52 = .ok (.aload_n 0, 1) := by decide +kernel
theorem dX10_measures_53 : decode cX10_measures 53 = .ok (.dup, 1) := by decide +kernel
theorem dX10_measures_54 : decode cX10_measures 54 = .ok (.getfield 116, 3) := by decide +kernel
theorem dX10_measures_57 : decode cX10_measures 57 = .ok (.iconst 1, 1) := by decide +kernel
theorem dX10_measures_58 : decode cX10_measures 58 = .ok (.iadd, 1) := by decide +kernel
theorem dX10_measures_59 : decode cX10_measures 59 = .ok (.putfield 116, 3) := by decide +kernel
theorem dX10_measures_62 : decode cX10_measures 62 = .ok (.aload_n 0, 1) := by decide +kernel
theorem dX10_measures_63 : decode cX10_measures 63 = .ok (.getfield 116, 3) := by decide +kernel
theorem dX10_measures_66 : decode cX10_measures 66 = .ok (.ireturn, 1) := by decide +kernel
theorem dX10_forget_0 : decode cX10_forget 0 = .ok (.aload_n 0, 1) := by decide +kernel
theorem dX10_forget_1 : decode cX10_forget 1 = .ok (.getfield 116, 3) := by decide +kernel
theorem dX10_forget_4 : decode cX10_forget 4 = .ok (.istore_n 1, 1) := by decide +kernel
theorem dX10_forget_5 : decode cX10_forget 5 = .ok (.aload_n 0, 1) := by decide +kernel
theorem dX10_forget_6 : decode cX10_forget 6 = .ok (.iconst 0, 1) := by decide +kernel
theorem dX10_forget_7 : decode cX10_forget 7 = .ok (.putfield 116, 3) := by decide +kernel
theorem dX10_forget_10 : decode cX10_forget 10 = .ok (.iload_n 1, 1) := by decide +kernel
theorem dX10_forget_11 : decode cX10_forget 11 = .ok (.ireturn, 1) := by decide +kernel
theorem dX10_widthBy_0 : decode cX10_widthBy 0 = .ok (.iload_n 0, 1) := by decide +kernel
theorem dX10_widthBy_1 : decode cX10_widthBy 1 = .ok (.bipush 10, 2) := by decide +kernel
theorem dX10_widthBy_3 : decode cX10_widthBy 3 = .ok (.idiv, 1) := by decide +kernel
theorem dX10_widthBy_4 : decode cX10_widthBy 4 = .ok (.istore_n 2, 1) := by decide +kernel
theorem dX10_widthBy_5 : decode cX10_widthBy 5 = .ok (.iload_n 1, 1) := by decide +kernel
theorem dX10_widthBy_6 : decode cX10_widthBy 6 = .ok (.iconst 1, 1) := by decide +kernel
theorem dX10_widthBy_7 : decode cX10_widthBy 7 = .ok (.if_icmp .ne 7, 3) := by decide +kernel
theorem dX10_widthBy_10 : decode cX10_widthBy 10 = .ok (.iconst 0, 1) := by decide +kernel
theorem dX10_widthBy_11 : decode cX10_widthBy 11 = .ok (.goto 7, 3) := by decide +kernel
theorem dX10_widthBy_14 : decode cX10_widthBy 14 = .ok (.iload_n 0, 1) := by decide +kernel
theorem dX10_widthBy_15 : decode cX10_widthBy 15 = .ok (.bipush 10, 2) := by decide +kernel
theorem dX10_widthBy_17 : decode cX10_widthBy 17 = .ok (.irem, 1) := by decide +kernel
theorem dX10_widthBy_18 : decode cX10_widthBy 18 = .ok (.istore_n 3, 1) := by decide +kernel
theorem dX10_widthBy_19 : decode cX10_widthBy 19 = .ok (.iconst 1, 1) := by decide +kernel
theorem dX10_widthBy_20 : decode cX10_widthBy 20 = .ok (.iload_n 2, 1) := by decide +kernel
theorem dX10_widthBy_21 : decode cX10_widthBy 21 = .ok (.iload_n 3, 1) := by decide +kernel
theorem dX10_widthBy_22 : decode cX10_widthBy 22 = .ok (.if_icmp .le 7, 3) := by decide +kernel
theorem dX10_widthBy_25 : decode cX10_widthBy 25 = .ok (.iload_n 2, 1) := by decide +kernel
theorem dX10_widthBy_26 : decode cX10_widthBy 26 = .ok (.goto 4, 3) := by decide +kernel
theorem dX10_widthBy_29 : decode cX10_widthBy 29 = .ok (.iload_n 3, 1) := by decide +kernel
theorem dX10_widthBy_30 : decode cX10_widthBy 30 = .ok (.iadd, 1) := by decide +kernel
theorem dX10_widthBy_31 : decode cX10_widthBy 31 = .ok (.ireturn, 1) := by decide +kernel
set_option maxRecDepth 20000 in
theorem ggX10_isSo_X10_widthBy : GoodIn wsX10_isSo wsX10_widthBy := goodIn_r _ [7] (by decide +kernel) (by decide +kernel)
set_option maxRecDepth 20000 in
theorem gX10_isSo_X10_widthBy : GoodIn wsX10_isSo (va_wsS RX10 173 yX10_widthBy wsX10_widthBy) := goodIn_app (goodIn_of _ (by decide +kernel)) ggX10_isSo_X10_widthBy
theorem dX10_isSo_0 : decode cX10_isSo 0 = .ok (.iconst 1, 1) := by decide +kernel
theorem dX10_isSo_1 : decode cX10_isSo 1 = .ok (.istore_n 2, 1) := by decide +kernel
theorem dX10_isSo_2 : decode cX10_isSo 2 = .ok (.iconst 0, 1) := by decide +kernel
theorem dX10_isSo_3 : decode cX10_isSo 3 = .ok (.istore_n 3, 1) := by decide +kernel
theorem dX10_isSo_4 : decode cX10_isSo 4 = .ok (.iload_n 3, 1) := by decide +kernel
theorem dX10_isSo_5 : decode cX10_isSo 5 = .ok (.aload_n 0, 1) := by decide +kernel
theorem dX10_isSo_6 : decode cX10_isSo 6 = .ok (.getfield 116, 3) := by decide +kernel
theorem dX10_isSo_9 : decode cX10_isSo 9 = .ok (.if_icmp .ge 38, 3) := by decide +kernel
theorem dX10_isSo_12 : decode cX10_isSo 12 = .ok (.iload_n 2, 1) := by decide +kernel
theorem dX10_isSo_13 : decode cX10_isSo 13 = .ok (.ifCond .eq 26, 3) := by decide +kernel
theorem dX10_isSo_16 : decode cX10_isSo 16 = .ok (.iload_n 1, 1) := by decide +kernel
theorem dX10_isSo_17 : decode cX10_isSo 17 = .ok (.aload_n 0, 1) := by decide +kernel
theorem dX10_isSo_18 : decode cX10_isSo 18 = .ok (.getfield 60, 3) := by decide +kernel
theorem dX10_isSo_21 : decode cX10_isSo 21 = .ok (.iload_n 3, 1) := by decide +kernel
theorem dX10_isSo_22 : decode cX10_isSo 22 = .ok (.iaload, 1) := by decide +kernel
theorem dX10_isSo_23 : decode cX10_isSo 23 = .ok (.invokestatic 173, 3) := by decide +kernel
theorem dX10_isSo_26 : decode cX10_isSo 26 = .ok (.aload_n 0, 1) := by decide +kernel
theorem dX10_isSo_27 : decode cX10_isSo 27 = .ok (.getfield 57, 3) := by decide +kernel
theorem dX10_isSo_30 : decode cX10_isSo 30 = .ok (.iload_n 3, 1) := by decide +kernel
theorem dX10_isSo_31 : decode cX10_isSo 31 = .ok (.iaload, 1) := by decide +kernel
theorem dX10_isSo_32 : decode cX10_isSo 32 = .ok (.if_icmp .ne 7, 3) := by decide +kernel
theorem dX10_isSo_35 : decode cX10_isSo 35 = .ok (.iconst 1, 1) := by decide +kernel
theorem dX10_isSo_36 : decode cX10_isSo 36 = .ok (.goto 4, 3) := by decide +kernel
theorem dX10_isSo_39 : decode cX10_isSo 39 = .ok (.iconst 0, 1) := by decide +kernel
theorem dX10_isSo_40 : decode cX10_isSo 40 = .ok (.istore_n 2, 1) := by decide +kernel
theorem dX10_isSo_41 : decode cX10_isSo 41 = .ok (.iinc 3 1, 3) := by decide +kernel
theorem dX10_isSo_44 : decode cX10_isSo 44 = .ok (.goto (-40), 3) := by decide +kernel
theorem dX10_isSo_47 : decode cX10_isSo 47 = .ok (.iload_n 2, 1) := by decide +kernel
theorem dX10_isSo_48 : decode cX10_isSo 48 = .ok (.ireturn, 1) := by decide +kernel
set_option maxRecDepth 20000 in
theorem ggX10_deeds_X10_in : GoodIn wsX10_deeds wsX10_in := goodIn_r _ [4] (by decide +kernel) (by decide +kernel)
set_option maxRecDepth 20000 in
theorem gX10_deeds_X10_in : GoodIn wsX10_deeds (va_wsS RX10 63 yX10_in wsX10_in) := goodIn_app (goodIn_of _ (by decide +kernel)) ggX10_deeds_X10_in
set_option maxRecDepth 20000 in
theorem ggX10_deeds_X10_isSo : GoodIn wsX10_deeds wsX10_isSo := goodIn_r _ [8, 9, 10, 11, 12, 13, 3, 14, 15, 16, 17, 18, 19, 20, 21, 22, 23, 24, 25, 26, 27, 28, 29, 30, 31, 32, 33, 34, 35, 36, 37, 38, 39, 40] (by decide +kernel) (by decide +kernel)
set_option maxRecDepth 20000 in
theorem gX10_deeds_X10_isSo : GoodIn wsX10_deeds (wsV RX10 176 RX10 yX10_isSo wsX10_isSo) := goodIn_app (goodIn_of _ (by decide +kernel)) ggX10_deeds_X10_isSo
theorem dX10_deeds_0 : decode cX10_deeds 0 = .ok (.iload_n 1, 1) := by decide +kernel
theorem dX10_deeds_1 : decode cX10_deeds 1 = .ok (.iconst 0, 1) := by decide +kernel
theorem dX10_deeds_2 : decode cX10_deeds 2 = .ok (.iconst 1, 1) := by decide +kernel
theorem dX10_deeds_3 : decode cX10_deeds 3 = .ok (.invokestatic 63, 3) := by decide +kernel
theorem dX10_deeds_6 : decode cX10_deeds 6 = .ok (.ifCond .ne 5, 3) := by decide +kernel
theorem dX10_deeds_9 : decode cX10_deeds 9 = .ok (.iconst (-1), 1) := by decide +kernel
theorem dX10_deeds_10 : decode cX10_deeds 10 = .ok (.ireturn, 1) := by decide +kernel
theorem dX10_deeds_11 : decode cX10_deeds 11 = .ok (.iconst 0, 1) := by decide +kernel
theorem dX10_deeds_12 : decode cX10_deeds 12 = .ok (.istore_n 2, 1) := by decide +kernel
theorem dX10_deeds_13 : decode cX10_deeds 13 = .ok (.bipush (-9), 2) := by decide +kernel
theorem dX10_deeds_15 : decode cX10_deeds 15 = .ok (.istore_n 3, 1) := by decide +kernel
theorem dX10_deeds_16 : decode cX10_deeds 16 = .ok (.bipush 99, 2) := by decide +kernel
theorem dX10_deeds_18 : decode cX10_deeds 18 = .ok (.istore 4, 2) := by decide +kernel
theorem dX10_deeds_20 : decode cX10_deeds 20 = .ok (.iload 4, 2) := by decide +kernel
theorem dX10_deeds_22 : decode cX10_deeds 22 = .ok (.ifCond .lt 24, 3) := by decide +kernel
theorem dX10_deeds_25 : decode cX10_deeds 25 = .ok (.aload_n 0, 1) := by decide +kernel
theorem dX10_deeds_26 : decode cX10_deeds 26 = .ok (.iload 4, 2) := by decide +kernel
theorem dX10_deeds_28 : decode cX10_deeds 28 = .ok (.invokevirtual 176, 3) := by decide +kernel
theorem dX10_deeds_31 : decode cX10_deeds 31 = .ok (.ifCond .eq 9, 3) := by decide +kernel
theorem dX10_deeds_34 : decode cX10_deeds 34 = .ok (.iinc 2 1, 3) := by decide +kernel
theorem dX10_deeds_37 : decode cX10_deeds 37 = .ok (.iload 4, 2) := by decide +kernel
theorem dX10_deeds_39 : decode cX10_deeds 39 = .ok (.istore_n 3, 1) := by decide +kernel
theorem dX10_deeds_40 : decode cX10_deeds 40 = .ok (.iinc 4 (-1), 3) := by decide +kernel
theorem dX10_deeds_43 : decode cX10_deeds 43 = .ok (.goto (-23), 3) := by decide +kernel
theorem dX10_deeds_46 : decode cX10_deeds 46 = .ok (.iload_n 1, 1) := by decide +kernel
theorem dX10_deeds_47 : decode cX10_deeds 47 = .ok (.ifCond .ne 7, 3) := by decide +kernel
theorem dX10_deeds_50 : decode cX10_deeds 50 = .ok (.iload_n 2, 1) := by decide +kernel
theorem dX10_deeds_51 : decode cX10_deeds 51 = .ok (.goto 4, 3) := by decide +kernel
theorem dX10_deeds_54 : decode cX10_deeds 54 = .ok (.iload_n 3, 1) := by decide +kernel
theorem dX10_deeds_55 : decode cX10_deeds 55 = .ok (.ireturn, 1) := by decide +kernel
set_option maxRecDepth 20000 in
theorem ggX10_greatest_X10_isSo : GoodIn wsX10_greatest wsX10_isSo := goodIn_r _ [5, 6, 7, 8, 9, 10, 4, 11, 12, 13, 14, 15, 16, 17, 18, 19, 20, 21, 22, 23, 24, 25, 26, 27, 28, 29, 30, 31, 32, 33, 34, 35, 36, 37] (by decide +kernel) (by decide +kernel)
set_option maxRecDepth 20000 in
theorem gX10_greatest_X10_isSo : GoodIn wsX10_greatest (wsV RX10 176 RX10 yX10_isSo wsX10_isSo) := goodIn_app (goodIn_of _ (by decide +kernel)) ggX10_greatest_X10_isSo
set_option maxRecDepth 20000 in
theorem ggX10_greatest_X10_widthBy : GoodIn wsX10_greatest wsX10_widthBy := goodIn_r _ [11] (by decide +kernel) (by decide +kernel)
set_option maxRecDepth 20000 in
theorem gX10_greatest_X10_widthBy : GoodIn wsX10_greatest (va_wsS RX10 173 yX10_widthBy wsX10_widthBy) := goodIn_app (goodIn_of _ (by decide +kernel)) ggX10_greatest_X10_widthBy
theorem dX10_greatest_0 : decode cX10_greatest 0 = .ok (.iconst 0, 1) := by decide +kernel
theorem dX10_greatest_1 : decode cX10_greatest 1 = .ok (.istore_n 2, 1) := by decide +kernel
theorem dX10_greatest_2 : decode cX10_greatest 2 = .ok (.iconst 1, 1) := by decide +kernel
theorem dX10_greatest_3 : decode cX10_greatest 3 = .ok (.istore_n 3, 1) := by decide +kernel
theorem dX10_greatest_4 : decode cX10_greatest 4 = .ok (.iload_n 3, 1) := by decide +kernel
theorem dX10_greatest_5 : decode cX10_greatest 5 = .ok (.bipush 10, 2) := by decide +kernel
theorem dX10_greatest_7 : decode cX10_greatest 7 = .ok (.if_icmp .gt 70, 3) := by decide +kernel
theorem dX10_greatest_10 : decode cX10_greatest 10 = .ok (.iconst 0, 1) := by decide +kernel
theorem dX10_greatest_11 : decode cX10_greatest 11 = .ok (.istore 4, 2) := by decide +kernel
theorem dX10_greatest_13 : decode cX10_greatest 13 = .ok (.iconst 0, 1) := by decide +kernel
theorem dX10_greatest_14 : decode cX10_greatest 14 = .ok (.istore 5, 2) := by decide +kernel
theorem dX10_greatest_16 : decode cX10_greatest 16 = .ok (.iload 5, 2) := by decide +kernel
theorem dX10_greatest_18 : decode cX10_greatest 18 = .ok (.bipush 100, 2) := by decide +kernel
theorem dX10_greatest_20 : decode cX10_greatest 20 = .ok (.if_icmp .ge 38, 3) := by decide +kernel
theorem dX10_greatest_23 : decode cX10_greatest 23 = .ok (.iload 4, 2) := by decide +kernel
theorem dX10_greatest_25 : decode cX10_greatest 25 = .ok (.aload_n 0, 1) := by decide +kernel
theorem dX10_greatest_26 : decode cX10_greatest 26 = .ok (.iload 5, 2) := by decide +kernel
theorem dX10_greatest_28 : decode cX10_greatest 28 = .ok (.invokevirtual 176, 3) := by decide +kernel
theorem dX10_greatest_31 : decode cX10_greatest 31 = .ok (.ifCond .eq 17, 3) := by decide +kernel
theorem dX10_greatest_34 : decode cX10_greatest 34 = .ok (.iload 5, 2) := by decide +kernel
theorem dX10_greatest_36 : decode cX10_greatest 36 = .ok (.iload_n 1, 1) := by decide +kernel
theorem dX10_greatest_37 : decode cX10_greatest 37 = .ok (.invokestatic 173, 3) := by decide +kernel
theorem dX10_greatest_40 : decode cX10_greatest 40 = .ok (.iload_n 3, 1) := by decide +kernel
theorem dX10_greatest_41 : decode cX10_greatest 41 = .ok (.if_icmp .ne 7, 3) := by decide +kernel
theorem dX10_greatest_44 : decode cX10_greatest 44 = .ok (.iconst 1, 1) := by decide +kernel
theorem dX10_greatest_45 : decode cX10_greatest 45 = .ok (.goto 4, 3) := by decide +kernel
theorem dX10_greatest_48 : decode cX10_greatest 48 = .ok (.iconst 0, 1) := by decide +kernel
theorem dX10_greatest_49 : decode cX10_greatest 49 = .ok (.iadd, 1) := by decide +kernel
theorem dX10_greatest_50 : decode cX10_greatest 50 = .ok (.istore 4, 2) := by decide +kernel
theorem dX10_greatest_52 : decode cX10_greatest 52 = .ok (.iinc 5 1, 3) := by decide +kernel
theorem dX10_greatest_55 : decode cX10_greatest 55 = .ok (.goto (-39), 3) := by decide +kernel
theorem dX10_greatest_58 : decode cX10_greatest 58 = .ok (.iload 4, 2) := by decide +kernel
theorem dX10_greatest_60 : decode cX10_greatest 60 = .ok (.iload_n 2, 1) := by decide +kernel
theorem dX10_greatest_61 : decode cX10_greatest 61 = .ok (.if_icmp .le 8, 3) := by decide +kernel
theorem dX10_greatest_64 : decode cX10_greatest 64 = .ok (.iload 4, 2) := by decide +kernel
theorem dX10_greatest_66 : decode cX10_greatest 66 = .ok (.goto 4, 3) := by decide +kernel
theorem dX10_greatest_69 : decode cX10_greatest 69 = .ok (.iload_n 2, 1) := by decide +kernel
theorem dX10_greatest_70 : decode cX10_greatest 70 = .ok (.istore_n 2, 1) := by decide +kernel
theorem dX10_greatest_71 : decode cX10_greatest 71 = .ok (.iinc 3 1, 3) := by decide +kernel
theorem dX10_greatest_74 : decode cX10_greatest 74 = .ok (.goto (-70), 3) := by decide +kernel
theorem dX10_greatest_77 : decode cX10_greatest 77 = .ok (.iload_n 2, 1) := by decide +kernel
theorem dX10_greatest_78 : decode cX10_greatest 78 = .ok (.ireturn, 1) := by decide +kernel
set_option maxRecDepth 20000 in
theorem ggX10_when_X10_greatest : GoodIn wsX10_when wsX10_greatest := goodIn_r _ [5, 6, 7, 8, 4, 9, 10, 11, 12, 13, 14, 15, 16, 17, 18, 19, 20, 21, 22, 23, 24, 25, 26, 27, 28, 29, 30, 31, 32, 33, 34, 35, 36, 37, 38, 39, 40, 41] (by decide +kernel) (by decide +kernel)
set_option maxRecDepth 20000 in
theorem gX10_when_X10_greatest : GoodIn wsX10_when (wsV RX10 179 RX10 yX10_greatest wsX10_greatest) := goodIn_app (goodIn_of _ (by decide +kernel)) ggX10_when_X10_greatest
theorem dX10_when_0 : decode cX10_when 0 = .ok (.aload_n 0, 1) := by decide +kernel
theorem dX10_when_1 : decode cX10_when 1 = .ok (.iconst 0, 1) := by decide +kernel
theorem dX10_when_2 : decode cX10_when 2 = .ok (.invokevirtual 179, 3) := by decide +kernel
theorem dX10_when_5 : decode cX10_when 5 = .ok (.istore_n 1, 1) := by decide +kernel
theorem dX10_when_6 : decode cX10_when 6 = .ok (.iload_n 1, 1) := by decide +kernel
theorem dX10_when_7 : decode cX10_when 7 = .ok (.ifCond .ne 8, 3) := by decide +kernel
theorem dX10_when_10 : decode cX10_when 10 = .ok (.bipush (-9), 2) := by decide +kernel
theorem dX10_when_12 : decode cX10_when 12 = .ok (.goto 17, 3) := by decide +kernel
theorem dX10_when_15 : decode cX10_when 15 = .ok (.aload_n 0, 1) := by decide +kernel
theorem dX10_when_16 : decode cX10_when 16 = .ok (.iconst 1, 1) := by decide +kernel
theorem dX10_when_17 : decode cX10_when 17 = .ok (.invokevirtual 179, 3) := by decide +kernel
theorem dX10_when_20 : decode cX10_when 20 = .ok (.iload_n 1, 1) := by decide +kernel
theorem dX10_when_21 : decode cX10_when 21 = .ok (.if_icmp .ge 7, 3) := by decide +kernel
theorem dX10_when_24 : decode cX10_when 24 = .ok (.iconst 1, 1) := by decide +kernel
theorem dX10_when_25 : decode cX10_when 25 = .ok (.goto 4, 3) := by decide +kernel
theorem dX10_when_28 : decode cX10_when 28 = .ok (.iconst 0, 1) := by decide +kernel
theorem dX10_when_29 : decode cX10_when 29 = .ok (.ireturn, 1) := by decide +kernel
theorem dX10_bodiesOf_0 : decode cX10_bodiesOf 0 = .ok (.iload_n 0, 1) := by decide +kernel
theorem dX10_bodiesOf_1 : decode cX10_bodiesOf 1 = .ok (.tableswitch 47 0 4 #[35, 37, 39, 41, 44], 35) := by decide +kernel
theorem dX10_bodiesOf_36 : decode cX10_bodiesOf 36 = .ok (.iconst 1, 1) := by decide +kernel
theorem dX10_bodiesOf_37 : decode cX10_bodiesOf 37 = .ok (.ireturn, 1) := by decide +kernel
theorem dX10_bodiesOf_38 : decode cX10_bodiesOf 38 = .ok (.iconst 3, 1) := by decide +kernel
theorem dX10_bodiesOf_39 : decode cX10_bodiesOf 39 = .ok (.ireturn, 1) := by decide +kernel
theorem dX10_bodiesOf_40 : decode cX10_bodiesOf 40 = .ok (.iconst 5, 1) := by decide +kernel
theorem dX10_bodiesOf_41 : decode cX10_bodiesOf 41 = .ok (.ireturn, 1) := by decide +kernel
theorem dX10_bodiesOf_42 : decode cX10_bodiesOf 42 = .ok (.bipush 11, 2) := by decide +kernel
theorem dX10_bodiesOf_44 : decode cX10_bodiesOf 44 = .ok (.ireturn, 1) := by decide +kernel
theorem dX10_bodiesOf_45 : decode cX10_bodiesOf 45 = .ok (.bipush 21, 2) := by decide +kernel
theorem dX10_bodiesOf_47 : decode cX10_bodiesOf 47 = .ok (.ireturn, 1) := by decide +kernel
theorem dX10_bodiesOf_48 : decode cX10_bodiesOf 48 = .ok (.bipush 33, 2) := by decide +kernel
theorem dX10_bodiesOf_50 : decode cX10_bodiesOf 50 = .ok (.ireturn, 1) := by decide +kernel
set_option maxRecDepth 20000 in
theorem ggX10_mark_X10_in : GoodIn wsX10_mark wsX10_in := goodIn_r _ [9] (by decide +kernel) (by decide +kernel)
set_option maxRecDepth 20000 in
theorem gX10_mark_X10_in : GoodIn wsX10_mark (va_wsS RX10 63 yX10_in wsX10_in) := goodIn_app (goodIn_of _ (by decide +kernel)) ggX10_mark_X10_in
set_option maxRecDepth 20000 in
theorem ggX10_mark_X10_isStreet : GoodIn wsX10_mark wsX10_isStreet := goodIn_r _ [13, 5, 6, 7, 8, 9, 38, 39, 40, 41, 42, 43, 44, 45, 46, 47, 48, 49, 50, 51, 52, 53, 54, 55, 56, 57, 58, 59, 60, 61, 62, 63] (by decide +kernel) (by decide +kernel)
set_option maxRecDepth 20000 in
theorem gX10_mark_X10_isStreet : GoodIn wsX10_mark (wsV RX10 130 RX10 yX10_isStreet wsX10_isStreet) := goodIn_app (goodIn_of _ (by decide +kernel)) ggX10_mark_X10_isStreet
set_option maxRecDepth 20000 in
theorem ggX10_mark_X10_bodiesOf : GoodIn wsX10_mark wsX10_bodiesOf := goodIn_r _ [16] (by decide +kernel) (by decide +kernel)
set_option maxRecDepth 20000 in
theorem gX10_mark_X10_bodiesOf : GoodIn wsX10_mark (va_wsS RX10 183 yX10_bodiesOf wsX10_bodiesOf) := goodIn_app (goodIn_of _ (by decide +kernel)) ggX10_mark_X10_bodiesOf
set_option maxRecDepth 20000 in
theorem ggX10_mark_X10_has : GoodIn wsX10_mark wsX10_has := goodIn_r _ [19] (by decide +kernel) (by decide +kernel)
set_option maxRecDepth 20000 in
theorem gX10_mark_X10_has : GoodIn wsX10_mark (va_wsS RX10 151 yX10_has wsX10_has) := goodIn_app (goodIn_of _ (by decide +kernel)) ggX10_mark_X10_has
set_option maxRecDepth 20000 in
theorem ggX10_mark_X10_widthOf : GoodIn wsX10_mark wsX10_widthOf := goodIn_r _ [23, 4, 38, 39, 40, 41, 42, 43, 44, 45, 46, 47, 48, 49, 50, 51, 52, 53, 54, 55, 56, 57, 58, 59, 60, 61, 62, 63] (by decide +kernel) (by decide +kernel)
set_option maxRecDepth 20000 in
theorem gX10_mark_X10_widthOf : GoodIn wsX10_mark (wsV RX10 122 RX10 yX10_widthOf wsX10_widthOf) := goodIn_app (goodIn_of _ (by decide +kernel)) ggX10_mark_X10_widthOf
set_option maxRecDepth 20000 in
theorem ggX10_mark_X10_livingIn : GoodIn wsX10_mark wsX10_livingIn := goodIn_r _ [27, 28, 4, 38, 39, 40, 41, 42, 43, 44, 45, 46, 47, 48, 49, 50, 51, 52, 53, 54, 55, 56, 57, 58, 59, 60, 61, 62, 63] (by decide +kernel) (by decide +kernel)
set_option maxRecDepth 20000 in
theorem gX10_mark_X10_livingIn : GoodIn wsX10_mark (wsV RX10 133 RX10 yX10_livingIn wsX10_livingIn) := goodIn_app (goodIn_of _ (by decide +kernel)) ggX10_mark_X10_livingIn
set_option maxRecDepth 20000 in
theorem ggX10_mark_X10_bitsOf : GoodIn wsX10_mark wsX10_bitsOf := goodIn_r _ [31] (by decide +kernel) (by decide +kernel)
set_option maxRecDepth 20000 in
theorem gX10_mark_X10_bitsOf : GoodIn wsX10_mark (va_wsS RX10 145 yX10_bitsOf wsX10_bitsOf) := goodIn_app (goodIn_of _ (by decide +kernel)) ggX10_mark_X10_bitsOf
set_option maxRecDepth 20000 in
theorem ggX10_mark_X10_doMeet : GoodIn wsX10_mark wsX10_doMeet := goodIn_r _ [35, 36, 37, 38, 39, 40, 41, 42, 43, 44, 45, 46, 47, 48, 49, 50, 51, 52, 53, 54, 55, 56, 57, 58, 59, 60, 61, 62, 63] (by decide +kernel) (by decide +kernel)
set_option maxRecDepth 20000 in
theorem gX10_mark_X10_doMeet : GoodIn wsX10_mark (wsV RX10 126 RX10 yX10_doMeet wsX10_doMeet) := goodIn_app (goodIn_of _ (by decide +kernel)) ggX10_mark_X10_doMeet
theorem dX10_mark_0 : decode cX10_mark 0 = .ok (.iload_n 1, 1) := by decide +kernel
theorem dX10_mark_1 : decode cX10_mark 1 = .ok (.iconst 0, 1) := by decide +kernel
theorem dX10_mark_2 : decode cX10_mark 2 = .ok (.iconst 5, 1) := by decide +kernel
theorem dX10_mark_3 : decode cX10_mark 3 = .ok (.invokestatic 63, 3) := by decide +kernel
theorem dX10_mark_6 : decode cX10_mark 6 = .ok (.ifCond .eq 11, 3) := by decide +kernel
theorem dX10_mark_9 : decode cX10_mark 9 = .ok (.aload_n 0, 1) := by decide +kernel
theorem dX10_mark_10 : decode cX10_mark 10 = .ok (.iload_n 2, 1) := by decide +kernel
theorem dX10_mark_11 : decode cX10_mark 11 = .ok (.invokevirtual 130, 3) := by decide +kernel
theorem dX10_mark_14 : decode cX10_mark 14 = .ok (.ifCond .ne 6, 3) := by decide +kernel
theorem dX10_mark_17 : decode cX10_mark 17 = .ok (.ldc 182, 2) := by decide +kernel
theorem dX10_mark_19 : decode cX10_mark 19 = .ok (.ireturn, 1) := by decide +kernel
theorem dX10_mark_20 : decode cX10_mark 20 = .ok (.iload_n 1, 1) := by decide +kernel
theorem dX10_mark_21 : decode cX10_mark 21 = .ok (.invokestatic 183, 3) := by decide +kernel
theorem dX10_mark_24 : decode cX10_mark 24 = .ok (.istore_n 3, 1) := by decide +kernel
theorem dX10_mark_25 : decode cX10_mark 25 = .ok (.lconst 1, 1) := by decide +kernel
theorem dX10_mark_26 : decode cX10_mark 26 = .ok (.lstore 4, 2) := by decide +kernel
theorem dX10_mark_28 : decode cX10_mark 28 = .ok (.iconst 0, 1) := by decide +kernel
theorem dX10_mark_29 : decode cX10_mark 29 = .ok (.istore 6, 2) := by decide +kernel
theorem dX10_mark_31 : decode cX10_mark 31 = .ok (.iload 6, 2) := by decide +kernel
theorem dX10_mark_33 : decode cX10_mark 33 = .ok (.bipush 6, 2) := by decide +kernel
theorem dX10_mark_35 : decode cX10_mark 35 = .ok (.if_icmp .ge 41, 3) := by decide +kernel
theorem dX10_mark_38 : decode cX10_mark 38 = .ok (.aload_n 0, 1) := by decide +kernel
theorem dX10_mark_39 : decode cX10_mark 39 = .ok (.dup, 1) := by decide +kernel
theorem dX10_mark_40 : decode cX10_mark 40 = .ok (.getfield 186, 3) := by decide +kernel
theorem dX10_mark_43 : decode cX10_mark 43 = .ok (.iload_n 3, 1) := by decide +kernel
theorem dX10_mark_44 : decode cX10_mark 44 = .ok (.iload 6, 2) := by decide +kernel
theorem dX10_mark_46 : decode cX10_mark 46 = .ok (.invokestatic 151, 3) := by decide +kernel
theorem dX10_mark_49 : decode cX10_mark 49 = .ok (.ifCond .eq 8, 3) := by decide +kernel
theorem dX10_mark_52 : decode cX10_mark 52 = .ok (.lload 4, 2) := by decide +kernel
theorem dX10_mark_54 : decode cX10_mark 54 = .ok (.goto 4, 3) := by decide +kernel
theorem dX10_mark_57 : decode cX10_mark 57 = .ok (.lconst 0, 1) := by decide +kernel
theorem dX10_mark_58 : decode cX10_mark 58 = .ok (.ladd, 1) := by decide +kernel
theorem dX10_mark_59 : decode cX10_mark 59 = .ok (.putfield 186, 3) := by decide +kernel
theorem dX10_mark_62 : decode cX10_mark 62 = .ok (.lload 4, 2) := by decide +kernel
theorem dX10_mark_64 : decode cX10_mark 64 = .ok (.ldc2_w 190, 3) := by decide +kernel
theorem dX10_mark_67 : decode cX10_mark 67 = .ok (.lmul, 1) := by decide +kernel
theorem dX10_mark_68 : decode cX10_mark 68 = .ok (.lstore 4, 2) := by decide +kernel
theorem dX10_mark_70 : decode cX10_mark 70 = .ok (.iinc 6 1, 3) := by decide +kernel
theorem dX10_mark_73 : decode cX10_mark 73 = .ok (.goto (-42), 3) := by decide +kernel
theorem dX10_mark_76 : decode cX10_mark 76 = .ok (.aload_n 0, 1) := by decide +kernel
theorem dX10_mark_77 : decode cX10_mark 77 = .ok (.iload_n 2, 1) := by decide +kernel
theorem dX10_mark_78 : decode cX10_mark 78 = .ok (.invokevirtual 122, 3) := by decide +kernel
theorem dX10_mark_81 : decode cX10_mark 81 = .ok (.istore 6, 2) := by decide +kernel
theorem dX10_mark_83 : decode cX10_mark 83 = .ok (.iload 6, 2) := by decide +kernel
theorem dX10_mark_85 : decode cX10_mark 85 = .ok (.iload_n 3, 1) := by decide +kernel
theorem dX10_mark_86 : decode cX10_mark 86 = .ok (.iconst 1, 1) := by decide +kernel
theorem dX10_mark_87 : decode cX10_mark 87 = .ok (.invokestatic 151, 3) := by decide +kernel
theorem dX10_mark_90 : decode cX10_mark 90 = .ok (.ifCond .eq 14, 3) := by decide +kernel
theorem dX10_mark_93 : decode cX10_mark 93 = .ok (.aload_n 0, 1) := by decide +kernel
theorem dX10_mark_94 : decode cX10_mark 94 = .ok (.iload_n 2, 1) := by decide +kernel
theorem dX10_mark_95 : decode cX10_mark 95 = .ok (.invokevirtual 133, 3) := by decide +kernel
theorem dX10_mark_98 : decode cX10_mark 98 = .ok (.invokestatic 145, 3) := by decide +kernel
theorem dX10_mark_101 : decode cX10_mark 101 = .ok (.goto 4, 3) := by decide +kernel
theorem dX10_mark_104 : decode cX10_mark 104 = .ok (.iconst 0, 1) := by decide +kernel
theorem dX10_mark_105 : decode cX10_mark 105 = .ok (.iadd, 1) := by decide +kernel
theorem dX10_mark_106 : decode cX10_mark 106 = .ok (.istore 6, 2) := by decide +kernel
theorem dX10_mark_108 : decode cX10_mark 108 = .ok (.iload 6, 2) := by decide +kernel
theorem dX10_mark_110 : decode cX10_mark 110 = .ok (.iload_n 3, 1) := by decide +kernel
theorem dX10_mark_111 : decode cX10_mark 111 = .ok (.iconst 2, 1) := by decide +kernel
theorem dX10_mark_112 : decode cX10_mark 112 = .ok (.invokestatic 151, 3) := by decide +kernel
theorem dX10_mark_115 : decode cX10_mark 115 = .ok (.ifCond .eq 15, 3) := by decide +kernel
theorem dX10_mark_118 : decode cX10_mark 118 = .ok (.aload_n 0, 1) := by decide +kernel
theorem dX10_mark_119 : decode cX10_mark 119 = .ok (.getfield 38, 3) := by decide +kernel
theorem dX10_mark_122 : decode cX10_mark 122 = .ok (.bipush 10, 2) := by decide +kernel
theorem dX10_mark_124 : decode cX10_mark 124 = .ok (.iload_n 2, 1) := by decide +kernel
theorem dX10_mark_125 : decode cX10_mark 125 = .ok (.iadd, 1) := by decide +kernel
theorem dX10_mark_126 : decode cX10_mark 126 = .ok (.iaload, 1) := by decide +kernel
theorem dX10_mark_127 : decode cX10_mark 127 = .ok (.goto 4, 3) := by decide +kernel
theorem dX10_mark_130 : decode cX10_mark 130 = .ok (.iconst 0, 1) := by decide +kernel
theorem dX10_mark_131 : decode cX10_mark 131 = .ok (.isub, 1) := by decide +kernel
theorem dX10_mark_132 : decode cX10_mark 132 = .ok (.istore 6, 2) := by decide +kernel
theorem dX10_mark_134 : decode cX10_mark 134 = .ok (.iload_n 3, 1) := by decide +kernel
theorem dX10_mark_135 : decode cX10_mark 135 = .ok (.iconst 3, 1) := by decide +kernel
theorem dX10_mark_136 : decode cX10_mark 136 = .ok (.invokestatic 151, 3) := by decide +kernel
theorem dX10_mark_139 : decode cX10_mark 139 = .ok (.ifCond .eq 10, 3) := by decide +kernel
theorem dX10_mark_142 : decode cX10_mark 142 = .ok (.iconst 2, 1) := by decide +kernel
theorem dX10_mark_143 : decode cX10_mark 143 = .ok (.iload 6, 2) := by decide +kernel
theorem dX10_mark_145 : decode cX10_mark 145 = .ok (.imul, 1) := by decide +kernel
theorem dX10_mark_146 : decode cX10_mark 146 = .ok (.goto 5, 3) := by decide +kernel
theorem dX10_mark_149 : decode cX10_mark 149 = .ok (.iload 6, 2) := by decide +kernel
theorem dX10_mark_151 : decode cX10_mark 151 = .ok (.istore 6, 2) := by decide +kernel
theorem dX10_mark_153 : decode cX10_mark 153 = .ok (.iload 6, 2) := by decide +kernel
theorem dX10_mark_155 : decode cX10_mark 155 = .ok (.iload_n 3, 1) := by decide +kernel
theorem dX10_mark_156 : decode cX10_mark 156 = .ok (.iconst 4, 1) := by decide +kernel
theorem dX10_mark_157 : decode cX10_mark 157 = .ok (.invokestatic 151, 3) := by decide +kernel
theorem dX10_mark_160 : decode cX10_mark 160 = .ok (.ifCond .eq 7, 3) := by decide +kernel
theorem dX10_mark_163 : decode cX10_mark 163 = .ok (.iload_n 2, 1) := by decide +kernel
theorem dX10_mark_164 : decode cX10_mark 164 = .ok (.goto 4, 3) := by decide +kernel
theorem dX10_mark_167 : decode cX10_mark 167 = .ok (.iconst 0, 1) := by decide +kernel
theorem dX10_mark_168 : decode cX10_mark 168 = .ok (.iadd, 1) := by decide +kernel
theorem dX10_mark_169 : decode cX10_mark 169 = .ok (.istore 6, 2) := by decide +kernel
theorem dX10_mark_171 : decode cX10_mark 171 = .ok (.iconst 0, 1) := by decide +kernel
theorem dX10_mark_172 : decode cX10_mark 172 = .ok (.istore 7, 2) := by decide +kernel
theorem dX10_mark_174 : decode cX10_mark 174 = .ok (.iload 7, 2) := by decide +kernel
theorem dX10_mark_176 : decode cX10_mark 176 = .ok (.aload_n 0, 1) := by decide +kernel
theorem dX10_mark_177 : decode cX10_mark 177 = .ok (.getfield 17, 3) := by decide +kernel
theorem dX10_mark_180 : decode cX10_mark 180 = .ok (.iconst 0, 1) := by decide +kernel
theorem dX10_mark_181 : decode cX10_mark 181 = .ok (.iaload, 1) := by decide +kernel
theorem dX10_mark_182 : decode cX10_mark 182 = .ok (.if_icmp .ge 37, 3) := by decide +kernel
theorem dX10_mark_185 : decode cX10_mark 185 = .ok (.iload 6, 2) := by decide +kernel
theorem dX10_mark_187 : decode cX10_mark 187 = .ok (.iload_n 3, 1) := by decide +kernel
theorem dX10_mark_188 : decode cX10_mark 188 = .ok (.iconst 5, 1) := by decide +kernel
theorem dX10_mark_189 : decode cX10_mark 189 = .ok (.invokestatic 151, 3) := by decide +kernel
theorem dX10_mark_192 : decode cX10_mark 192 = .ok (.ifCond .eq 17, 3) := by decide +kernel
theorem dX10_mark_195 : decode cX10_mark 195 = .ok (.aload_n 0, 1) := by decide +kernel
theorem dX10_mark_196 : decode cX10_mark 196 = .ok (.iload_n 2, 1) := by decide +kernel
theorem dX10_mark_197 : decode cX10_mark 197 = .ok (.iload 7, 2) := by decide +kernel
theorem dX10_mark_199 : decode cX10_mark 199 = .ok (.invokevirtual 126, 3) := by decide +kernel
theorem dX10_mark_202 : decode cX10_mark 202 = .ok (.ifCond .eq 7, 3) := by decide +kernel
theorem dX10_mark_205 : decode cX10_mark 205 = .ok (.iconst 1, 1) := by decide +kernel
theorem dX10_mark_206 : decode cX10_mark 206 = .ok (.goto 4, 3) := by decide +kernel
theorem dX10_mark_209 : decode cX10_mark 209 = .ok (.iconst 0, 1) := by decide +kernel
theorem dX10_mark_210 : decode cX10_mark 210 = .ok (.iadd, 1) := by decide +kernel
theorem dX10_mark_211 : decode cX10_mark 211 = .ok (.istore 6, 2) := by decide +kernel
theorem dX10_mark_213 : decode cX10_mark 213 = .ok (.iinc 7 1, 3) := by decide +kernel
theorem dX10_mark_216 : decode cX10_mark 216 = .ok (.goto (-42), 3) := by decide +kernel
theorem dX10_mark_219 : decode cX10_mark 219 = .ok (.iload 6, 2) := by decide +kernel
theorem dX10_mark_221 : decode cX10_mark 221 = .ok (.ireturn, 1) := by decide +kernel
theorem dX10_trace_0 : decode cX10_trace 0 = .ok (.aload_n 0, 1) := by decide +kernel
theorem dX10_trace_1 : decode cX10_trace 1 = .ok (.getfield 186, 3) := by decide +kernel
theorem dX10_trace_4 : decode cX10_trace 4 = .ok (.lreturn, 1) := by decide +kernel
set_option maxRecDepth 20000 in
theorem ggX10_keep_X10_in : GoodIn wsX10_keep wsX10_in := goodIn_r _ [9] (by decide +kernel) (by decide +kernel)
set_option maxRecDepth 20000 in
theorem gX10_keep_X10_in : GoodIn wsX10_keep (va_wsS RX10 63 yX10_in wsX10_in) := goodIn_app (goodIn_of _ (by decide +kernel)) ggX10_keep_X10_in
theorem dX10_keep_0 : decode cX10_keep 0 = .ok (.iload_n 1, 1) := by decide +kernel
theorem dX10_keep_1 : decode cX10_keep 1 = .ok (.iconst 0, 1) := by decide +kernel
theorem dX10_keep_2 : decode cX10_keep 2 = .ok (.iconst 1, 1) := by decide +kernel
theorem dX10_keep_3 : decode cX10_keep 3 = .ok (.invokestatic 63, 3) := by decide +kernel
theorem dX10_keep_6 : decode cX10_keep 6 = .ok (.ifCond .ne 5, 3) := by decide +kernel
theorem dX10_keep_9 : decode cX10_keep 9 = .ok (.iconst (-1), 1) := by decide +kernel
theorem dX10_keep_10 : decode cX10_keep 10 = .ok (.ireturn, 1) := by decide +kernel
theorem dX10_keep_11 : decode cX10_keep 11 = .ok (.iconst 0, 1) := by decide +kernel
theorem dX10_keep_12 : decode cX10_keep 12 = .ok (.istore_n 2, 1) := by decide +kernel
theorem dX10_keep_13 : decode cX10_keep 13 = .ok (.iload_n 2, 1) := by decide +kernel
theorem dX10_keep_14 : decode cX10_keep 14 = .ok (.bipush 34, 2) := by decide +kernel
theorem dX10_keep_16 : decode cX10_keep 16 = .ok (.if_icmp .ge 26, 3) := by decide +kernel
theorem dX10_keep_19 : decode cX10_keep 19 = .ok (.aload_n 0, 1) := by decide +kernel
theorem dX10_keep_20 : decode cX10_keep 20 = .ok (.getfield 47, 3) := by decide +kernel
theorem dX10_keep_23 : decode cX10_keep 23 = .ok (.bipush 34, 2) := by decide +kernel
theorem dX10_keep_25 : decode cX10_keep 25 = .ok (.iload_n 1, 1) := by decide +kernel
theorem dX10_keep_26 : decode cX10_keep 26 = .ok (.imul, 1) := by decide +kernel
theorem dX10_keep_27 : decode cX10_keep 27 = .ok (.iload_n 2, 1) := by decide +kernel
theorem dX10_keep_28 : decode cX10_keep 28 = .ok (.iadd, 1) := by decide +kernel
theorem dX10_keep_29 : decode cX10_keep 29 = .ok (.aload_n 0, 1) := by decide +kernel
theorem dX10_keep_30 : decode cX10_keep 30 = .ok (.getfield 38, 3) := by decide +kernel
theorem dX10_keep_33 : decode cX10_keep 33 = .ok (.iload_n 2, 1) := by decide +kernel
theorem dX10_keep_34 : decode cX10_keep 34 = .ok (.iaload, 1) := by decide +kernel
theorem dX10_keep_35 : decode cX10_keep 35 = .ok (.iastore, 1) := by decide +kernel
theorem dX10_keep_36 : decode cX10_keep 36 = .ok (.iinc 2 1, 3) := by decide +kernel
theorem dX10_keep_39 : decode cX10_keep 39 = .ok (.goto (-26), 3) := by decide +kernel
theorem dX10_keep_42 : decode cX10_keep 42 = .ok (.iconst 0, 1) := by decide +kernel
theorem dX10_keep_43 : decode cX10_keep 43 = .ok (.istore_n 2, 1) := by decide +kernel
theorem dX10_keep_44 : decode cX10_keep 44 = .ok (.iload_n 2, 1) := by decide +kernel
theorem dX10_keep_45 : decode cX10_keep 45 = .ok (.sipush 340, 3) := by decide +kernel
theorem dX10_keep_48 : decode cX10_keep 48 = .ok (.if_icmp .ge 29, 3) := by decide +kernel
theorem dX10_keep_51 : decode cX10_keep 51 = .ok (.aload_n 0, 1) := by decide +kernel
theorem dX10_keep_52 : decode cX10_keep 52 = .ok (.getfield 44, 3) := by decide +kernel
theorem dX10_keep_55 : decode cX10_keep 55 = .ok (.sipush 340, 3) := by decide +kernel
theorem dX10_keep_58 : decode cX10_keep 58 = .ok (.iconst 1, 1) := by decide +kernel
theorem dX10_keep_59 : decode cX10_keep 59 = .ok (.iload_n 1, 1) := by decide +kernel
theorem dX10_keep_60 : decode cX10_keep 60 = .ok (.iadd, 1) := by decide +kernel
theorem dX10_keep_61 : decode cX10_keep 61 = .ok (.imul, 1) := by decide +kernel
theorem dX10_keep_62 : decode cX10_keep 62 = .ok (.iload_n 2, 1) := by decide +kernel
theorem dX10_keep_63 : decode cX10_keep 63 = .ok (.iadd, 1) := by decide +kernel
theorem dX10_keep_64 : decode cX10_keep 64 = .ok (.aload_n 0, 1) := by decide +kernel
theorem dX10_keep_65 : decode cX10_keep 65 = .ok (.getfield 44, 3) := by decide +kernel
theorem dX10_keep_68 : decode cX10_keep 68 = .ok (.iload_n 2, 1) := by decide +kernel
theorem dX10_keep_69 : decode cX10_keep 69 = .ok (.iaload, 1) := by decide +kernel
theorem dX10_keep_70 : decode cX10_keep 70 = .ok (.iastore, 1) := by decide +kernel
theorem dX10_keep_71 : decode cX10_keep 71 = .ok (.iinc 2 1, 3) := by decide +kernel
theorem dX10_keep_74 : decode cX10_keep 74 = .ok (.goto (-30), 3) := by decide +kernel
theorem dX10_keep_77 : decode cX10_keep 77 = .ok (.aload_n 0, 1) := by decide +kernel
theorem dX10_keep_78 : decode cX10_keep 78 = .ok (.getfield 41, 3) := by decide +kernel
theorem dX10_keep_81 : decode cX10_keep 81 = .ok (.iconst 1, 1) := by decide +kernel
theorem dX10_keep_82 : decode cX10_keep 82 = .ok (.iload_n 1, 1) := by decide +kernel
theorem dX10_keep_83 : decode cX10_keep 83 = .ok (.iadd, 1) := by decide +kernel
theorem dX10_keep_84 : decode cX10_keep 84 = .ok (.aload_n 0, 1) := by decide +kernel
theorem dX10_keep_85 : decode cX10_keep 85 = .ok (.getfield 41, 3) := by decide +kernel
theorem dX10_keep_88 : decode cX10_keep 88 = .ok (.iconst 0, 1) := by decide +kernel
theorem dX10_keep_89 : decode cX10_keep 89 = .ok (.iaload, 1) := by decide +kernel
theorem dX10_keep_90 : decode cX10_keep 90 = .ok (.iastore, 1) := by decide +kernel
theorem dX10_keep_91 : decode cX10_keep 91 = .ok (.aload_n 0, 1) := by decide +kernel
theorem dX10_keep_92 : decode cX10_keep 92 = .ok (.getfield 50, 3) := by decide +kernel
theorem dX10_keep_95 : decode cX10_keep 95 = .ok (.iload_n 1, 1) := by decide +kernel
theorem dX10_keep_96 : decode cX10_keep 96 = .ok (.iconst 1, 1) := by decide +kernel
theorem dX10_keep_97 : decode cX10_keep 97 = .ok (.bastore, 1) := by decide +kernel
theorem dX10_keep_98 : decode cX10_keep 98 = .ok (.aload_n 0, 1) := by decide +kernel
theorem dX10_keep_99 : decode cX10_keep 99 = .ok (.getfield 38, 3) := by decide +kernel
theorem dX10_keep_102 : decode cX10_keep 102 = .ok (.iconst 0, 1) := by decide +kernel
theorem dX10_keep_103 : decode cX10_keep 103 = .ok (.iaload, 1) := by decide +kernel
theorem dX10_keep_104 : decode cX10_keep 104 = .ok (.ireturn, 1) := by decide +kernel
set_option maxRecDepth 20000 in
theorem ggX10_back_X10_in : GoodIn wsX10_back wsX10_in := goodIn_r _ [9] (by decide +kernel) (by decide +kernel)
set_option maxRecDepth 20000 in
theorem gX10_back_X10_in : GoodIn wsX10_back (va_wsS RX10 63 yX10_in wsX10_in) := goodIn_app (goodIn_of _ (by decide +kernel)) ggX10_back_X10_in
theorem dX10_back_0 : decode cX10_back 0 = .ok (.iload_n 1, 1) := by decide +kernel
theorem dX10_back_1 : decode cX10_back 1 = .ok (.iconst 0, 1) := by decide +kernel
theorem dX10_back_2 : decode cX10_back 2 = .ok (.iconst 1, 1) := by decide +kernel
theorem dX10_back_3 : decode cX10_back 3 = .ok (.invokestatic 63, 3) := by decide +kernel
theorem dX10_back_6 : decode cX10_back 6 = .ok (.ifCond .ne 5, 3) := by decide +kernel
theorem dX10_back_9 : decode cX10_back 9 = .ok (.iconst (-1), 1) := by decide +kernel
theorem dX10_back_10 : decode cX10_back 10 = .ok (.ireturn, 1) := by decide +kernel
theorem dX10_back_11 : decode cX10_back 11 = .ok (.aload_n 0, 1) := by decide +kernel
theorem dX10_back_12 : decode cX10_back 12 = .ok (.getfield 50, 3) := by decide +kernel
theorem dX10_back_15 : decode cX10_back 15 = .ok (.iload_n 1, 1) := by decide +kernel
theorem dX10_back_16 : decode cX10_back 16 = .ok (.baload, 1) := by decide +kernel
theorem dX10_back_17 : decode cX10_back 17 = .ok (.ifCond .ne 6, 3) := by decide +kernel
theorem dX10_back_20 : decode cX10_back 20 = .ok (.bipush (-2), 2) := by decide +kernel
theorem dX10_back_22 : decode cX10_back 22 = .ok (.ireturn, 1) := by decide +kernel
theorem dX10_back_23 : decode cX10_back 23 = .ok (.iconst 0, 1) := by decide +kernel
theorem dX10_back_24 : decode cX10_back 24 = .ok (.istore_n 2, 1) := by decide +kernel
theorem dX10_back_25 : decode cX10_back 25 = .ok (.iload_n 2, 1) := by decide +kernel
theorem dX10_back_26 : decode cX10_back 26 = .ok (.bipush 34, 2) := by decide +kernel
theorem dX10_back_28 : decode cX10_back 28 = .ok (.if_icmp .ge 26, 3) := by decide +kernel
theorem dX10_back_31 : decode cX10_back 31 = .ok (.aload_n 0, 1) := by decide +kernel
theorem dX10_back_32 : decode cX10_back 32 = .ok (.getfield 38, 3) := by decide +kernel
theorem dX10_back_35 : decode cX10_back 35 = .ok (.iload_n 2, 1) := by decide +kernel
theorem dX10_back_36 : decode cX10_back 36 = .ok (.aload_n 0, 1) := by decide +kernel
theorem dX10_back_37 : decode cX10_back 37 = .ok (.getfield 47, 3) := by decide +kernel
theorem dX10_back_40 : decode cX10_back 40 = .ok (.bipush 34, 2) := by decide +kernel
theorem dX10_back_42 : decode cX10_back 42 = .ok (.iload_n 1, 1) := by decide +kernel
theorem dX10_back_43 : decode cX10_back 43 = .ok (.imul, 1) := by decide +kernel
theorem dX10_back_44 : decode cX10_back 44 = .ok (.iload_n 2, 1) := by decide +kernel
theorem dX10_back_45 : decode cX10_back 45 = .ok (.iadd, 1) := by decide +kernel
theorem dX10_back_46 : decode cX10_back 46 = .ok (.iaload, 1) := by decide +kernel
theorem dX10_back_47 : decode cX10_back 47 = .ok (.iastore, 1) := by decide +kernel
theorem dX10_back_48 : decode cX10_back 48 = .ok (.iinc 2 1, 3) := by decide +kernel
theorem dX10_back_51 : decode cX10_back 51 = .ok (.goto (-26), 3) := by decide +kernel
theorem dX10_back_54 : decode cX10_back 54 = .ok (.iconst 0, 1) := by decide +kernel
theorem dX10_back_55 : decode cX10_back 55 = .ok (.istore_n 2, 1) := by decide +kernel
theorem dX10_back_56 : decode cX10_back 56 = .ok (.iload_n 2, 1) := by decide +kernel
theorem dX10_back_57 : decode cX10_back 57 = .ok (.sipush 340, 3) := by decide +kernel
theorem dX10_back_60 : decode cX10_back 60 = .ok (.if_icmp .ge 29, 3) := by decide +kernel
theorem dX10_back_63 : decode cX10_back 63 = .ok (.aload_n 0, 1) := by decide +kernel
theorem dX10_back_64 : decode cX10_back 64 = .ok (.getfield 44, 3) := by decide +kernel
theorem dX10_back_67 : decode cX10_back 67 = .ok (.iload_n 2, 1) := by decide +kernel
theorem dX10_back_68 : decode cX10_back 68 = .ok (.aload_n 0, 1) := by decide +kernel
theorem dX10_back_69 : decode cX10_back 69 = .ok (.getfield 44, 3) := by decide +kernel
theorem dX10_back_72 : decode cX10_back 72 = .ok (.sipush 340, 3) := by decide +kernel
theorem dX10_back_75 : decode cX10_back 75 = .ok (.iconst 1, 1) := by decide +kernel
theorem dX10_back_76 : decode cX10_back 76 = .ok (.iload_n 1, 1) := by decide +kernel
theorem dX10_back_77 : decode cX10_back 77 = .ok (.iadd, 1) := by decide +kernel
theorem dX10_back_78 : decode cX10_back 78 = .ok (.imul, 1) := by decide +kernel
theorem dX10_back_79 : decode cX10_back 79 = .ok (.iload_n 2, 1) := by decide +kernel
theorem dX10_back_80 : decode cX10_back 80 = .ok (.iadd, 1) := by decide +kernel
theorem dX10_back_81 : decode cX10_back 81 = .ok (.iaload, 1) := by decide +kernel
theorem dX10_back_82 : decode cX10_back 82 = .ok (.iastore, 1) := by decide +kernel
theorem dX10_back_83 : decode cX10_back 83 = .ok (.iinc 2 1, 3) := by decide +kernel
theorem dX10_back_86 : decode cX10_back 86 = .ok (.goto (-30), 3) := by decide +kernel
theorem dX10_back_89 : decode cX10_back 89 = .ok (.aload_n 0, 1) := by decide +kernel
theorem dX10_back_90 : decode cX10_back 90 = .ok (.getfield 41, 3) := by decide +kernel
theorem dX10_back_93 : decode cX10_back 93 = .ok (.iconst 0, 1) := by decide +kernel
theorem dX10_back_94 : decode cX10_back 94 = .ok (.aload_n 0, 1) := by decide +kernel
theorem dX10_back_95 : decode cX10_back 95 = .ok (.getfield 41, 3) := by decide +kernel
theorem dX10_back_98 : decode cX10_back 98 = .ok (.iconst 1, 1) := by decide +kernel
theorem dX10_back_99 : decode cX10_back 99 = .ok (.iload_n 1, 1) := by decide +kernel
theorem dX10_back_100 : decode cX10_back 100 = .ok (.iadd, 1) := by decide +kernel
theorem dX10_back_101 : decode cX10_back 101 = .ok (.iaload, 1) := by decide +kernel
theorem dX10_back_102 : decode cX10_back 102 = .ok (.iastore, 1) := by decide +kernel
theorem dX10_back_103 : decode cX10_back 103 = .ok (.aload_n 0, 1) := by decide +kernel
theorem dX10_back_104 : decode cX10_back 104 = .ok (.getfield 38, 3) := by decide +kernel
theorem dX10_back_107 : decode cX10_back 107 = .ok (.iconst 0, 1) := by decide +kernel
theorem dX10_back_108 : decode cX10_back 108 = .ok (.iaload, 1) := by decide +kernel
theorem dX10_back_109 : decode cX10_back 109 = .ok (.ireturn, 1) := by decide +kernel
theorem dX10_count_0 : decode cX10_count 0 = .ok (.iload_n 1, 1) := by decide +kernel
theorem dX10_count_1 : decode cX10_count 1 = .ok (.tableswitch 77 0 5 #[39, 46, 53, 60, 65, 72], 39) := by decide +kernel
theorem dX10_count_40 : decode cX10_count 40 = .ok (.aload_n 0, 1) := by decide +kernel
theorem dX10_count_41 : decode cX10_count 41 = .ok (.getfield 13, 3) := by decide +kernel
theorem dX10_count_44 : decode cX10_count 44 = .ok (.iconst 0, 1) := by decide +kernel
theorem dX10_count_45 : decode cX10_count 45 = .ok (.iaload, 1) := by decide +kernel
theorem dX10_count_46 : decode cX10_count 46 = .ok (.ireturn, 1) := by decide +kernel
theorem dX10_count_47 : decode cX10_count 47 = .ok (.aload_n 0, 1) := by decide +kernel
theorem dX10_count_48 : decode cX10_count 48 = .ok (.getfield 17, 3) := by decide +kernel
theorem dX10_count_51 : decode cX10_count 51 = .ok (.iconst 0, 1) := by decide +kernel
theorem dX10_count_52 : decode cX10_count 52 = .ok (.iaload, 1) := by decide +kernel
theorem dX10_count_53 : decode cX10_count 53 = .ok (.ireturn, 1) := by decide +kernel
theorem dX10_count_54 : decode cX10_count 54 = .ok (.aload_n 0, 1) := by decide +kernel
theorem dX10_count_55 : decode cX10_count 55 = .ok (.getfield 29, 3) := by decide +kernel
theorem dX10_count_58 : decode cX10_count 58 = .ok (.iconst 0, 1) := by decide +kernel
theorem dX10_count_59 : decode cX10_count 59 = .ok (.iaload, 1) := by decide +kernel
theorem dX10_count_60 : decode cX10_count 60 = .ok (.ireturn, 1) := by decide +kernel
theorem dX10_count_61 : decode cX10_count 61 = .ok (.aload_n 0, 1) := by decide +kernel
theorem dX10_count_62 : decode cX10_count 62 = .ok (.getfield 116, 3) := by decide +kernel
theorem dX10_count_65 : decode cX10_count 65 = .ok (.ireturn, 1) := by decide +kernel
theorem dX10_count_66 : decode cX10_count 66 = .ok (.aload_n 0, 1) := by decide +kernel
theorem dX10_count_67 : decode cX10_count 67 = .ok (.getfield 41, 3) := by decide +kernel
theorem dX10_count_70 : decode cX10_count 70 = .ok (.iconst 0, 1) := by decide +kernel
theorem dX10_count_71 : decode cX10_count 71 = .ok (.iaload, 1) := by decide +kernel
theorem dX10_count_72 : decode cX10_count 72 = .ok (.ireturn, 1) := by decide +kernel
theorem dX10_count_73 : decode cX10_count 73 = .ok (.aload_n 0, 1) := by decide +kernel
theorem dX10_count_74 : decode cX10_count 74 = .ok (.getfield 67, 3) := by decide +kernel
theorem dX10_count_77 : decode cX10_count 77 = .ok (.ireturn, 1) := by decide +kernel
theorem dX10_count_78 : decode cX10_count 78 = .ok (.iconst (-1), 1) := by decide +kernel
theorem dX10_count_79 : decode cX10_count 79 = .ok (.ireturn, 1) := by decide +kernel
end
section
/-! the heap of the system as a list of cells from the address b0 on; references are places in it -/
abbrev SC : Type := (Nat × Nat × (Nat → Int32)) ⊕ ((Nat × Nat × (Nat → Option Nat)) ⊕ (Nat × List Value))
abbrev HL : Type := List SC
def shv (b0 : Nat) (v : Value) : Value := match v with
  | .ref i => .ref (b0 + i)
  | w => w
def mcell (b0 : Nat) (cA : Nat → ClassId) (x : SC) : va_E := match x with
  | .inl (t, n, f) => .inl (cA t, n, .inl f)
  | .inr (.inl (t, n, f)) => .inl (cA t, n, .inr (.inr (.inr (.inr (fun j => (f j).map (fun i => b0 + i))))))
  | .inr (.inr (ci, fs)) => .inr (ci, fs.map (shv b0))
def tysA (cA : Nat → ClassId) : List (ClassId × FieldType) := [(cA 0, .int), (cA 1, .byte), (cA 2, .boolean), (cA 3, .object "KindStreets$Moment"), (cA 4, .object "KindStreets$Now")]
def KK (D : va_G) (cA : Nat → ClassId) (U : State) : Prop := va_K D vwCl (tysA cA) U ∧ va_AO "KindStreets$Moment" U ∧ va_AO "KindStreets$Now" U
theorem KK.moved {D : va_G} {cA : Nat → ClassId} {u U : State} (hvm : u.vm.Alike U.vm) (h : KK D cA u) : KK D cA U := ⟨va_K.moved hvm h.1, va_AO.moved hvm h.2.1, va_AO.moved hvm h.2.2⟩
def HPr (b0 : Nat) (D : va_G) (cA : Nat → ClassId) (L : HL) (H : Heap) : Prop := H.size = b0 + L.length ∧ ∀ (i : Nat) (x : SC), L[i]? = some x → va_at D vwCl (b0 + i, mcell b0 cA x) H
abbrev Ab (b0 : Nat) : Nat → Prop := fun q => b0 ≤ q
theorem HPr.set {b0 : Nat} {D : va_G} {cA : Nat → ClassId} {L : HL} {H H1 : Heap} {i : Nat} {x : SC} (h : HPr b0 D cA L H) (hi : i < L.length) (he : va_at D vwCl (b0 + i, mcell b0 cA x) H1) (hz : H1.size = H.size) (ho : ∀ q, q ≠ b0 + i → H1[q]? = H[q]?) : HPr b0 D cA (L.set i x) H1 := by
  refine ⟨by rw [hz, List.length_set]; exact h.1, fun j y hj => ?_⟩
  by_cases hji : j = i
  · subst hji
    rw [List.getElem?_set_self hi] at hj
    cases hj
    exact he
  · rw [List.getElem?_set_ne (Ne.symm hji)] at hj
    exact (h.2 j y hj).kept (ho _ (by show b0 + j ≠ b0 + i; omega))
theorem HPr.push {b0 : Nat} {D : va_G} {cA : Nat → ClassId} {L : HL} {H H1 : Heap} {x : SC} (h : HPr b0 D cA L H) (he : va_at D vwCl (b0 + L.length, mcell b0 cA x) H1) (hz : H1.size = b0 + L.length + 1) (ho : ∀ q, q < b0 + L.length → H1[q]? = H[q]?) : HPr b0 D cA (L ++ [x]) H1 := by
  refine ⟨by rw [hz, List.length_append]; rfl, fun j y hj => ?_⟩
  by_cases hl : j < L.length
  · rw [List.getElem?_append_left hl] at hj
    exact (h.2 j y hj).kept (ho _ (by show b0 + j < b0 + L.length; omega))
  · rw [List.getElem?_append_right (by omega)] at hj
    have hz : j - L.length < 1 := (List.getElem?_eq_some_iff.mp hj).1
    have hj0 : j = L.length := by omega
    subst hj0
    rw [Nat.sub_self] at hj
    cases hj
    exact he
/-- reads and writes -/
def o_g (L : HL) (q ci k : Nat) : Option Value := match L[q]? with
  | some (.inr (.inr (c, fs))) => if c = ci then fs[k]? else none
  | _ => none
def o_gI (L : HL) (q ci k : Nat) : Option Int32 := match o_g L q ci k with
  | some (.int v) => some v
  | _ => none
def o_gJ (L : HL) (q ci k : Nat) : Option Int64 := match o_g L q ci k with
  | some (.long v) => some v
  | _ => none
def o_gR (L : HL) (q ci k : Nat) : Option Nat := match o_g L q ci k with
  | some (.ref v) => some v
  | _ => none
def o_p (L : HL) (q ci k : Nat) (v : Value) : Option HL := match L[q]? with
  | some (.inr (.inr (c, fs))) => if c = ci ∧ k < fs.length then some (L.set q (.inr (.inr (c, fs.set k v)))) else none
  | _ => none
def o_ob (L : HL) (q ci : Nat) : Option Unit := match L[q]? with
  | some (.inr (.inr (c, _))) => if c = ci then some () else none
  | _ => none
def o_aI (L : HL) (q t : Nat) (i : Int32) : Option Int32 := match L[q]? with
  | some (.inl (u, n, f)) => if u = t ∧ ¬ (i < 0 ∨ n ≤ i.toNatClampNeg) then some (f i.toNatClampNeg) else none
  | _ => none
def o_sI (L : HL) (q t : Nat) (i x : Int32) : Option HL := match L[q]? with
  | some (.inl (u, n, f)) => if u = t ∧ ¬ (i < 0 ∨ n ≤ i.toNatClampNeg) then some (L.set q (.inl (u, n, upd f i.toNatClampNeg x))) else none
  | _ => none
def o_aR (L : HL) (q t : Nat) (i : Int32) : Option Nat := match L[q]? with
  | some (.inr (.inl (u, n, f))) => if u = t ∧ ¬ (i < 0 ∨ n ≤ i.toNatClampNeg) then f i.toNatClampNeg else none
  | _ => none
def o_sR (L : HL) (q t ci : Nat) (i : Int32) (v : Nat) : Option HL := match L[q]?, L[v]? with
  | some (.inr (.inl (u, n, f))), some (.inr (.inr (c, _))) => if (u = t ∧ c = ci) ∧ ¬ (i < 0 ∨ n ≤ i.toNatClampNeg) then some (L.set q (.inr (.inl (u, n, va_up f i.toNatClampNeg (some v))))) else none
  | _, _ => none
def o_len (L : HL) (q t : Nat) : Option Int32 := match L[q]? with
  | some (.inl (u, n, _)) => if u = t then some (Int32.ofNat n) else none
  | _ => none
def o_cp (L : HL) (q0 : Nat) (sp : Int32) (q1 : Nat) (dp n : Int32) : Option HL := match L[q0]?, L[q1]? with
  | some (.inl (u0, n0, f)), some (.inl (u1, n1, g)) => if (u0 = 0 ∧ u1 = 0) ∧ (¬ sp < 0 ∧ ¬ dp < 0 ∧ ¬ n < 0) ∧ sp.toNatClampNeg + n.toNatClampNeg ≤ n0 ∧ dp.toNatClampNeg + n.toNatClampNeg ≤ n1 then some (L.set q1 (.inl (u1, n1, va_cpy f g sp.toNatClampNeg dp.toNatClampNeg n.toNatClampNeg))) else none
  | _, _ => none
theorem o_g_spec {L : HL} {q ci k : Nat} {v : Value} (h : o_g L q ci k = some v) : ∃ fs, L[q]? = some (.inr (.inr (ci, fs))) ∧ fs[k]? = some v := by
  unfold o_g at h
  split at h
  · rename_i c fs hq
    split at h
    · rename_i hc; subst hc; exact ⟨fs, hq, h⟩
    · cases h
  · cases h
theorem o_gI_spec {L : HL} {q ci k : Nat} {v : Int32} (h : o_gI L q ci k = some v) : o_g L q ci k = some (.int v) := by
  unfold o_gI at h
  split at h
  · rename_i w hw; cases h; exact hw
  · cases h
theorem o_gJ_spec {L : HL} {q ci k : Nat} {v : Int64} (h : o_gJ L q ci k = some v) : o_g L q ci k = some (.long v) := by
  unfold o_gJ at h
  split at h
  · rename_i w hw; cases h; exact hw
  · cases h
theorem o_gR_spec {L : HL} {q ci k : Nat} {v : Nat} (h : o_gR L q ci k = some v) : o_g L q ci k = some (.ref v) := by
  unfold o_gR at h
  split at h
  · rename_i w hw; cases h; exact hw
  · cases h
theorem o_p_spec {L L1 : HL} {q ci k : Nat} {v : Value} (h : o_p L q ci k v = some L1) : ∃ fs, L[q]? = some (.inr (.inr (ci, fs))) ∧ k < fs.length ∧ L1 = L.set q (.inr (.inr (ci, fs.set k v))) := by
  unfold o_p at h
  split at h
  · rename_i c fs hq
    split at h
    · rename_i hc; obtain ⟨rfl, hk⟩ := hc; cases h; exact ⟨fs, hq, hk, rfl⟩
    · cases h
  · cases h
theorem o_ob_spec {L : HL} {q ci : Nat} {u : Unit} (h : o_ob L q ci = some u) : ∃ fs, L[q]? = some (.inr (.inr (ci, fs))) := by
  unfold o_ob at h
  split at h
  · rename_i c fs hq
    split at h
    · rename_i hc; subst hc; exact ⟨fs, hq⟩
    · cases h
  · cases h
theorem o_aI_spec {L : HL} {q t : Nat} {i v : Int32} (h : o_aI L q t i = some v) : ∃ n f, L[q]? = some (.inl (t, n, f)) ∧ vp_in i n ∧ v = f i.toNatClampNeg := by
  unfold o_aI at h
  split at h
  · rename_i u n f hq
    split at h
    · rename_i hc; obtain ⟨rfl, hk⟩ := hc; cases h; exact ⟨n, f, hq, hk, rfl⟩
    · cases h
  · cases h
theorem o_sI_spec {L L1 : HL} {q t : Nat} {i x : Int32} (h : o_sI L q t i x = some L1) : ∃ n f, L[q]? = some (.inl (t, n, f)) ∧ vp_in i n ∧ L1 = L.set q (.inl (t, n, upd f i.toNatClampNeg x)) := by
  unfold o_sI at h
  split at h
  · rename_i u n f hq
    split at h
    · rename_i hc; obtain ⟨rfl, hk⟩ := hc; cases h; exact ⟨n, f, hq, hk, rfl⟩
    · cases h
  · cases h
theorem o_aR_spec {L : HL} {q t : Nat} {i : Int32} {v : Nat} (h : o_aR L q t i = some v) : ∃ n f, L[q]? = some (.inr (.inl (t, n, f))) ∧ vp_in i n ∧ f i.toNatClampNeg = some v := by
  unfold o_aR at h
  split at h
  · rename_i u n f hq
    split at h
    · rename_i hc; obtain ⟨rfl, hk⟩ := hc; exact ⟨n, f, hq, hk, h⟩
    · cases h
  · cases h
theorem o_sR_spec {L L1 : HL} {q t ci : Nat} {i : Int32} {v : Nat} (h : o_sR L q t ci i v = some L1) : ∃ n f vs, L[q]? = some (.inr (.inl (t, n, f))) ∧ L[v]? = some (.inr (.inr (ci, vs))) ∧ vp_in i n ∧ L1 = L.set q (.inr (.inl (t, n, va_up f i.toNatClampNeg (some v)))) := by
  unfold o_sR at h
  split at h
  · rename_i u n f c vs hq hv
    split at h
    · rename_i hc; obtain ⟨⟨rfl, rfl⟩, hk⟩ := hc; cases h; exact ⟨n, f, vs, hq, hv, hk, rfl⟩
    · cases h
  · cases h
theorem o_len_spec {L : HL} {q t : Nat} {v : Int32} (h : o_len L q t = some v) : ∃ n f, L[q]? = some (.inl (t, n, f)) ∧ v = Int32.ofNat n := by
  unfold o_len at h
  split at h
  · rename_i u n f hq
    split at h
    · rename_i hc; subst hc; cases h; exact ⟨n, f, hq, rfl⟩
    · cases h
  · cases h
theorem o_cp_spec {L L1 : HL} {q0 q1 : Nat} {sp dp n : Int32} (h : o_cp L q0 sp q1 dp n = some L1) : ∃ n0 f n1 g, L[q0]? = some (.inl (0, n0, f)) ∧ L[q1]? = some (.inl (0, n1, g)) ∧ (¬ sp < 0 ∧ ¬ dp < 0 ∧ ¬ n < 0) ∧ sp.toNatClampNeg + n.toNatClampNeg ≤ n0 ∧ dp.toNatClampNeg + n.toNatClampNeg ≤ n1 ∧ L1 = L.set q1 (.inl (0, n1, va_cpy f g sp.toNatClampNeg dp.toNatClampNeg n.toNatClampNeg)) := by
  unfold o_cp at h
  split at h
  · rename_i u0 n0 f u1 n1 g hq0 hq1
    split at h
    · rename_i hc; obtain ⟨⟨rfl, rfl⟩, h1, h2, h3⟩ := hc; cases h; exact ⟨n0, f, n1, g, hq0, hq1, h1, h2, h3, rfl⟩
    · cases h
  · cases h
theorem va_P1 {D : va_G} {cl : List vw_C} {x : Nat × va_E} {H : Heap} (h : va_at D cl x H) : va_P D cl [x] H := by
  intro k q hk
  have hz : k < 1 := (List.getElem?_eq_some_iff.mp hk).1
  rw [show k = 0 by omega] at hk
  cases hk
  exact h
def Qk (b0 : Nat) (D : va_G) (cA : Nat → ClassId) (rv : Option Value) (L : HL) : Array Value → State → Outcome → State → Prop := fun _ st oc t => oc = .returned rv ∧ HPr b0 D cA L t.heap ∧ va_F (Ab b0) st t
abbrev Pk (b0 : Nat) (D : va_G) (cA : Nat → ClassId) (av : List Value) (L : HL) : Array Value → State → Prop := va_Pc av (fun U => HPr b0 D cA L U.heap ∧ KK D cA U)
abbrev RM (d mc ms : Nat) : Room := { frames := d, cells := mc, slots := ms, locals := 40 * d }
theorem Pk_blind {b0 : Nat} {D : va_G} {cA : Nat → ClassId} {av : List Value} {L : HL} : FrameBlind (Pk b0 D cA av L) := fun a U g mk q => ⟨q.1, q.2.1, KK.moved (u := U) (U := U.calling g mk a) (Vm.Alike.refl U.vm) q.2.2⟩
section RW
variable {p : Program} {l : Launch} {e : Env} {R : Room} {s : State} {m : MethodId} {args : Array Value} {below : List Frame} {meth : Method} {c : Code} {H : Heap} {locs : List Loc} {cells slots : Nat} {Q : State → Prop}
variable {cc : ByteArray} {pc : Nat} {ls : Array Slot} {rest : List Value} {b0 : Nat} {D : va_G} {cA : Nat → ClassId} {L L1 : HL}
theorem r_g {own ref C : String} {T : u_T} {N ci index q k : Nat} {Ts : List Cond} {v : Value} (hx : p.tables.exec = Jvm.exec) (hb : c.code = cc) (hts : ∀ w ∈ Ts, w.before args s = true) (hin : ∀ w ∈ u_ws C T N, w ∈ Ts) (hown : s.vm.findClass own = some m.cls) (hK : KK D cA s) (hH : HPr b0 D cA L H) (hq : o_g L q ci k = some v) (hc : vwCl[ci]? = some (C, T, N)) (hk : k < N) (hlink : (Cond.fieldLink own index ref (T k).2.1 (T k).2.2.1).before args s = true) (hsame : ∀ x, s.fieldFound? (T k).1 (T k).2.1 (T k).2.2.1 = some x → s.fieldFound? ref (T k).2.1 (T k).2.2.1 = some x) (hdg : decode cc pc = .ok (.getfield index, 3))
    (kk : W p l e R s m args below meth c H locs cells slots Q (F0 m (pc + 3) ls (shv b0 v :: rest))) : W p l e R s m args below meth c H locs cells slots Q (F0 m pc ls (.ref (b0 + q) :: rest)) := by
  obtain ⟨fs, hL, hv⟩ := o_g_spec hq
  exact va_get (D := D) (cl := vwCl) (tys := tysA cA) (ws := [(b0 + q, .inr (ci, fs.map (shv b0)))]) hx hb hts hin hown hK.1 (va_P1 (hH.2 q _ hL)) 0 rfl hc k hk hlink hsame (v := shv b0 v) (by rw [List.getElem?_map, hv]; rfl) hdg kk
theorem r_gI {own ref C : String} {T : u_T} {N ci index q : Nat} {Ts : List Cond} {v : Int32} (k : Nat) (hx : p.tables.exec = Jvm.exec) (hb : c.code = cc) (hts : ∀ w ∈ Ts, w.before args s = true) (hin : ∀ w ∈ u_ws C T N, w ∈ Ts) (hown : s.vm.findClass own = some m.cls) (hK : KK D cA s) (hH : HPr b0 D cA L H) (hq : o_gI L q ci k = some v) (hc : vwCl[ci]? = some (C, T, N)) (hk : k < N) (hlink : (Cond.fieldLink own index ref (T k).2.1 (T k).2.2.1).before args s = true) (hsame : ∀ x, s.fieldFound? (T k).1 (T k).2.1 (T k).2.2.1 = some x → s.fieldFound? ref (T k).2.1 (T k).2.2.1 = some x) (hdg : decode cc pc = .ok (.getfield index, 3))
    (kk : W p l e R s m args below meth c H locs cells slots Q (F0 m (pc + 3) ls (.int v :: rest))) : W p l e R s m args below meth c H locs cells slots Q (F0 m pc ls (.ref (b0 + q) :: rest)) := r_g hx hb hts hin hown hK hH (o_gI_spec hq) hc hk hlink hsame hdg kk
theorem r_gJ {own ref C : String} {T : u_T} {N ci index q : Nat} {Ts : List Cond} {v : Int64} (k : Nat) (hx : p.tables.exec = Jvm.exec) (hb : c.code = cc) (hts : ∀ w ∈ Ts, w.before args s = true) (hin : ∀ w ∈ u_ws C T N, w ∈ Ts) (hown : s.vm.findClass own = some m.cls) (hK : KK D cA s) (hH : HPr b0 D cA L H) (hq : o_gJ L q ci k = some v) (hc : vwCl[ci]? = some (C, T, N)) (hk : k < N) (hlink : (Cond.fieldLink own index ref (T k).2.1 (T k).2.2.1).before args s = true) (hsame : ∀ x, s.fieldFound? (T k).1 (T k).2.1 (T k).2.2.1 = some x → s.fieldFound? ref (T k).2.1 (T k).2.2.1 = some x) (hdg : decode cc pc = .ok (.getfield index, 3))
    (kk : W p l e R s m args below meth c H locs cells slots Q (F0 m (pc + 3) ls (.long v :: rest))) : W p l e R s m args below meth c H locs cells slots Q (F0 m pc ls (.ref (b0 + q) :: rest)) := r_g hx hb hts hin hown hK hH (o_gJ_spec hq) hc hk hlink hsame hdg kk
theorem r_gR {own ref C : String} {T : u_T} {N ci index q : Nat} {Ts : List Cond} {v : Nat} (k : Nat) (hx : p.tables.exec = Jvm.exec) (hb : c.code = cc) (hts : ∀ w ∈ Ts, w.before args s = true) (hin : ∀ w ∈ u_ws C T N, w ∈ Ts) (hown : s.vm.findClass own = some m.cls) (hK : KK D cA s) (hH : HPr b0 D cA L H) (hq : o_gR L q ci k = some v) (hc : vwCl[ci]? = some (C, T, N)) (hk : k < N) (hlink : (Cond.fieldLink own index ref (T k).2.1 (T k).2.2.1).before args s = true) (hsame : ∀ x, s.fieldFound? (T k).1 (T k).2.1 (T k).2.2.1 = some x → s.fieldFound? ref (T k).2.1 (T k).2.2.1 = some x) (hdg : decode cc pc = .ok (.getfield index, 3))
    (kk : W p l e R s m args below meth c H locs cells slots Q (F0 m (pc + 3) ls (.ref (b0 + v) :: rest))) : W p l e R s m args below meth c H locs cells slots Q (F0 m pc ls (.ref (b0 + q) :: rest)) := r_g hx hb hts hin hown hK hH (o_gR_spec hq) hc hk hlink hsame hdg kk
theorem map_set_shv (b0 : Nat) (fs : List Value) (k : Nat) (v : Value) : (fs.set k v).map (shv b0) = (fs.map (shv b0)).set k (shv b0 v) := by rw [List.map_set]
theorem r_p {own ref C : String} {T : u_T} {N ci index q : Nat} {Ts : List Cond} {v : Value} (k : Nat) (hx : p.tables.exec = Jvm.exec) (hb : c.code = cc) (hts : ∀ w ∈ Ts, w.before args s = true) (hin : ∀ w ∈ u_ws C T N, w ∈ Ts) (ty0 : Nat → FieldType) (hty : ∀ k, k < N → parseFieldDescriptor (T k).2.2.1 = some (ty0 k)) (hnm : ∀ a, a < N → ∀ b, b < N → a ≠ b → (T a).2.1 ≠ (T b).2.1) (hown : s.vm.findClass own = some m.cls) (hK : KK D cA s) (hH : HPr b0 D cA L H) (hS0 : va_S (Ab b0) s.heap H locs) (hq : o_p L q ci k v = some L1) (hc : vwCl[ci]? = some (C, T, N)) (hk : k < N) (hlink : (Cond.fieldLink own index ref (T k).2.1 (T k).2.2.1).before args s = true) (hsame : ∀ x, s.fieldFound? (T k).1 (T k).2.1 (T k).2.2.1 = some x → s.fieldFound? ref (T k).2.1 (T k).2.2.1 = some x) (hfin : (T k).2.2.2 = false) {ty : FieldType} (hd : parseFieldDescriptor (T k).2.2.1 = some ty) (hn : narrow ty (shv b0 v) = shv b0 v) (hfit : fits ty (shv b0 v) = true) (hdg : decode cc pc = .ok (.putfield index, 3))
    (kk : ∀ (H1 : Heap) (locs1 : List Loc), HPr b0 D cA L1 H1 → va_S (Ab b0) s.heap H1 locs1 → W p l e R s m args below meth c H1 locs1 cells slots Q (F0 m (pc + 3) ls rest)) : W p l e R s m args below meth c H locs cells slots Q (F0 m pc ls (shv b0 v :: .ref (b0 + q) :: rest)) := by
  obtain ⟨fs, hL, hl, rfl⟩ := o_p_spec hq
  have hap := va_apart (own := own) hts hin ty0 hty hnm hK.1 hc
  obtain ⟨r, h1, cell, q1, q2, q3, q4⟩ := hH.2 q _ hL
  have hr : r = (C, T, N) := Option.some.inj (h1.symm.trans hc)
  subst hr
  obtain ⟨hS, hfc, kC, hkC, hkind⟩ := hK.1.1 ci _ hc
  obtain ⟨cf, kf, fi, f, hi, hsl⟩ := hS k hk
  have hlay := hts _ (hin _ (u_in_lay hk))
  unfold u_lay at hlay
  rw [if_neg (by rw [hfin]; decide)] at hlay
  have hst := (u_facts hfc hkC (u_lays hts hin hk) hi).1
  have h6 := u_store hfc hkC hkind hlay hi hd hn hfit
  refine W.putK hx hb (f := f) ⟨hown, hlink, ⟨_, _, _, hsame _ hi⟩, hst⟩ (by rw [q2]; exact h6) q1 q3 (by rw [hsl]; exact k2_hasslot (q4 k hk)) rfl rfl hdg fun H' e1 e2 e3 => ?_
  rw [hsl] at e1 ⊢
  have hlq : q < L.length := (List.getElem?_eq_some_iff.mp hL).1
  refine kk H' _ (hH.set hlq ⟨_, hc, ?_⟩ e2 e3) (hS0.put e2 e3 (Nat.le_add_right _ _))
  show t_OB _ _ _ _ _ (vp_V ((fs.set k v).map (shv b0)))
  rw [map_set_shv]
  exact t_OB.to (V := updV (vp_V (fs.map (shv b0))) k (shv b0 v)) ⟨_, e1, q2, q3, t_set q4 hap hk (shv b0 v)⟩ (fun j _ => vp_updV_set (by rw [List.length_map]; exact hl) (shv b0 v) j)
theorem r_pF {own ref C : String} {T : u_T} {N ci index q : Nat} {Ts : List Cond} {v : Value} (k : Nat) (hx : p.tables.exec = Jvm.exec) (hb : c.code = cc) (hts : ∀ w ∈ Ts, w.before args s = true) (hin : ∀ w ∈ u_ws C T N, w ∈ Ts) (ty0 : Nat → FieldType) (hty : ∀ k, k < N → parseFieldDescriptor (T k).2.2.1 = some (ty0 k)) (hnm : ∀ a, a < N → ∀ b, b < N → a ≠ b → (T a).2.1 ≠ (T b).2.1) (hown : s.vm.findClass own = some m.cls) (hK : KK D cA s) (hH : HPr b0 D cA L H) (hS0 : va_S (Ab b0) s.heap H locs) (hq : o_p L q ci k v = some L1) (hc : vwCl[ci]? = some (C, T, N)) (hk : k < N) (hlink : (Cond.fieldLink own index ref (T k).2.1 (T k).2.2.1).before args s = true) (hsame : ∀ x, s.fieldFound? (T k).1 (T k).2.1 (T k).2.2.1 = some x → s.fieldFound? ref (T k).2.1 (T k).2.2.1 = some x) (hfin : (T k).2.2.2 = true) (hin2 : meth.name = "<init>") (hdecl : (T k).1 = own) {ty : FieldType} (hd : parseFieldDescriptor (T k).2.2.1 = some ty) (hn : narrow ty (shv b0 v) = shv b0 v) (hfit : fits ty (shv b0 v) = true) (hdg : decode cc pc = .ok (.putfield index, 3))
    (kk : ∀ (H1 : Heap) (locs1 : List Loc), HPr b0 D cA L1 H1 → va_S (Ab b0) s.heap H1 locs1 → W p l e R s m args below meth c H1 locs1 cells slots Q (F0 m (pc + 3) ls rest)) : W p l e R s m args below meth c H locs cells slots Q (F0 m pc ls (shv b0 v :: .ref (b0 + q) :: rest)) := by
  obtain ⟨fs, hL, hl, rfl⟩ := o_p_spec hq
  have hap := va_apart (own := own) hts hin ty0 hty hnm hK.1 hc
  obtain ⟨r, h1, cell, q1, q2, q3, q4⟩ := hH.2 q _ hL
  have hr : r = (C, T, N) := Option.some.inj (h1.symm.trans hc)
  subst hr
  obtain ⟨hS, hfc, kC, hkC, hkind⟩ := hK.1.1 ci _ hc
  obtain ⟨cf, kf, fi, f, hi, hsl⟩ := hS k hk
  have hlay := hts _ (hin _ (u_in_lay hk))
  unfold u_lay at hlay
  rw [if_pos hfin] at hlay
  have hst := (u_facts hfc hkC (u_lays hts hin hk) hi).1
  have hcf : m.cls = cf := by
    obtain ⟨_, _, c', _, _, _, -, -, hf', -, -, -, hown2, -⟩ := Cond.laysFinal_spec hlay
    have e1 : c' = cf := by have := hi.symm.trans hf'; simp at this; exact this.1.symm
    rw [hdecl] at hown2
    rw [← e1]; exact Option.some.inj (hown.symm.trans hown2)
  have h6 := u_fits hfc hkC hkind (Or.inr hlay) hi hd hn hfit
  refine W.putFinK hx hb hown hlink (hsame _ hi) hst hcf hin2 (by rw [q2]; exact h6) q1 q3 (by rw [hsl]; exact k2_hasslot (q4 k hk)) rfl rfl hdg fun H' e1 e2 e3 => ?_
  rw [hsl] at e1 ⊢
  have hlq : q < L.length := (List.getElem?_eq_some_iff.mp hL).1
  refine kk H' _ (hH.set hlq ⟨_, hc, ?_⟩ e2 e3) (hS0.put e2 e3 (Nat.le_add_right _ _))
  show t_OB _ _ _ _ _ (vp_V ((fs.set k v).map (shv b0)))
  rw [map_set_shv]
  exact t_OB.to (V := updV (vp_V (fs.map (shv b0))) k (shv b0 v)) ⟨_, e1, q2, q3, t_set q4 hap hk (shv b0 v)⟩ (fun j _ => vp_updV_set (by rw [List.length_map]; exact hl) (shv b0 v) j)
theorem r_iald {q : Nat} {i v : Int32} (hx : p.tables.exec = Jvm.exec) (hb : c.code = cc) (hK : KK D cA s) (hH : HPr b0 D cA L H) (hq : o_aI L q 0 i = some v) (hdg : decode cc pc = .ok (.iaload, 1))
    (kk : W p l e R s m args below meth c H locs cells slots Q (F0 m (pc + 1) ls (.int v :: rest))) : W p l e R s m args below meth c H locs cells slots Q (F0 m pc ls (.int i :: .ref (b0 + q) :: rest)) := by
  obtain ⟨n, f, hL, hi, rfl⟩ := o_aI_spec hq
  exact va_iald (D := D) (cl := vwCl) (tys := tysA cA) (ws := [(b0 + q, .inl (cA 0, n, .inl f))]) hx hb hK.1 (va_P1 (hH.2 q _ hL)) 0 0 rfl rfl hi hdg kk
theorem r_bald {q : Nat} {i v : Int32} (hx : p.tables.exec = Jvm.exec) (hb : c.code = cc) (hK : KK D cA s) (hH : HPr b0 D cA L H) (hq : o_aI L q 1 i = some v) (hdg : decode cc pc = .ok (.baload, 1))
    (kk : W p l e R s m args below meth c H locs cells slots Q (F0 m (pc + 1) ls (.int v :: rest))) : W p l e R s m args below meth c H locs cells slots Q (F0 m pc ls (.int i :: .ref (b0 + q) :: rest)) := by
  obtain ⟨n, f, hL, hi, rfl⟩ := o_aI_spec hq
  exact va_bald (D := D) (cl := vwCl) (tys := tysA cA) (ws := [(b0 + q, .inl (cA 1, n, .inl f))]) hx hb hK.1 (va_P1 (hH.2 q _ hL)) 0 1 rfl rfl hi hdg kk
theorem r_zald {q : Nat} {i v : Int32} (hx : p.tables.exec = Jvm.exec) (hb : c.code = cc) (hK : KK D cA s) (hH : HPr b0 D cA L H) (hq : o_aI L q 2 i = some v) (hdg : decode cc pc = .ok (.baload, 1))
    (kk : W p l e R s m args below meth c H locs cells slots Q (F0 m (pc + 1) ls (.int v :: rest))) : W p l e R s m args below meth c H locs cells slots Q (F0 m pc ls (.int i :: .ref (b0 + q) :: rest)) := by
  obtain ⟨n, f, hL, hi, rfl⟩ := o_aI_spec hq
  exact va_zald (D := D) (cl := vwCl) (tys := tysA cA) (ws := [(b0 + q, .inl (cA 2, n, .inl f))]) hx hb hK.1 (va_P1 (hH.2 q _ hL)) 0 2 rfl rfl hi hdg kk
theorem upd_arr (cI : ClassId) (n : Nat) (f : Nat → Int32) (k : Nat) (x : Int32) : (vp_cell cI (n, .inl f)).setSlot k (.int x) = vp_cell cI (n, .inl (upd f k x)) := by
  rw [vp_cell_i, vp_cell_i, arrV_store]
  congr 2
  funext q
  by_cases hq : q = k
  · subst hq
    simp [updV, upd]
  · simp [updV, upd, hq]
theorem r_iast {q : Nat} {i x : Int32} (hx : p.tables.exec = Jvm.exec) (hb : c.code = cc) (hK : KK D cA s) (hH : HPr b0 D cA L H) (hS0 : va_S (Ab b0) s.heap H locs) (hq : o_sI L q 0 i x = some L1) (hdg : decode cc pc = .ok (.iastore, 1))
    (kk : ∀ (H1 : Heap) (locs1 : List Loc), HPr b0 D cA L1 H1 → va_S (Ab b0) s.heap H1 locs1 → W p l e R s m args below meth c H1 locs1 cells slots Q (F0 m (pc + 1) ls rest)) : W p l e R s m args below meth c H locs cells slots Q (F0 m pc ls (.int x :: .int i :: .ref (b0 + q) :: rest)) := by
  obtain ⟨n, f, hL, hi, rfl⟩ := o_sI_spec hq
  have hlq : q < L.length := (List.getElem?_eq_some_iff.mp hL).1
  refine W.iast hx hb (hH.2 q _ hL) ((hK.1.2 0 _ rfl).1 n (fun j => .int (f j))) (fun q => by cases q) (by show ¬ (i < 0 ∨ (arrV _ _ _).slots.size ≤ _); rw [arrV_size]; exact hi) rfl rfl hdg fun H1 e1 z oq => ?_
  exact kk H1 _ (hH.set hlq (e1.trans (congrArg some (upd_arr _ _ _ _ _))) z oq) (hS0.put z oq (Nat.le_add_right _ _))
theorem r_bast {q : Nat} {i x : Int32} (hx : p.tables.exec = Jvm.exec) (hb : c.code = cc) (hK : KK D cA s) (hH : HPr b0 D cA L H) (hS0 : va_S (Ab b0) s.heap H locs) (hq : o_sI L q 1 i (vp_nar .byte x) = some L1) (hdg : decode cc pc = .ok (.bastore, 1))
    (kk : ∀ (H1 : Heap) (locs1 : List Loc), HPr b0 D cA L1 H1 → va_S (Ab b0) s.heap H1 locs1 → W p l e R s m args below meth c H1 locs1 cells slots Q (F0 m (pc + 1) ls rest)) : W p l e R s m args below meth c H locs cells slots Q (F0 m pc ls (.int x :: .int i :: .ref (b0 + q) :: rest)) := by
  obtain ⟨n, f, hL, hi, rfl⟩ := o_sI_spec hq
  have hlq : q < L.length := (List.getElem?_eq_some_iff.mp hL).1
  refine W.bast hx hb (hH.2 q _ hL) ((hK.1.2 1 _ rfl).1 n (fun j => .int (f j))) (fun q => by cases q) (by show ¬ (i < 0 ∨ (arrV _ _ _).slots.size ≤ _); rw [arrV_size]; exact hi) rfl rfl hdg fun H1 e1 z oq => ?_
  exact kk H1 _ (hH.set hlq (e1.trans (congrArg some (upd_arr _ _ _ _ _))) z oq) (hS0.put z oq (Nat.le_add_right _ _))
theorem r_zast {q : Nat} {i x : Int32} (hx : p.tables.exec = Jvm.exec) (hb : c.code = cc) (hK : KK D cA s) (hH : HPr b0 D cA L H) (hS0 : va_S (Ab b0) s.heap H locs) (hq : o_sI L q 2 i (vp_nar .boolean x) = some L1) (hdg : decode cc pc = .ok (.bastore, 1))
    (kk : ∀ (H1 : Heap) (locs1 : List Loc), HPr b0 D cA L1 H1 → va_S (Ab b0) s.heap H1 locs1 → W p l e R s m args below meth c H1 locs1 cells slots Q (F0 m (pc + 1) ls rest)) : W p l e R s m args below meth c H locs cells slots Q (F0 m pc ls (.int x :: .int i :: .ref (b0 + q) :: rest)) := by
  obtain ⟨n, f, hL, hi, rfl⟩ := o_sI_spec hq
  have hlq : q < L.length := (List.getElem?_eq_some_iff.mp hL).1
  refine W.zast hx hb (hH.2 q _ hL) ((hK.1.2 2 _ rfl).1 n (fun j => .int (f j))) (fun q => by cases q) (by show ¬ (i < 0 ∨ (arrV _ _ _).slots.size ≤ _); rw [arrV_size]; exact hi) rfl rfl hdg fun H1 e1 z oq => ?_
  exact kk H1 _ (hH.set hlq (e1.trans (congrArg some (upd_arr _ _ _ _ _))) z oq) (hS0.put z oq (Nat.le_add_right _ _))
theorem r_len {q : Nat} {v : Int32} (hx : p.tables.exec = Jvm.exec) (hb : c.code = cc) (hK : KK D cA s) (hH : HPr b0 D cA L H) (hq : o_len L q 0 = some v) (hdg : decode cc pc = .ok (.arraylength, 1))
    (kk : W p l e R s m args below meth c H locs cells slots Q (F0 m (pc + 1) ls (.int v :: rest))) : W p l e R s m args below meth c H locs cells slots Q (F0 m pc ls (.ref (b0 + q) :: rest)) := by
  obtain ⟨n, f, hL, rfl⟩ := o_len_spec hq
  exact W.alen (n := Int32.ofNat n) hx hb (hH.2 q _ hL) ((hK.1.2 0 _ rfl).1 n (fun j => .int (f j))) (by show (arrV _ _ _).slots.size.toInt32 = _; rw [arrV_size]) rfl rfl hdg kk
theorem r_aald {q t : Nat} {C : String} {i : Int32} {v : Nat} (hx : p.tables.exec = Jvm.exec) (hb : c.code = cc) (hK : KK D cA s) (hH : HPr b0 D cA L H) (hq : o_aR L q t i = some v) (ht : (tysA cA)[t]? = some (cA t, .object C)) (hdg : decode cc pc = .ok (.aaload, 1))
    (kk : W p l e R s m args below meth c H locs cells slots Q (F0 m (pc + 1) ls (.ref (b0 + v) :: rest))) : W p l e R s m args below meth c H locs cells slots Q (F0 m pc ls (.int i :: .ref (b0 + q) :: rest)) := by
  obtain ⟨n, f, hL, hi, hv⟩ := o_aR_spec hq
  refine va_aldq (D := D) (cl := vwCl) (tys := tysA cA) (ws := [(b0 + q, .inl (cA t, n, .inr (.inr (.inr (.inr (fun j => (f j).map (fun i => b0 + i)))))))]) hx hb hK.1 (va_P1 (hH.2 q _ hL)) 0 t rfl ht hi hdg ?_
  rw [hv]
  exact kk
theorem r_aast {q t ci : Nat} {r : vw_C} {i : Int32} {v : Nat} (hx : p.tables.exec = Jvm.exec) (hb : c.code = cc) (hK : KK D cA s) (hH : HPr b0 D cA L H) (hS0 : va_S (Ab b0) s.heap H locs) (hq : o_sR L q t ci i v = some L1) (ht : (tysA cA)[t]? = some (cA t, .object r.1)) (hc : vwCl[ci]? = some r) (hdg : decode cc pc = .ok (.aastore, 1))
    (kk : ∀ (H1 : Heap) (locs1 : List Loc), HPr b0 D cA L1 H1 → va_S (Ab b0) s.heap H1 locs1 → W p l e R s m args below meth c H1 locs1 cells slots Q (F0 m (pc + 1) ls rest)) : W p l e R s m args below meth c H locs cells slots Q (F0 m pc ls (.ref (b0 + v) :: .int i :: .ref (b0 + q) :: rest)) := by
  obtain ⟨n, f, vs, hL, hV, hi, rfl⟩ := o_sR_spec hq
  have hlq : q < L.length := (List.getElem?_eq_some_iff.mp hL).1
  have hlt : i.toNatClampNeg < n := Nat.not_le.mp fun q => hi (Or.inr q)
  have h0 : ¬ i < 0 := fun q => hi (Or.inl q)
  obtain ⟨r', hr', cellV, g1, g2, g3, -⟩ := hH.2 v _ hV
  have hcls := (hK.1.1 ci r hc).2
  obtain ⟨kA, comp, k1, k2, k3, -⟩ := (hK.1.2 t _ ht).2
  have hcomp : comp = D.1 ci := Option.some.inj (k3.symm.trans hcls.1)
  subst hcomp
  obtain ⟨kC, hkC, -⟩ := hcls.2
  refine W.aast hx hb (hH.2 q _ hL) (fun q h => by cases h) (fun h => by cases h) k1 k2 rfl hkC ⟨h0, by show _ < (arrV _ _ _).slots.size; rw [arrV_size]; exact hlt⟩ g1 (fun q h => by rw [g3] at h; cases h) (by rw [g2]; exact hkC) (by rw [g2]; exact va_assign hcls) rfl rfl hdg fun H1 e1 z oq => ?_
  refine kk H1 _ (hH.set hlq (e1.trans (congrArg some ?_)) z oq) (hS0.put z oq (Nat.le_add_right _ _))
  rw [vp_cell_q, vp_cell_q, arrV_store]
  congr 2
  funext y
  by_cases hy : y = i.toNatClampNeg
  · subst hy
    simp [updV, va_up, va_rf]
  · simp [updV, va_up, hy]
theorem r_new {own C : String} {T : u_T} {N ci index : Nat} {Ts : List Cond} {fs : List Value} (hx : p.tables.exec = Jvm.exec) (hb : c.code = cc) (hts : ∀ w ∈ Ts, w.before args s = true) (hin : ∀ w ∈ u_ws C T N, w ∈ Ts) (ty : Nat → FieldType) (hty : ∀ k, k < N → parseFieldDescriptor (T k).2.2.1 = some (ty k)) (hown : s.vm.findClass own = some m.cls) (hcl : (Cond.classLink own index C).before args s = true) (hinst : (Cond.instantiable C N).before args s = true) (hini : (Cond.initialized C).before args s = true)
    (hK : KK D cA s) (hH : HPr b0 D cA L H) (hS : va_S (Ab b0) s.heap H locs) (hc : vwCl[ci]? = some (C, T, N)) (hfs : ∀ j, j < N → defaultValue (ty j) = vp_V fs j) (hsh : fs.map (shv b0) = fs) (hcells : cells + 1 ≤ R.cells) (hslots : slots + N ≤ R.slots) (hdg : decode cc pc = .ok (.new index, 3))
    (kk : ∀ (H1 : Heap), HPr b0 D cA (L ++ [.inr (.inr (ci, fs))]) H1 → va_S (Ab b0) s.heap H1 locs → W p l e R s m args below meth c H1 locs (cells + 1) (slots + N) Q (F0 m (pc + 3) ls (.ref (b0 + L.length) :: rest))) : W p l e R s m args below meth c H locs cells slots Q (F0 m pc ls rest) := by
  have hKn := hK.1.1 ci _ hc
  refine W.newcK hx hb hown hcl hinst hini rfl hdg hcells hslots hKn.2.1 hH.1 fun H1 kC hkC e1 z1 o1 => ?_
  refine kk H1 (hH.push ⟨_, hc, ?_⟩ z1 o1) ⟨Nat.le_trans hS.1 (by rw [z1, hH.1]; exact Nat.le_succ _), fun x h1 h2 => (o1 x (by have := Nat.lt_of_lt_of_le h1 hS.1; rw [hH.1] at this; exact this)).trans (hS.2.1 x h1 h2), hS.2.2⟩
  show t_OB _ _ _ _ _ (vp_V (fs.map (shv b0)))
  rw [hsh]
  exact (u_born ty hts hin hKn hkC e1 hty).to hfs
theorem r_newa {atype : ArrayType} {ty : FieldType} {n : Int32} {N' : Nat} (t : Nat) (hx : p.tables.exec = Jvm.exec) (hb : c.code = cc) (harr : (Cond.arrayClass ty).before args s = true) (hty : newarray.typeOf atype = ty) (hdv : defaultValue ty = .int 0) (hK : KK D cA s) (ht : (tysA cA)[t]? = some (cA t, ty)) (hobj : ∀ C, ty ≠ .object C) (hH : HPr b0 D cA L H) (hS : va_S (Ab b0) s.heap H locs) (hn : ¬ n < 0) (hN : n.toNatClampNeg = N') (hbytes : N' * componentBytes ty ≤ 536870912) (hcells : cells + 1 ≤ R.cells) (hslots : slots + N' ≤ R.slots) (hdg : decode cc pc = .ok (.newarray atype, 2))
    (kk : ∀ (H1 : Heap), HPr b0 D cA (L ++ [.inl (t, N', fun _ => 0)]) H1 → va_S (Ab b0) s.heap H1 locs → W p l e R s m args below meth c H1 locs (cells + 1) (slots + N') Q (F0 m (pc + 2) ls (.ref (b0 + L.length) :: rest))) : W p l e R s m args below meth c H locs cells slots Q (F0 m pc ls (.int n :: rest)) := by
  subst hty
  refine va_newaK hx hb harr rfl hdg rfl hn hN hbytes hcells hslots hH.1 fun H1 cA1 e1 z1 o1 hAr hNm => ?_
  have hra := (hK.1.2 t _ ht).2
  have hra2 : s.vm.findClass ("[" ++ (newarray.typeOf atype).toString) = some (cA t) := by
    unfold va_RA at hra
    split at hra
    · rename_i C hC; exact absurd hC (hobj C)
    · exact hra
  have hcl : cA1 = cA t := Option.some.inj (hNm.symm.trans hra2)
  subst hcl
  refine kk H1 (hH.push ?_ z1 o1) ⟨Nat.le_trans hS.1 (by rw [z1, hH.1]; exact Nat.le_succ _), fun x h1 h2 => (o1 x (by have := Nat.lt_of_lt_of_le h1 hS.1; rw [hH.1] at this; exact this)).trans (hS.2.1 x h1 h2), hS.2.2⟩
  show H1[b0 + L.length]? = some (vp_cell _ _)
  rw [e1, hdv]
  rfl
theorem r_anew {own C : String} {index : Nat} {n : Int32} {N' : Nat} (t : Nat) (hx : p.tables.exec = Jvm.exec) (hb : c.code = cc) (hown : s.vm.findClass own = some m.cls) (hclink : (Cond.classLink own index C).before args s = true) (hover : (Cond.arrayOver (.object C)).before args s = true) (hK : KK D cA s) (ht : (tysA cA)[t]? = some (cA t, .object C)) (hH : HPr b0 D cA L H) (hS : va_S (Ab b0) s.heap H locs) (hn : ¬ n < 0) (hN : n.toNatClampNeg = N') (hbytes : N' * 4 ≤ 536870912) (hcells : cells + 1 ≤ R.cells) (hslots : slots + N' ≤ R.slots) (hdg : decode cc pc = .ok (.anewarray index, 3))
    (kk : ∀ (H1 : Heap), HPr b0 D cA (L ++ [.inr (.inl (t, N', fun _ => none))]) H1 → va_S (Ab b0) s.heap H1 locs → W p l e R s m args below meth c H1 locs (cells + 1) (slots + N') Q (F0 m (pc + 3) ls (.ref (b0 + L.length) :: rest))) : W p l e R s m args below meth c H locs cells slots Q (F0 m pc ls (.int n :: rest)) := by
  subst hN
  refine W.anew hx hb hown hclink hover rfl hdg rfl hn hbytes hcells hslots fun cA1 kA comp f1 f2 f3 f4 => ?_
  obtain ⟨kA2, comp2, k1, k2, k3, k4⟩ := (hK.1.2 t _ ht).2
  have hcl : cA1 = cA t := Option.some.inj (f1.symm.trans k4)
  subst hcl
  rw [hH.1]
  refine kk _ (hH.push ?_ (by rw [Array.size_push, hH.1]) (fun q hq => by rw [Array.getElem?_push, if_neg (by rw [hH.1]; exact Nat.ne_of_lt hq)])) ⟨Nat.le_trans hS.1 (by rw [Array.size_push]; exact Nat.le_succ _), fun x h1 h2 => by rw [Array.getElem?_push, if_neg (Nat.ne_of_lt (Nat.lt_of_lt_of_le h1 hS.1))]; exact hS.2.1 x h1 h2, hS.2.2⟩
  show (H.push _)[b0 + L.length]? = some (vp_cell _ _)
  rw [← hH.1, Array.getElem?_push, if_pos rfl]
  congr 1
  rw [vp_cell_q]
  unfold arrV
  congr 1
  apply Array.ext
  · simp
  · intro i h1 h2
    simp [va_rf]
theorem r_cp {own : String} {index q0 q1 : Nat} {sp dp n : Int32} (hx : p.tables.exec = Jvm.exec) (hb : c.code = cc) (hml : c.maxLocals = ls.size) (hown : s.vm.findClass own = some m.cls) (hlink : (Cond.methodLink own index arraycopyName).before args s = true) (hnat : (Cond.native arraycopyName).before args s = true) (hstat : (Cond.static arraycopyName).before args s = true) (hini : (Cond.initialized "java/lang/System").before args s = true)
    (hK : KK D cA s) (hH : HPr b0 D cA L H) (hS : va_S (Ab b0) s.heap H locs) (hq : o_cp L q0 sp q1 dp n = some L1) (hframes : 1 ≤ R.frames) (hlocals : (rest.map fun v => v.category).sum + (nativeFrameWords "java/lang/System" "arraycopy" 5 + 11) ≤ R.locals) (hdg : decode cc pc = .ok (.invokestatic index, 3))
    (kk : ∀ (H1 : Heap) (locs1 : List Loc), HPr b0 D cA L1 H1 → va_S (Ab b0) s.heap H1 locs1 → W p l e R s m args below meth c H1 locs1 cells slots Q (F0 m (pc + 3) ls rest)) : W p l e R s m args below meth c H locs cells slots Q (F0 m pc ls (.int n :: .int dp :: .ref (b0 + q1) :: .int sp :: .ref (b0 + q0) :: rest)) := by
  obtain ⟨n0, f, n1, g, hL0, hL1, ⟨h1, h2, h3⟩, h4, h5, rfl⟩ := o_cp_spec hq
  have nn : ∀ z : Int32, ¬ z < 0 → z.toInt = (z.toNatClampNeg : Int) := by
    intro z hz
    have hz0 : (0 : Int) ≤ z.toInt := by
      have := Int32.not_lt.mp hz
      simpa using Int32.le_iff_toInt_le.mp this
    show z.toInt = ((z.toInt.toNat : Nat) : Int)
    omega
  intro T hT X
  have hc0 : H[b0 + q0]? = some (vp_cell (cA 0) (n0, .inl f)) := hH.2 q0 _ hL0
  have hc1 : H[b0 + q1]? = some (vp_cell (cA 0) (n1, .inl g)) := hH.2 q1 _ hL1
  have ht0 : (tysA cA)[0]? = some (cA 0, .int) := rfl
  obtain ⟨-, k0, hk0, cm0, hkk0⟩ := (hK.1.2 0 _ ht0).1 n0 (fun j => .int (f j))
  obtain ⟨-, k1, hk1, cm1, hkk1⟩ := (hK.1.2 0 _ ht0).1 n1 (fun j => .int (g j))
  obtain ⟨vm', X', step⟩ := X.arraycopy hx hown hlink hnat hstat hini (src := b0 + q0) (dst := b0 + q1) (cs := vp_cell (cA 0) (n0, .inl f)) (cd := vp_cell (cA 0) (n1, .inl g)) (srcPos := sp) (destPos := dp) (n := n) (by rw [hT]; exact hc0) (by rw [hT]; exact hc1)
    (fun _ h => by cases h) (fun _ h => by cases h) (fun h => by cases h) (fun h => by cases h) hk0 hk1 hkk0 hkk1 rfl h1 h2 h3
    (by rw [nn sp h1, nn n h3]; show ¬ _ > ((arrV (cA 0) n0 (fun j => .int (f j))).slots.size : Int); rw [arrV_size]; omega)
    (by rw [nn dp h2, nn n h3]; show ¬ _ > ((arrV (cA 0) n1 (fun j => .int (g j))).slots.size : Int); rw [arrV_size]; omega)
    (fun vm₁ _ i hi => by
      have e : (vp_cell (cA 0) (n0, .inl f)).slots.getD (sp.toNatClampNeg + i) .null = .int (f (sp.toNatClampNeg + i)) := by
        show (arrV (cA 0) n0 (fun j => .int (f j))).slots.getD _ _ = _
        rw [Array.getD_eq_getD_getElem?, arrV_read _ _ (by omega)]
        rfl
      refine ⟨?_, ?_⟩
      · rw [e]
        rfl
      · rw [e]
        exact trivial)
    (g := F0 m pc ls (.int n :: .int dp :: .ref (b0 + q1) :: .int sp :: .ref (b0 + q0) :: rest)) rfl (by rw [hml]) (rest := rest) rfl (by rw [hb]; exact hdg) hframes (by show 2 * 0 + _ + _ ≤ _; omega)
  have e1 : copied (vp_cell (cA 0) (n0, .inl f)) (vp_cell (cA 0) (n1, .inl g)) sp dp n = vp_cell (cA 0) (n1, .inl (va_cpy f g sp.toNatClampNeg dp.toNatClampNeg n.toNatClampNeg)) := va_copied (fun z => .int z) (cA 0) (cA 0) f g h4
  rw [e1] at X' step
  have hl : b0 + q1 < H.size := (Array.getElem?_eq_some_iff.mp hc1).1
  have hheap : ((T.setVm vm').setCell (b0 + q1) (vp_cell (cA 0) (n1, .inl (va_cpy f g sp.toNatClampNeg dp.toNatClampNeg n.toNatClampNeg)))).heap = H.setIfInBounds (b0 + q1) (vp_cell (cA 0) (n1, .inl (va_cpy f g sp.toNatClampNeg dp.toNatClampNeg n.toNatClampNeg))) := by rw [← hT]; rfl
  have oq : ∀ q : Nat, q ≠ b0 + q1 → (H.setIfInBounds (b0 + q1) (vp_cell (cA 0) (n1, .inl (va_cpy f g sp.toNatClampNeg dp.toNatClampNeg n.toNatClampNeg))))[q]? = H[q]? := fun q hq => by simp [Array.getElem?_setIfInBounds, Ne.symm hq]
  obtain ⟨t, a1, b1⟩ := kk _ _ (hH.set (List.getElem?_eq_some_iff.mp hL1).1 (show (H.setIfInBounds (b0 + q1) _)[b0 + q1]? = some _ by simp [Array.getElem?_setIfInBounds, hl]) (by simp) oq) ⟨by simp; exact hS.1, fun q g1 g2 => by
      rw [oq q (fun e => g2 (by rw [e]; exact Nat.le_add_right _ _))]
      exact hS.2.1 q g1 g2, fun q hq => by
      rcases List.mem_append.mp hq with h | h
      · exact hS.2.2 q h
      · obtain ⟨z, -, hz⟩ := List.mem_map.mp h
        rw [← hz]
        exact Nat.le_add_right _ _⟩ _ hheap X'
  exact ⟨t, step t a1, b1⟩
/-- behind a call -/
theorem r_call {rv : Option Value} {st0 : List Value} {a : Array Value} {mc ms : Nat} (hr : va_Run p l e R s m args below meth c H locs cells slots mc ms (F0 m pc ls st0) rest (Qk b0 D cA rv L1 a) (Ab b0)) (hS : va_S (Ab b0) s.heap H locs)
    (kk : ∀ (H1 : Heap) (locs1 : List Loc), HPr b0 D cA L1 H1 → va_S (Ab b0) s.heap H1 locs1 → W p l e R s m args below meth c H1 locs1 (cells + mc) (slots + ms) Q (F0 m (pc + 3) ls (rv.toList ++ rest))) : W p l e R s m args below meth c H locs cells slots Q (F0 m pc ls st0) := by
  intro T hT X
  obtain ⟨v, st₀, t, T', L, h0, X', hL, e1, e2, ⟨hv, hH', hz, hk⟩, st⟩ := hr T hT X
  cases hv
  rw [h0] at hz hk
  obtain ⟨t2, a1, b1⟩ := kk T'.heap (locs ++ L) (by rw [e1]; exact hH')
    ⟨Nat.le_trans hS.1 (by rw [e1]; exact hz), fun q h1 h2 => by rw [e1, hk q (Nat.lt_of_lt_of_le h1 hS.1) h2]; exact hS.2.1 q h1 h2, fun q hq => by
      rcases List.mem_append.mp hq with h | h
      · exact hS.2.2 q h
      · exact hL q h⟩ T' rfl X'
  exact ⟨t2, st t2 a1, b1⟩
theorem pre_V {q ci : Nat} {r : vw_C} {As : List Value} {u : Unit} (hK : KK D cA s) (hH : HPr b0 D cA L H) (ho : o_ob L q ci = some u) (hc : vwCl[ci]? = some r) : PreV s H r.1 (b0 + q) (Pk b0 D cA (Value.ref (b0 + q) :: As) L) As := by
  obtain ⟨fs, hL⟩ := o_ob_spec ho
  exact ⟨Pk_blind, va_recv (ws := [(b0 + q, .inr (ci, fs.map (shv b0)))]) (q0 := 0) hK.1 (va_P1 (hH.2 q _ hL)) hc rfl, fun U hU hW => ⟨rfl, by rw [hU]; exact hH, KK.moved hW.alike hK⟩⟩
theorem pre_S {As : List Value} (hK : KK D cA s) (hH : HPr b0 D cA L H) : PreS s H (Pk b0 D cA As L) As :=
  ⟨Pk_blind, fun U hU hW => ⟨rfl, by rw [hU]; exact hH, KK.moved hW.alike hK⟩⟩
end RW
/-- a switch's word: of a number that isn't k -/
theorem sw_ne {x : Int32} {k : Int} {n : Int32} (hn : n.toInt = k) (h : ¬ x = n) : x.toInt ≠ k := fun e => h (Int32.toInt_inj.mp (e.trans hn.symm))
/-- the machine at a place of a method, over all heaps that hold L -/
def WB (b0 : Nat) (D : va_G) (cA : Nat → ClassId) (p : Program) (l : Launch) (e : Env) (R : Room) (s : State) (m : MethodId) (args : Array Value) (below : List Frame) (meth : Method) (c : Code) (nL ce sl : Nat) (Q : State → Prop) (pc : Nat) (lv : List (Nat × Value)) (st : List Value) (L : HL) : Prop :=
  ∀ (H : Heap) (locs : List Loc) (ls : Array Slot), HPr b0 D cA L H → va_S (Ab b0) s.heap H locs → lv_has ls nL lv → W p l e R s m args below meth c H locs ce sl Q (F0 m pc ls st)
/-- what holds in a method's body -/
def Cx (D : va_G) (cA : Nat → ClassId) (p : Program) (s : State) (m : MethodId) (args : Array Value) (meth : Method) (c : Code) (cc : ByteArray) (nL : Nat) (own : String) (Ts : List Cond) (ret : Option FieldType) : Prop :=
  p.tables.exec = Jvm.exec ∧ c.code = cc ∧ c.maxLocals = nL ∧ s.vm.findClass own = some m.cls ∧ (∀ w ∈ Ts, w.before args s = true) ∧ KK D cA s ∧ meth.sig.returnType = ret ∧ meth.locks = false
section RC
variable {p : Program} {l : Launch} {e : Env} {R : Room} {s : State} {m : MethodId} {args : Array Value} {below : List Frame} {meth : Method} {c : Code} {H : Heap} {locs : List Loc} {cells slots : Nat} {Q : State → Prop}
variable {pc : Nat} {ls : Array Slot} {rest st0 : List Value} {b0 : Nat} {D : va_G} {cA : Nat → ClassId} {L1 : HL} {a : Array Value} {mc ms : Nat}
theorem r_callI {r : Int32} (hr : va_Run p l e R s m args below meth c H locs cells slots mc ms (F0 m pc ls st0) rest (Qk b0 D cA (some (.int r)) L1 a) (Ab b0)) (hS : va_S (Ab b0) s.heap H locs)
    (kk : ∀ (H1 : Heap) (locs1 : List Loc), HPr b0 D cA L1 H1 → va_S (Ab b0) s.heap H1 locs1 → W p l e R s m args below meth c H1 locs1 (cells + mc) (slots + ms) Q (F0 m (pc + 3) ls (.int r :: rest))) : W p l e R s m args below meth c H locs cells slots Q (F0 m pc ls st0) := r_call hr hS kk
theorem r_callJ {r : Int64} (hr : va_Run p l e R s m args below meth c H locs cells slots mc ms (F0 m pc ls st0) rest (Qk b0 D cA (some (.long r)) L1 a) (Ab b0)) (hS : va_S (Ab b0) s.heap H locs)
    (kk : ∀ (H1 : Heap) (locs1 : List Loc), HPr b0 D cA L1 H1 → va_S (Ab b0) s.heap H1 locs1 → W p l e R s m args below meth c H1 locs1 (cells + mc) (slots + ms) Q (F0 m (pc + 3) ls (.long r :: rest))) : W p l e R s m args below meth c H locs cells slots Q (F0 m pc ls st0) := r_call hr hS kk
theorem r_callR {r : Nat} (hr : va_Run p l e R s m args below meth c H locs cells slots mc ms (F0 m pc ls st0) rest (Qk b0 D cA (some (.ref (b0 + r))) L1 a) (Ab b0)) (hS : va_S (Ab b0) s.heap H locs)
    (kk : ∀ (H1 : Heap) (locs1 : List Loc), HPr b0 D cA L1 H1 → va_S (Ab b0) s.heap H1 locs1 → W p l e R s m args below meth c H1 locs1 (cells + mc) (slots + ms) Q (F0 m (pc + 3) ls (.ref (b0 + r) :: rest))) : W p l e R s m args below meth c H locs cells slots Q (F0 m pc ls st0) := r_call hr hS kk
theorem r_callV (hr : va_Run p l e R s m args below meth c H locs cells slots mc ms (F0 m pc ls st0) rest (Qk b0 D cA none L1 a) (Ab b0)) (hS : va_S (Ab b0) s.heap H locs)
    (kk : ∀ (H1 : Heap) (locs1 : List Loc), HPr b0 D cA L1 H1 → va_S (Ab b0) s.heap H1 locs1 → W p l e R s m args below meth c H1 locs1 (cells + mc) (slots + ms) Q (F0 m (pc + 3) ls rest)) : W p l e R s m args below meth c H locs cells slots Q (F0 m pc ls st0) := r_call hr hS kk
end RC
theorem rm_ok {a d maxL mc ms mc' ms' : Nat} (h : a + 1 ≤ d) (hm : maxL ≤ 20) : (RM a mc ms).frames + 1 ≤ (RM d mc' ms').frames ∧ 8 + (maxL + 11) + (RM a mc ms).locals ≤ (RM d mc' ms').locals := ⟨h, by show 8 + (maxL + 11) + 40 * a ≤ 40 * d; omega⟩
def o_b (x : Int32) : Option Unit := if x = 0 ∨ x = 1 then some () else none
theorem o_b_nar {x : Int32} {u : Unit} (h : o_b x = some u) : narrow .boolean (.int x) = .int x := by
  unfold o_b at h
  split at h
  · rename_i h1
    rcases h1 with rfl | rfl <;> rfl
  · cases h
def o_x (n : Nat) (xs : Nat → Int32) (i : Int32) : Option Int32 := if ¬ (i < 0 ∨ n ≤ i.toNatClampNeg) then some (xs i.toNatClampNeg) else none
theorem o_x_spec {n : Nat} {xs : Nat → Int32} {i v : Int32} (h : o_x n xs i = some v) : vp_in i n ∧ v = xs i.toNatClampNeg := by
  unfold o_x at h
  split at h
  · rename_i h1
    cases h
    exact ⟨h1, rfl⟩
  · cases h
end
section
-- X7_init
def fX7_init_T (F : Nat) (L : HL) (a0 : Nat) : Option HL := (o_ob L a0 6).bind fun _ => (o_p L a0 6 0 (.int 4)).bind fun L1 => (o_p (L1 ++ [(.inl (0, 9, fun _ => 0) : SC)]) a0 6 3 (.ref L1.length)).bind fun L2 => (o_p (L2 ++ [(.inl (0, 9, fun _ => 0) : SC)]) a0 6 4 (.ref L2.length)).bind fun L3 => (o_p (L3 ++ [(.inl (0, 9, fun _ => 0) : SC)]) a0 6 5 (.ref L3.length)).bind fun L4 => (o_p (L4 ++ [(.inl (0, 6, fun _ => 0) : SC)]) a0 6 6 (.ref L4.length)).bind fun L5 => (o_p (L5 ++ [(.inl (0, 6, fun _ => 0) : SC)]) a0 6 7 (.ref L5.length)).bind fun L6 => some L6
theorem oX7_init_T {F : Nat} {L : HL} {a0 : Nat} {z : HL} (hE : fX7_init_T F L a0 = some z) : o_ob L a0 6 = some () := by
  obtain ⟨_, h, _⟩ := Option.bind_eq_some_iff.mp hE
  exact h
set_option maxHeartbeats 4000000 in
set_option maxRecDepth 100000 in
theorem sX7_init_T (l : Launch) (b0 : Nat) (D : va_G) (cA : Nat → ClassId) {F : Nat} {L : HL} {a0 : Nat} {z : HL} (hE : fX7_init_T F L a0 = some z) : Met l yX7_init wsX7_init (RM 1 5 39) (Pk b0 D cA [.ref (b0 + a0)] L) (Qk b0 D cA none z) 5 39 (Ab b0) := by
  refine Met.ofW (cc := cX7_init) (maxL := 1) (ret := none) (by decide) rfl ?_
  intro p ev s m args below meth c s₁ B hml hv
  obtain ⟨rfl, hH, hK⟩ := hv
  have hx := B.exec
  have hb := B.bytes
  have hr := B.returns
  have hts := atoms_spec (ws := wsX7_init) B.pre
  have hown : s.vm.findClass RX7 = some m.cls := findClass_of_methodNamed B.named
  have hlocks := B.notSynchronized
  have hC : Cx D cA p s m _ meth c cX7_init 1 RX7 wsX7_init none := ⟨hx, hb, hml, hown, hts, hK, hr, hlocks⟩
  have hS : va_S (Ab b0) s.heap s.heap [] := va_S.rf
  have hl := lv_entry ([.ref (b0 + a0)]) (n := 1) (Nat.le_of_ble_eq_true rfl)
  rw [lg_entry_eq]
  generalize (lg_sl ([.ref (b0 + a0)]) ++ List.replicate (1 - (lg_sl ([.ref (b0 + a0)])).length) Slot.unset).toArray = ls at hl ⊢
  have hl : lv_has ls 1 [(0, .ref (b0 + a0))] := hl
  have hin : meth.name = "<init>" := (name_of_methodNamed B.named B.method).1
  unfold fX7_init_T at hE
  obtain ⟨_, _, hE⟩ := Option.bind_eq_some_iff.mp hE
  refine lv_aload_n hx hb dX7_init_0 rfl (lv_at hl 0 rfl) ?_
  refine W.objInit hx hb hown (hts (.methodLink RX7 3 objectInit) (by decide +kernel)) (hts (.instanceMethod objectInit) (by decide +kernel)) (hts (.code objectInit ⟨#[0xb1]⟩ 1 none) (by decide +kernel)) rfl (by rw [hml]; exact hl.1) rfl dX7_init_1 (Nat.le_of_ble_eq_true rfl) (Nat.le_of_ble_eq_true rfl) ?_
  refine W.eq (g2 := F0 m 4 ls []) rfl ?_
  refine lv_aload_n hx hb dX7_init_4 rfl (lv_at hl 0 rfl) ?_
  refine lv_iconst (v := 4) hx hb dX7_init_5 (by decide) ?_
  obtain ⟨L1, hL1, hE⟩ := Option.bind_eq_some_iff.mp hE
  refine r_p 0 (v := .int 4) (ty := .int) (C := RX7) (T := TX7) (N := 8) (ci := 6) hx hb hts (by decide +kernel) tyX7 tyX7_ok nmX7 hown hK hH hS hL1 rfl (by decide) (hts (.fieldLink RX7 9 "KindStreets$Town" "yards" "I") (by decide +kernel)) (fun _ h9 => h9) rfl (by decide +kernel) rfl rfl dX7_init_6 (fun H locs hH hS => ?_)
  refine lv_aload_n hx hb dX7_init_9 rfl (lv_at hl 0 rfl) ?_
  refine lv_bipush (v := 9) hx hb dX7_init_10 (by decide) ?_
  refine r_newa (N' := 9) 0 hx hb (hts (.arrayClass .int) (by decide +kernel)) rfl rfl hK rfl (fun _ h => by cases h) hH hS (by decide) (by decide) (by decide) (by decide) (by decide) dX7_init_12 (fun H hH hS => ?_)
  refine W.widen (k := 1) (n := 9) (by decide) (by decide) ?_
  obtain ⟨L2, hL2, hE⟩ := Option.bind_eq_some_iff.mp hE
  refine r_pF 3 (v := .ref L1.length) (ty := (.array .int)) (C := RX7) (T := TX7) (N := 8) (ci := 6) hx hb hts (by decide +kernel) tyX7 tyX7_ok nmX7 hown hK hH hS hL2 rfl (by decide) (hts (.fieldLink RX7 15 "KindStreets$Town" "one" "[I") (by decide +kernel)) (fun _ h9 => h9) rfl hin rfl (by decide +kernel) rfl rfl dX7_init_14 (fun H locs hH hS => ?_)
  refine lv_aload_n hx hb dX7_init_17 rfl (lv_at hl 0 rfl) ?_
  refine lv_bipush (v := 9) hx hb dX7_init_18 (by decide) ?_
  refine r_newa (N' := 9) 0 hx hb (hts (.arrayClass .int) (by decide +kernel)) rfl rfl hK rfl (fun _ h => by cases h) hH hS (by decide) (by decide) (by decide) (by decide) (by decide) dX7_init_20 (fun H hH hS => ?_)
  refine W.widen (k := 2) (n := 18) (by decide) (by decide) ?_
  obtain ⟨L3, hL3, hE⟩ := Option.bind_eq_some_iff.mp hE
  refine r_pF 4 (v := .ref L2.length) (ty := (.array .int)) (C := RX7) (T := TX7) (N := 8) (ci := 6) hx hb hts (by decide +kernel) tyX7 tyX7_ok nmX7 hown hK hH hS hL3 rfl (by decide) (hts (.fieldLink RX7 19 "KindStreets$Town" "other" "[I") (by decide +kernel)) (fun _ h9 => h9) rfl hin rfl (by decide +kernel) rfl rfl dX7_init_22 (fun H locs hH hS => ?_)
  refine lv_aload_n hx hb dX7_init_25 rfl (lv_at hl 0 rfl) ?_
  refine lv_bipush (v := 9) hx hb dX7_init_26 (by decide) ?_
  refine r_newa (N' := 9) 0 hx hb (hts (.arrayClass .int) (by decide +kernel)) rfl rfl hK rfl (fun _ h => by cases h) hH hS (by decide) (by decide) (by decide) (by decide) (by decide) dX7_init_28 (fun H hH hS => ?_)
  refine W.widen (k := 3) (n := 27) (by decide) (by decide) ?_
  obtain ⟨L4, hL4, hE⟩ := Option.bind_eq_some_iff.mp hE
  refine r_pF 5 (v := .ref L3.length) (ty := (.array .int)) (C := RX7) (T := TX7) (N := 8) (ci := 6) hx hb hts (by decide +kernel) tyX7 tyX7_ok nmX7 hown hK hH hS hL4 rfl (by decide) (hts (.fieldLink RX7 22 "KindStreets$Town" "old" "[I") (by decide +kernel)) (fun _ h9 => h9) rfl hin rfl (by decide +kernel) rfl rfl dX7_init_30 (fun H locs hH hS => ?_)
  refine lv_aload_n hx hb dX7_init_33 rfl (lv_at hl 0 rfl) ?_
  refine lv_bipush (v := 6) hx hb dX7_init_34 (by decide) ?_
  refine r_newa (N' := 6) 0 hx hb (hts (.arrayClass .int) (by decide +kernel)) rfl rfl hK rfl (fun _ h => by cases h) hH hS (by decide) (by decide) (by decide) (by decide) (by decide) dX7_init_36 (fun H hH hS => ?_)
  refine W.widen (k := 4) (n := 33) (by decide) (by decide) ?_
  obtain ⟨L5, hL5, hE⟩ := Option.bind_eq_some_iff.mp hE
  refine r_pF 6 (v := .ref L4.length) (ty := (.array .int)) (C := RX7) (T := TX7) (N := 8) (ci := 6) hx hb hts (by decide +kernel) tyX7 tyX7_ok nmX7 hown hK hH hS hL5 rfl (by decide) (hts (.fieldLink RX7 25 "KindStreets$Town" "home" "[I") (by decide +kernel)) (fun _ h9 => h9) rfl hin rfl (by decide +kernel) rfl rfl dX7_init_38 (fun H locs hH hS => ?_)
  refine lv_aload_n hx hb dX7_init_41 rfl (lv_at hl 0 rfl) ?_
  refine lv_bipush (v := 6) hx hb dX7_init_42 (by decide) ?_
  refine r_newa (N' := 6) 0 hx hb (hts (.arrayClass .int) (by decide +kernel)) rfl rfl hK rfl (fun _ h => by cases h) hH hS (by decide) (by decide) (by decide) (by decide) (by decide) dX7_init_44 (fun H hH hS => ?_)
  refine W.widen (k := 5) (n := 39) (by decide) (by decide) ?_
  obtain ⟨L6, hL6, hE⟩ := Option.bind_eq_some_iff.mp hE
  refine r_pF 7 (v := .ref L5.length) (ty := (.array .int)) (C := RX7) (T := TX7) (N := 8) (ci := 6) hx hb hts (by decide +kernel) tyX7 tyX7_ok nmX7 hown hK hH hS hL6 rfl (by decide) (hts (.fieldLink RX7 28 "KindStreets$Town" "wants" "[I") (by decide +kernel)) (fun _ h9 => h9) rfl hin rfl (by decide +kernel) rfl rfl dX7_init_46 (fun H locs hH hS => ?_)
  have hZ := Option.some.inj hE
  subst hZ
  exact W.vret hx hb hr (fun t ht hW => ⟨rfl, by rw [ht]; exact hH, hS.F ht⟩) hS.2.2 dX7_init_49
-- X7_init
def fX7_init_P (F : Nat) (L : HL) (a0 : Nat) : Option HL := (o_ob L a0 4).bind fun _ => (o_p L a0 4 0 (.int 4)).bind fun L1 => (o_p (L1 ++ [(.inl (0, 9, fun _ => 0) : SC)]) a0 4 3 (.ref L1.length)).bind fun L2 => (o_p (L2 ++ [(.inl (0, 9, fun _ => 0) : SC)]) a0 4 4 (.ref L2.length)).bind fun L3 => (o_p (L3 ++ [(.inl (0, 9, fun _ => 0) : SC)]) a0 4 5 (.ref L3.length)).bind fun L4 => (o_p (L4 ++ [(.inl (0, 6, fun _ => 0) : SC)]) a0 4 6 (.ref L4.length)).bind fun L5 => (o_p (L5 ++ [(.inl (0, 6, fun _ => 0) : SC)]) a0 4 7 (.ref L5.length)).bind fun L6 => some L6
theorem oX7_init_P {F : Nat} {L : HL} {a0 : Nat} {z : HL} (hE : fX7_init_P F L a0 = some z) : o_ob L a0 4 = some () := by
  obtain ⟨_, h, _⟩ := Option.bind_eq_some_iff.mp hE
  exact h
set_option maxHeartbeats 4000000 in
set_option maxRecDepth 100000 in
theorem sX7_init_P (l : Launch) (b0 : Nat) (D : va_G) (cA : Nat → ClassId) {F : Nat} {L : HL} {a0 : Nat} {z : HL} (hE : fX7_init_P F L a0 = some z) : Met l yX7_init wsX7_init (RM 1 5 39) (Pk b0 D cA [.ref (b0 + a0)] L) (Qk b0 D cA none z) 5 39 (Ab b0) := by
  refine Met.ofW (cc := cX7_init) (maxL := 1) (ret := none) (by decide) rfl ?_
  intro p ev s m args below meth c s₁ B hml hv
  obtain ⟨rfl, hH, hK⟩ := hv
  have hx := B.exec
  have hb := B.bytes
  have hr := B.returns
  have hts := atoms_spec (ws := wsX7_init) B.pre
  have hown : s.vm.findClass RX7 = some m.cls := findClass_of_methodNamed B.named
  have hlocks := B.notSynchronized
  have hC : Cx D cA p s m _ meth c cX7_init 1 RX7 wsX7_init none := ⟨hx, hb, hml, hown, hts, hK, hr, hlocks⟩
  have hS : va_S (Ab b0) s.heap s.heap [] := va_S.rf
  have hl := lv_entry ([.ref (b0 + a0)]) (n := 1) (Nat.le_of_ble_eq_true rfl)
  rw [lg_entry_eq]
  generalize (lg_sl ([.ref (b0 + a0)]) ++ List.replicate (1 - (lg_sl ([.ref (b0 + a0)])).length) Slot.unset).toArray = ls at hl ⊢
  have hl : lv_has ls 1 [(0, .ref (b0 + a0))] := hl
  have hin : meth.name = "<init>" := (name_of_methodNamed B.named B.method).1
  unfold fX7_init_P at hE
  obtain ⟨_, _, hE⟩ := Option.bind_eq_some_iff.mp hE
  refine lv_aload_n hx hb dX7_init_0 rfl (lv_at hl 0 rfl) ?_
  refine W.objInit hx hb hown (hts (.methodLink RX7 3 objectInit) (by decide +kernel)) (hts (.instanceMethod objectInit) (by decide +kernel)) (hts (.code objectInit ⟨#[0xb1]⟩ 1 none) (by decide +kernel)) rfl (by rw [hml]; exact hl.1) rfl dX7_init_1 (Nat.le_of_ble_eq_true rfl) (Nat.le_of_ble_eq_true rfl) ?_
  refine W.eq (g2 := F0 m 4 ls []) rfl ?_
  refine lv_aload_n hx hb dX7_init_4 rfl (lv_at hl 0 rfl) ?_
  refine lv_iconst (v := 4) hx hb dX7_init_5 (by decide) ?_
  obtain ⟨L1, hL1, hE⟩ := Option.bind_eq_some_iff.mp hE
  refine r_p 0 (v := .int 4) (ty := .int) (C := RX4) (T := TX4) (N := 9) (ci := 4) hx hb hts (by decide +kernel) tyX4 tyX4_ok nmX4 hown hK hH hS hL1 rfl (by decide) (hts (.fieldLink RX7 9 "KindStreets$Town" "yards" "I") (by decide +kernel)) (fun _ h9 => h9) rfl (by decide +kernel) rfl rfl dX7_init_6 (fun H locs hH hS => ?_)
  refine lv_aload_n hx hb dX7_init_9 rfl (lv_at hl 0 rfl) ?_
  refine lv_bipush (v := 9) hx hb dX7_init_10 (by decide) ?_
  refine r_newa (N' := 9) 0 hx hb (hts (.arrayClass .int) (by decide +kernel)) rfl rfl hK rfl (fun _ h => by cases h) hH hS (by decide) (by decide) (by decide) (by decide) (by decide) dX7_init_12 (fun H hH hS => ?_)
  refine W.widen (k := 1) (n := 9) (by decide) (by decide) ?_
  obtain ⟨L2, hL2, hE⟩ := Option.bind_eq_some_iff.mp hE
  refine r_pF 3 (v := .ref L1.length) (ty := (.array .int)) (C := RX4) (T := TX4) (N := 9) (ci := 4) hx hb hts (by decide +kernel) tyX4 tyX4_ok nmX4 hown hK hH hS hL2 rfl (by decide) (hts (.fieldLink RX7 15 "KindStreets$Town" "one" "[I") (by decide +kernel)) (fun _ h9 => h9) rfl hin rfl (by decide +kernel) rfl rfl dX7_init_14 (fun H locs hH hS => ?_)
  refine lv_aload_n hx hb dX7_init_17 rfl (lv_at hl 0 rfl) ?_
  refine lv_bipush (v := 9) hx hb dX7_init_18 (by decide) ?_
  refine r_newa (N' := 9) 0 hx hb (hts (.arrayClass .int) (by decide +kernel)) rfl rfl hK rfl (fun _ h => by cases h) hH hS (by decide) (by decide) (by decide) (by decide) (by decide) dX7_init_20 (fun H hH hS => ?_)
  refine W.widen (k := 2) (n := 18) (by decide) (by decide) ?_
  obtain ⟨L3, hL3, hE⟩ := Option.bind_eq_some_iff.mp hE
  refine r_pF 4 (v := .ref L2.length) (ty := (.array .int)) (C := RX4) (T := TX4) (N := 9) (ci := 4) hx hb hts (by decide +kernel) tyX4 tyX4_ok nmX4 hown hK hH hS hL3 rfl (by decide) (hts (.fieldLink RX7 19 "KindStreets$Town" "other" "[I") (by decide +kernel)) (fun _ h9 => h9) rfl hin rfl (by decide +kernel) rfl rfl dX7_init_22 (fun H locs hH hS => ?_)
  refine lv_aload_n hx hb dX7_init_25 rfl (lv_at hl 0 rfl) ?_
  refine lv_bipush (v := 9) hx hb dX7_init_26 (by decide) ?_
  refine r_newa (N' := 9) 0 hx hb (hts (.arrayClass .int) (by decide +kernel)) rfl rfl hK rfl (fun _ h => by cases h) hH hS (by decide) (by decide) (by decide) (by decide) (by decide) dX7_init_28 (fun H hH hS => ?_)
  refine W.widen (k := 3) (n := 27) (by decide) (by decide) ?_
  obtain ⟨L4, hL4, hE⟩ := Option.bind_eq_some_iff.mp hE
  refine r_pF 5 (v := .ref L3.length) (ty := (.array .int)) (C := RX4) (T := TX4) (N := 9) (ci := 4) hx hb hts (by decide +kernel) tyX4 tyX4_ok nmX4 hown hK hH hS hL4 rfl (by decide) (hts (.fieldLink RX7 22 "KindStreets$Town" "old" "[I") (by decide +kernel)) (fun _ h9 => h9) rfl hin rfl (by decide +kernel) rfl rfl dX7_init_30 (fun H locs hH hS => ?_)
  refine lv_aload_n hx hb dX7_init_33 rfl (lv_at hl 0 rfl) ?_
  refine lv_bipush (v := 6) hx hb dX7_init_34 (by decide) ?_
  refine r_newa (N' := 6) 0 hx hb (hts (.arrayClass .int) (by decide +kernel)) rfl rfl hK rfl (fun _ h => by cases h) hH hS (by decide) (by decide) (by decide) (by decide) (by decide) dX7_init_36 (fun H hH hS => ?_)
  refine W.widen (k := 4) (n := 33) (by decide) (by decide) ?_
  obtain ⟨L5, hL5, hE⟩ := Option.bind_eq_some_iff.mp hE
  refine r_pF 6 (v := .ref L4.length) (ty := (.array .int)) (C := RX4) (T := TX4) (N := 9) (ci := 4) hx hb hts (by decide +kernel) tyX4 tyX4_ok nmX4 hown hK hH hS hL5 rfl (by decide) (hts (.fieldLink RX7 25 "KindStreets$Town" "home" "[I") (by decide +kernel)) (fun _ h9 => h9) rfl hin rfl (by decide +kernel) rfl rfl dX7_init_38 (fun H locs hH hS => ?_)
  refine lv_aload_n hx hb dX7_init_41 rfl (lv_at hl 0 rfl) ?_
  refine lv_bipush (v := 6) hx hb dX7_init_42 (by decide) ?_
  refine r_newa (N' := 6) 0 hx hb (hts (.arrayClass .int) (by decide +kernel)) rfl rfl hK rfl (fun _ h => by cases h) hH hS (by decide) (by decide) (by decide) (by decide) (by decide) dX7_init_44 (fun H hH hS => ?_)
  refine W.widen (k := 5) (n := 39) (by decide) (by decide) ?_
  obtain ⟨L6, hL6, hE⟩ := Option.bind_eq_some_iff.mp hE
  refine r_pF 7 (v := .ref L5.length) (ty := (.array .int)) (C := RX4) (T := TX4) (N := 9) (ci := 4) hx hb hts (by decide +kernel) tyX4 tyX4_ok nmX4 hown hK hH hS hL6 rfl (by decide) (hts (.fieldLink RX7 28 "KindStreets$Town" "wants" "[I") (by decide +kernel)) (fun _ h9 => h9) rfl hin rfl (by decide +kernel) rfl rfl dX7_init_46 (fun H locs hH hS => ?_)
  have hZ := Option.some.inj hE
  subst hZ
  exact W.vret hx hb hr (fun t ht hW => ⟨rfl, by rw [ht]; exact hH, hS.F ht⟩) hS.2.2 dX7_init_49
-- X4_init
def fX4_init (F : Nat) (L : HL) (a0 : Nat) : Option HL := (o_ob L a0 4).bind fun _ => (fX7_init_P F L a0).bind fun z1 => (o_p (z1 ++ [(.inl (0, 9, fun _ => 0) : SC)]) a0 4 8 (.ref z1.length)).bind fun L2 => some L2
theorem oX4_init {F : Nat} {L : HL} {a0 : Nat} {z : HL} (hE : fX4_init F L a0 = some z) : o_ob L a0 4 = some () := by
  obtain ⟨_, h, _⟩ := Option.bind_eq_some_iff.mp hE
  exact h
set_option maxHeartbeats 4000000 in
set_option maxRecDepth 100000 in
theorem sX4_init (l : Launch) (b0 : Nat) (D : va_G) (cA : Nat → ClassId) {F : Nat} {L : HL} {a0 : Nat} {z : HL} (hE : fX4_init F L a0 = some z) : Met l yX4_init wsX4_init (RM 2 6 48) (Pk b0 D cA [.ref (b0 + a0)] L) (Qk b0 D cA none z) 6 48 (Ab b0) := by
  refine Met.ofW (cc := cX4_init) (maxL := 1) (ret := none) (by decide) rfl ?_
  intro p ev s m args below meth c s₁ B hml hv
  obtain ⟨rfl, hH, hK⟩ := hv
  have hx := B.exec
  have hb := B.bytes
  have hr := B.returns
  have hts := atoms_spec (ws := wsX4_init) B.pre
  have hown : s.vm.findClass RX4 = some m.cls := findClass_of_methodNamed B.named
  have hlocks := B.notSynchronized
  have hC : Cx D cA p s m _ meth c cX4_init 1 RX4 wsX4_init none := ⟨hx, hb, hml, hown, hts, hK, hr, hlocks⟩
  have hS : va_S (Ab b0) s.heap s.heap [] := va_S.rf
  have hl := lv_entry ([.ref (b0 + a0)]) (n := 1) (Nat.le_of_ble_eq_true rfl)
  rw [lg_entry_eq]
  generalize (lg_sl ([.ref (b0 + a0)]) ++ List.replicate (1 - (lg_sl ([.ref (b0 + a0)])).length) Slot.unset).toArray = ls at hl ⊢
  have hl : lv_has ls 1 [(0, .ref (b0 + a0))] := hl
  have hin : meth.name = "<init>" := (name_of_methodNamed B.named B.method).1
  unfold fX4_init at hE
  obtain ⟨_, _, hE⟩ := Option.bind_eq_some_iff.mp hE
  refine lv_aload_n hx hb dX4_init_0 rfl (lv_at hl 0 rfl) ?_
  obtain ⟨z1, hz1, hE⟩ := Option.bind_eq_some_iff.mp hE
  refine r_callV (va_runI (As := []) (rest := []) ⟨hx, hb, hml, hown, hts⟩ (sX7_init_P l b0 D cA hz1) (cwI 0 hts gX4_init_X7_init rfl rfl rfl (hts (.initialized RX7) (by decide +kernel)) (hts (.methodLink RX4 3 yX7_init) (by decide +kernel)) (hts (.instanceMethod yX7_init) (by decide +kernel)) rfl (by decide +kernel) (rm_ok (by decide) (by decide))) (pre_S hK hH) rfl rfl hl.1 rfl (lv_room (Nat.le_of_ble_eq_true rfl)) dX4_init_1 ⟨by decide, by decide⟩) hS (fun H locs hH hS => ?_)
  refine W.widen (k := 5) (n := 39) (by decide) (by decide) ?_
  refine lv_aload_n hx hb dX4_init_4 rfl (lv_at hl 0 rfl) ?_
  refine lv_bipush (v := 9) hx hb dX4_init_5 (by decide) ?_
  refine r_newa (N' := 9) 0 hx hb (hts (.arrayClass .int) (by decide +kernel)) rfl rfl hK rfl (fun _ h => by cases h) hH hS (by decide) (by decide) (by decide) (by decide) (by decide) dX4_init_7 (fun H hH hS => ?_)
  refine W.widen (k := 6) (n := 48) (by decide) (by decide) ?_
  obtain ⟨L2, hL2, hE⟩ := Option.bind_eq_some_iff.mp hE
  refine r_pF 8 (v := .ref z1.length) (ty := (.array .int)) (C := RX4) (T := TX4) (N := 9) (ci := 4) hx hb hts (by decide +kernel) tyX4 tyX4_ok nmX4 hown hK hH hS hL2 rfl (by decide) (hts (.fieldLink RX4 9 "KindStreets$Plan" "width" "[I") (by decide +kernel)) (fun _ h9 => h9) rfl hin rfl (by decide +kernel) rfl rfl dX4_init_9 (fun H locs hH hS => ?_)
  have hZ := Option.some.inj hE
  subst hZ
  exact W.vret hx hb hr (fun t ht hW => ⟨rfl, by rw [ht]; exact hH, hS.F ht⟩) hS.2.2 dX4_init_12
-- X6_init
def fX6_init (F : Nat) (L : HL) (a0 : Nat) : Option HL := (o_ob L a0 5).bind fun _ => (o_p (L ++ [(.inl (0, 120, fun _ => 0) : SC)]) a0 5 0 (.ref L.length)).bind fun L1 => some L1
theorem oX6_init {F : Nat} {L : HL} {a0 : Nat} {z : HL} (hE : fX6_init F L a0 = some z) : o_ob L a0 5 = some () := by
  obtain ⟨_, h, _⟩ := Option.bind_eq_some_iff.mp hE
  exact h
set_option maxHeartbeats 4000000 in
set_option maxRecDepth 100000 in
theorem sX6_init (l : Launch) (b0 : Nat) (D : va_G) (cA : Nat → ClassId) {F : Nat} {L : HL} {a0 : Nat} {z : HL} (hE : fX6_init F L a0 = some z) : Met l yX6_init wsX6_init (RM 1 1 120) (Pk b0 D cA [.ref (b0 + a0)] L) (Qk b0 D cA none z) 1 120 (Ab b0) := by
  refine Met.ofW (cc := cX6_init) (maxL := 1) (ret := none) (by decide) rfl ?_
  intro p ev s m args below meth c s₁ B hml hv
  obtain ⟨rfl, hH, hK⟩ := hv
  have hx := B.exec
  have hb := B.bytes
  have hr := B.returns
  have hts := atoms_spec (ws := wsX6_init) B.pre
  have hown : s.vm.findClass RX6 = some m.cls := findClass_of_methodNamed B.named
  have hlocks := B.notSynchronized
  have hC : Cx D cA p s m _ meth c cX6_init 1 RX6 wsX6_init none := ⟨hx, hb, hml, hown, hts, hK, hr, hlocks⟩
  have hS : va_S (Ab b0) s.heap s.heap [] := va_S.rf
  have hl := lv_entry ([.ref (b0 + a0)]) (n := 1) (Nat.le_of_ble_eq_true rfl)
  rw [lg_entry_eq]
  generalize (lg_sl ([.ref (b0 + a0)]) ++ List.replicate (1 - (lg_sl ([.ref (b0 + a0)])).length) Slot.unset).toArray = ls at hl ⊢
  have hl : lv_has ls 1 [(0, .ref (b0 + a0))] := hl
  have hin : meth.name = "<init>" := (name_of_methodNamed B.named B.method).1
  unfold fX6_init at hE
  obtain ⟨_, _, hE⟩ := Option.bind_eq_some_iff.mp hE
  refine lv_aload_n hx hb dX6_init_0 rfl (lv_at hl 0 rfl) ?_
  refine W.objInit hx hb hown (hts (.methodLink RX6 3 objectInit) (by decide +kernel)) (hts (.instanceMethod objectInit) (by decide +kernel)) (hts (.code objectInit ⟨#[0xb1]⟩ 1 none) (by decide +kernel)) rfl (by rw [hml]; exact hl.1) rfl dX6_init_1 (Nat.le_of_ble_eq_true rfl) (Nat.le_of_ble_eq_true rfl) ?_
  refine W.eq (g2 := F0 m 4 ls []) rfl ?_
  refine lv_aload_n hx hb dX6_init_4 rfl (lv_at hl 0 rfl) ?_
  refine lv_bipush (v := 120) hx hb dX6_init_5 (by decide) ?_
  refine r_newa (N' := 120) 0 hx hb (hts (.arrayClass .int) (by decide +kernel)) rfl rfl hK rfl (fun _ h => by cases h) hH hS (by decide) (by decide) (by decide) (by decide) (by decide) dX6_init_7 (fun H hH hS => ?_)
  refine W.widen (k := 1) (n := 120) (by decide) (by decide) ?_
  obtain ⟨L1, hL1, hE⟩ := Option.bind_eq_some_iff.mp hE
  refine r_pF 0 (v := .ref L.length) (ty := (.array .int)) (C := RX6) (T := TX6) (N := 3) (ci := 5) hx hb hts (by decide +kernel) tyX6 tyX6_ok nmX6 hown hK hH hS hL1 rfl (by decide) (hts (.fieldLink RX6 9 "KindStreets$Text" "bytes" "[I") (by decide +kernel)) (fun _ h9 => h9) rfl hin rfl (by decide +kernel) rfl rfl dX6_init_9 (fun H locs hH hS => ?_)
  have hZ := Option.some.inj hE
  subst hZ
  exact W.vret hx hb hr (fun t ht hW => ⟨rfl, by rw [ht]; exact hH, hS.F ht⟩) hS.2.2 dX6_init_12
-- X2_init
def fX2_init (F : Nat) (L : HL) (a0 : Nat) : Option HL := (o_ob L a0 2).bind fun _ => (o_p (L ++ [(.inl (0, 9, fun _ => 0) : SC)]) a0 2 0 (.ref L.length)).bind fun L1 => (o_p (L1 ++ [(.inl (0, 9, fun _ => 0) : SC)]) a0 2 1 (.ref L1.length)).bind fun L2 => (o_p (L2 ++ [(.inl (0, 9, fun _ => 0) : SC)]) a0 2 2 (.ref L2.length)).bind fun L3 => (o_p (L3 ++ [(.inl (0, 6, fun _ => 0) : SC)]) a0 2 3 (.ref L3.length)).bind fun L4 => some L4
theorem oX2_init {F : Nat} {L : HL} {a0 : Nat} {z : HL} (hE : fX2_init F L a0 = some z) : o_ob L a0 2 = some () := by
  obtain ⟨_, h, _⟩ := Option.bind_eq_some_iff.mp hE
  exact h
set_option maxHeartbeats 4000000 in
set_option maxRecDepth 100000 in
theorem sX2_init (l : Launch) (b0 : Nat) (D : va_G) (cA : Nat → ClassId) {F : Nat} {L : HL} {a0 : Nat} {z : HL} (hE : fX2_init F L a0 = some z) : Met l yX2_init wsX2_init (RM 1 4 33) (Pk b0 D cA [.ref (b0 + a0)] L) (Qk b0 D cA none z) 4 33 (Ab b0) := by
  refine Met.ofW (cc := cX2_init) (maxL := 1) (ret := none) (by decide) rfl ?_
  intro p ev s m args below meth c s₁ B hml hv
  obtain ⟨rfl, hH, hK⟩ := hv
  have hx := B.exec
  have hb := B.bytes
  have hr := B.returns
  have hts := atoms_spec (ws := wsX2_init) B.pre
  have hown : s.vm.findClass RX2 = some m.cls := findClass_of_methodNamed B.named
  have hlocks := B.notSynchronized
  have hC : Cx D cA p s m _ meth c cX2_init 1 RX2 wsX2_init none := ⟨hx, hb, hml, hown, hts, hK, hr, hlocks⟩
  have hS : va_S (Ab b0) s.heap s.heap [] := va_S.rf
  have hl := lv_entry ([.ref (b0 + a0)]) (n := 1) (Nat.le_of_ble_eq_true rfl)
  rw [lg_entry_eq]
  generalize (lg_sl ([.ref (b0 + a0)]) ++ List.replicate (1 - (lg_sl ([.ref (b0 + a0)])).length) Slot.unset).toArray = ls at hl ⊢
  have hl : lv_has ls 1 [(0, .ref (b0 + a0))] := hl
  have hin : meth.name = "<init>" := (name_of_methodNamed B.named B.method).1
  unfold fX2_init at hE
  obtain ⟨_, _, hE⟩ := Option.bind_eq_some_iff.mp hE
  refine lv_aload_n hx hb dX2_init_0 rfl (lv_at hl 0 rfl) ?_
  refine W.objInit hx hb hown (hts (.methodLink RX2 3 objectInit) (by decide +kernel)) (hts (.instanceMethod objectInit) (by decide +kernel)) (hts (.code objectInit ⟨#[0xb1]⟩ 1 none) (by decide +kernel)) rfl (by rw [hml]; exact hl.1) rfl dX2_init_1 (Nat.le_of_ble_eq_true rfl) (Nat.le_of_ble_eq_true rfl) ?_
  refine W.eq (g2 := F0 m 4 ls []) rfl ?_
  refine lv_aload_n hx hb dX2_init_4 rfl (lv_at hl 0 rfl) ?_
  refine lv_bipush (v := 9) hx hb dX2_init_5 (by decide) ?_
  refine r_newa (N' := 9) 0 hx hb (hts (.arrayClass .int) (by decide +kernel)) rfl rfl hK rfl (fun _ h => by cases h) hH hS (by decide) (by decide) (by decide) (by decide) (by decide) dX2_init_7 (fun H hH hS => ?_)
  refine W.widen (k := 1) (n := 9) (by decide) (by decide) ?_
  obtain ⟨L1, hL1, hE⟩ := Option.bind_eq_some_iff.mp hE
  refine r_pF 0 (v := .ref L.length) (ty := (.array .int)) (C := RX2) (T := TX2) (N := 5) (ci := 2) hx hb hts (by decide +kernel) tyX2 tyX2_ok nmX2 hown hK hH hS hL1 rfl (by decide) (hts (.fieldLink RX2 9 "KindStreets$Moment" "seen" "[I") (by decide +kernel)) (fun _ h9 => h9) rfl hin rfl (by decide +kernel) rfl rfl dX2_init_9 (fun H locs hH hS => ?_)
  refine lv_aload_n hx hb dX2_init_12 rfl (lv_at hl 0 rfl) ?_
  refine lv_bipush (v := 9) hx hb dX2_init_13 (by decide) ?_
  refine r_newa (N' := 9) 0 hx hb (hts (.arrayClass .int) (by decide +kernel)) rfl rfl hK rfl (fun _ h => by cases h) hH hS (by decide) (by decide) (by decide) (by decide) (by decide) dX2_init_15 (fun H hH hS => ?_)
  refine W.widen (k := 2) (n := 18) (by decide) (by decide) ?_
  obtain ⟨L2, hL2, hE⟩ := Option.bind_eq_some_iff.mp hE
  refine r_pF 1 (v := .ref L1.length) (ty := (.array .int)) (C := RX2) (T := TX2) (N := 5) (ci := 2) hx hb hts (by decide +kernel) tyX2 tyX2_ok nmX2 hown hK hH hS hL2 rfl (by decide) (hts (.fieldLink RX2 15 "KindStreets$Moment" "hidden" "[I") (by decide +kernel)) (fun _ h9 => h9) rfl hin rfl (by decide +kernel) rfl rfl dX2_init_17 (fun H locs hH hS => ?_)
  refine lv_aload_n hx hb dX2_init_20 rfl (lv_at hl 0 rfl) ?_
  refine lv_bipush (v := 9) hx hb dX2_init_21 (by decide) ?_
  refine r_newa (N' := 9) 0 hx hb (hts (.arrayClass .int) (by decide +kernel)) rfl rfl hK rfl (fun _ h => by cases h) hH hS (by decide) (by decide) (by decide) (by decide) (by decide) dX2_init_23 (fun H hH hS => ?_)
  refine W.widen (k := 3) (n := 27) (by decide) (by decide) ?_
  obtain ⟨L3, hL3, hE⟩ := Option.bind_eq_some_iff.mp hE
  refine r_pF 2 (v := .ref L2.length) (ty := (.array .int)) (C := RX2) (T := TX2) (N := 5) (ci := 2) hx hb hts (by decide +kernel) tyX2 tyX2_ok nmX2 hown hK hH hS hL3 rfl (by decide) (hts (.fieldLink RX2 18 "KindStreets$Moment" "pretended" "[I") (by decide +kernel)) (fun _ h9 => h9) rfl hin rfl (by decide +kernel) rfl rfl dX2_init_25 (fun H locs hH hS => ?_)
  refine lv_aload_n hx hb dX2_init_28 rfl (lv_at hl 0 rfl) ?_
  refine lv_bipush (v := 6) hx hb dX2_init_29 (by decide) ?_
  refine r_newa (N' := 6) 0 hx hb (hts (.arrayClass .int) (by decide +kernel)) rfl rfl hK rfl (fun _ h => by cases h) hH hS (by decide) (by decide) (by decide) (by decide) (by decide) dX2_init_31 (fun H hH hS => ?_)
  refine W.widen (k := 4) (n := 33) (by decide) (by decide) ?_
  obtain ⟨L4, hL4, hE⟩ := Option.bind_eq_some_iff.mp hE
  refine r_pF 3 (v := .ref L3.length) (ty := (.array .int)) (C := RX2) (T := TX2) (N := 5) (ci := 2) hx hb hts (by decide +kernel) tyX2 tyX2_ok nmX2 hown hK hH hS hL4 rfl (by decide) (hts (.fieldLink RX2 21 "KindStreets$Moment" "home" "[I") (by decide +kernel)) (fun _ h9 => h9) rfl hin rfl (by decide +kernel) rfl rfl dX2_init_33 (fun H locs hH hS => ?_)
  have hZ := Option.some.inj hE
  subst hZ
  exact W.vret hx hb hr (fun t ht hW => ⟨rfl, by rw [ht]; exact hH, hS.F ht⟩) hS.2.2 dX2_init_36
-- X3_init
def fX3_init (F : Nat) (L : HL) (a0 : Nat) : Option HL := (o_ob L a0 3).bind fun _ => (fX2_init F (L ++ [(.inr (.inr (2, [.null, .null, .null, .null, .int 0])) : SC)]) L.length).bind fun z1 => (o_p z1 a0 3 0 (.ref L.length)).bind fun L2 => (o_p (L2 ++ [(.inr (.inl (3, 10, fun _ => none)) : SC)]) a0 3 1 (.ref L2.length)).bind fun L3 => (o_gR L3 a0 3 1).bind fun v4 => (fX2_init F (L3 ++ [(.inr (.inr (2, [.null, .null, .null, .null, .int 0])) : SC)]) L3.length).bind fun z5 => (o_sR z5 v4 3 2 0 L3.length).bind fun L6 => (o_gR L6 a0 3 1).bind fun v7 => (fX2_init F (L6 ++ [(.inr (.inr (2, [.null, .null, .null, .null, .int 0])) : SC)]) L6.length).bind fun z8 => (o_sR z8 v7 3 2 1 L6.length).bind fun L9 => (o_gR L9 a0 3 1).bind fun v10 => (fX2_init F (L9 ++ [(.inr (.inr (2, [.null, .null, .null, .null, .int 0])) : SC)]) L9.length).bind fun z11 => (o_sR z11 v10 3 2 2 L9.length).bind fun L12 => (o_gR L12 a0 3 1).bind fun v13 => (fX2_init F (L12 ++ [(.inr (.inr (2, [.null, .null, .null, .null, .int 0])) : SC)]) L12.length).bind fun z14 => (o_sR z14 v13 3 2 3 L12.length).bind fun L15 => (o_gR L15 a0 3 1).bind fun v16 => (fX2_init F (L15 ++ [(.inr (.inr (2, [.null, .null, .null, .null, .int 0])) : SC)]) L15.length).bind fun z17 => (o_sR z17 v16 3 2 4 L15.length).bind fun L18 => (o_gR L18 a0 3 1).bind fun v19 => (fX2_init F (L18 ++ [(.inr (.inr (2, [.null, .null, .null, .null, .int 0])) : SC)]) L18.length).bind fun z20 => (o_sR z20 v19 3 2 5 L18.length).bind fun L21 => (o_gR L21 a0 3 1).bind fun v22 => (fX2_init F (L21 ++ [(.inr (.inr (2, [.null, .null, .null, .null, .int 0])) : SC)]) L21.length).bind fun z23 => (o_sR z23 v22 3 2 6 L21.length).bind fun L24 => (o_gR L24 a0 3 1).bind fun v25 => (fX2_init F (L24 ++ [(.inr (.inr (2, [.null, .null, .null, .null, .int 0])) : SC)]) L24.length).bind fun z26 => (o_sR z26 v25 3 2 7 L24.length).bind fun L27 => (o_gR L27 a0 3 1).bind fun v28 => (fX2_init F (L27 ++ [(.inr (.inr (2, [.null, .null, .null, .null, .int 0])) : SC)]) L27.length).bind fun z29 => (o_sR z29 v28 3 2 8 L27.length).bind fun L30 => (o_gR L30 a0 3 1).bind fun v31 => (fX2_init F (L30 ++ [(.inr (.inr (2, [.null, .null, .null, .null, .int 0])) : SC)]) L30.length).bind fun z32 => (o_sR z32 v31 3 2 9 L30.length).bind fun L33 => some L33
theorem oX3_init {F : Nat} {L : HL} {a0 : Nat} {z : HL} (hE : fX3_init F L a0 = some z) : o_ob L a0 3 = some () := by
  obtain ⟨_, h, _⟩ := Option.bind_eq_some_iff.mp hE
  exact h
set_option maxHeartbeats 4000000 in
set_option maxRecDepth 100000 in
theorem sX3_init (l : Launch) (b0 : Nat) (D : va_G) (cA : Nat → ClassId) {F : Nat} {L : HL} {a0 : Nat} {z : HL} (hE : fX3_init F L a0 = some z) : Met l yX3_init wsX3_init (RM 2 56 428) (Pk b0 D cA [.ref (b0 + a0)] L) (Qk b0 D cA none z) 56 428 (Ab b0) := by
  refine Met.ofW (cc := cX3_init) (maxL := 2) (ret := none) (by decide) rfl ?_
  intro p ev s m args below meth c s₁ B hml hv
  obtain ⟨rfl, hH, hK⟩ := hv
  have hx := B.exec
  have hb := B.bytes
  have hr := B.returns
  have hts := atoms_spec (ws := wsX3_init) B.pre
  have hown : s.vm.findClass RX3 = some m.cls := findClass_of_methodNamed B.named
  have hlocks := B.notSynchronized
  have hC : Cx D cA p s m _ meth c cX3_init 2 RX3 wsX3_init none := ⟨hx, hb, hml, hown, hts, hK, hr, hlocks⟩
  have hS : va_S (Ab b0) s.heap s.heap [] := va_S.rf
  have hl := lv_entry ([.ref (b0 + a0)]) (n := 2) (Nat.le_of_ble_eq_true rfl)
  rw [lg_entry_eq]
  generalize (lg_sl ([.ref (b0 + a0)]) ++ List.replicate (2 - (lg_sl ([.ref (b0 + a0)])).length) Slot.unset).toArray = ls at hl ⊢
  have hl : lv_has ls 2 [(0, .ref (b0 + a0))] := hl
  have hin : meth.name = "<init>" := (name_of_methodNamed B.named B.method).1
  unfold fX3_init at hE
  obtain ⟨_, _, hE⟩ := Option.bind_eq_some_iff.mp hE
  refine lv_aload_n hx hb dX3_init_0 rfl (lv_at hl 0 rfl) ?_
  refine W.objInit hx hb hown (hts (.methodLink RX3 3 objectInit) (by decide +kernel)) (hts (.instanceMethod objectInit) (by decide +kernel)) (hts (.code objectInit ⟨#[0xb1]⟩ 1 none) (by decide +kernel)) rfl (by rw [hml]; exact hl.1) rfl dX3_init_1 (Nat.le_of_ble_eq_true rfl) (Nat.le_of_ble_eq_true rfl) ?_
  refine W.eq (g2 := F0 m 4 ls []) rfl ?_
  refine lv_aload_n hx hb dX3_init_4 rfl (lv_at hl 0 rfl) ?_
  refine r_new (C := RX2) (T := TX2) (N := 5) (ci := 2) (fs := [.null, .null, .null, .null, .int 0]) hx hb hts (by decide +kernel) tyX2 tyX2_ok hown (hts (.classLink RX3 9 RX2) (by decide +kernel)) (hts (.instantiable RX2 5) (by decide +kernel)) (hts (.initialized RX2) (by decide +kernel)) hK hH hS rfl (by decide) rfl (by decide) (by decide) dX3_init_5 (fun H hH hS => ?_)
  refine W.widen (k := 1) (n := 5) (by decide) (by decide) ?_
  refine lv_dup hx hb dX3_init_8 rfl ?_
  obtain ⟨z1, hz1, hE⟩ := Option.bind_eq_some_iff.mp hE
  refine r_callV (va_runI (As := []) (rest := [.ref (b0 + L.length), .ref (b0 + a0)]) ⟨hx, hb, hml, hown, hts⟩ (sX2_init l b0 D cA hz1) (cwI 0 hts gX3_init_X2_init rfl rfl rfl (hts (.initialized RX2) (by decide +kernel)) (hts (.methodLink RX3 11 yX2_init) (by decide +kernel)) (hts (.instanceMethod yX2_init) (by decide +kernel)) rfl (by decide +kernel) (rm_ok (by decide) (by decide))) (pre_S hK hH) rfl rfl hl.1 rfl (lv_room (Nat.le_of_ble_eq_true rfl)) dX3_init_9 ⟨by decide, by decide⟩) hS (fun H locs hH hS => ?_)
  refine W.widen (k := 5) (n := 38) (by decide) (by decide) ?_
  obtain ⟨L2, hL2, hE⟩ := Option.bind_eq_some_iff.mp hE
  refine r_pF 0 (v := .ref L.length) (ty := (.object "KindStreets$Moment")) (C := RX3) (T := TX3) (N := 3) (ci := 3) hx hb hts (by decide +kernel) tyX3 tyX3_ok nmX3 hown hK hH hS hL2 rfl (by decide) (hts (.fieldLink RX3 12 "KindStreets$Now" "moment" "LKindStreets$Moment;") (by decide +kernel)) (fun _ h9 => h9) rfl hin rfl (by decide +kernel) rfl rfl dX3_init_12 (fun H locs hH hS => ?_)
  refine lv_aload_n hx hb dX3_init_15 rfl (lv_at hl 0 rfl) ?_
  refine lv_bipush (v := 10) hx hb dX3_init_16 (by decide) ?_
  refine r_anew (N' := 10) 3 hx hb hown (hts (.classLink RX3 9 RX2) (by decide +kernel)) (va_AO.use hK.2.1) hK rfl hH hS (by decide) (by decide) (by decide) (by decide) (by decide) dX3_init_18 (fun H hH hS => ?_)
  refine W.widen (k := 6) (n := 48) (by decide) (by decide) ?_
  obtain ⟨L3, hL3, hE⟩ := Option.bind_eq_some_iff.mp hE
  refine r_pF 1 (v := .ref L2.length) (ty := (.array (.object "KindStreets$Moment"))) (C := RX3) (T := TX3) (N := 3) (ci := 3) hx hb hts (by decide +kernel) tyX3 tyX3_ok nmX3 hown hK hH hS hL3 rfl (by decide) (hts (.fieldLink RX3 18 "KindStreets$Now" "past" "[LKindStreets$Moment;") (by decide +kernel)) (fun _ h9 => h9) rfl hin rfl (by decide +kernel) rfl rfl dX3_init_21 (fun H locs hH hS => ?_)
  refine lv_iconst (v := 0) hx hb dX3_init_24 (by decide) ?_
  refine lv_istore_n (lv' := [(1, .int 0), (0, .ref (b0 + a0))]) hx hb dX3_init_25 rfl hl (by decide) rfl (fun ls hl => ?_)
  refine lv_iload_n hx hb dX3_init_26 rfl (lv_at hl 0 rfl) ?_
  refine lv_bipush (v := 10) hx hb dX3_init_27 (by decide) ?_
  refine lv_icmp_ge (tgt := 51) hx hb dX3_init_29 (by decide) (fun hcz => absurd hcz (by decide)) (fun _ => ?_)
  refine lv_aload_n hx hb dX3_init_32 rfl (lv_at hl 1 rfl) ?_
  obtain ⟨v4, hv4, hE⟩ := Option.bind_eq_some_iff.mp hE
  refine r_gR 1 (C := RX3) (T := TX3) (N := 3) (ci := 3) hx hb hts (by decide +kernel) hown hK hH hv4 rfl (by decide) (hts (.fieldLink RX3 18 "KindStreets$Now" "past" "[LKindStreets$Moment;") (by decide +kernel)) (fun _ h9 => h9) dX3_init_33 ?_
  refine lv_iload_n hx hb dX3_init_36 rfl (lv_at hl 0 rfl) ?_
  refine r_new (C := RX2) (T := TX2) (N := 5) (ci := 2) (fs := [.null, .null, .null, .null, .int 0]) hx hb hts (by decide +kernel) tyX2 tyX2_ok hown (hts (.classLink RX3 9 RX2) (by decide +kernel)) (hts (.instantiable RX2 5) (by decide +kernel)) (hts (.initialized RX2) (by decide +kernel)) hK hH hS rfl (by decide) rfl (by decide) (by decide) dX3_init_37 (fun H hH hS => ?_)
  refine W.widen (k := 7) (n := 53) (by decide) (by decide) ?_
  refine lv_dup hx hb dX3_init_40 rfl ?_
  obtain ⟨z5, hz5, hE⟩ := Option.bind_eq_some_iff.mp hE
  refine r_callV (va_runI (As := []) (rest := [.ref (b0 + L3.length), .int 0, .ref (b0 + v4)]) ⟨hx, hb, hml, hown, hts⟩ (sX2_init l b0 D cA hz5) (cwI 0 hts gX3_init_X2_init rfl rfl rfl (hts (.initialized RX2) (by decide +kernel)) (hts (.methodLink RX3 11 yX2_init) (by decide +kernel)) (hts (.instanceMethod yX2_init) (by decide +kernel)) rfl (by decide +kernel) (rm_ok (by decide) (by decide))) (pre_S hK hH) rfl rfl hl.1 rfl (lv_room (Nat.le_of_ble_eq_true rfl)) dX3_init_41 ⟨by decide, by decide⟩) hS (fun H locs hH hS => ?_)
  refine W.widen (k := 11) (n := 86) (by decide) (by decide) ?_
  obtain ⟨L6, hL6, hE⟩ := Option.bind_eq_some_iff.mp hE
  refine r_aast (r := (RX2, TX2, 5)) hx hb hK hH hS hL6 rfl rfl dX3_init_44 (fun H locs hH hS => ?_)
  refine lv_iinc (v := 1) (lv' := [(1, .int 1), (0, .ref (b0 + a0))]) hx hb dX3_init_45 hl (k := 0) rfl rfl (by decide) rfl (fun ls hl => ?_)
  refine lv_goto (tgt := 26) hx hb dX3_init_48 (by decide) ?_
  refine lv_iload_n hx hb dX3_init_26 rfl (lv_at hl 0 rfl) ?_
  refine lv_bipush (v := 10) hx hb dX3_init_27 (by decide) ?_
  refine lv_icmp_ge (tgt := 51) hx hb dX3_init_29 (by decide) (fun hcz => absurd hcz (by decide)) (fun _ => ?_)
  refine lv_aload_n hx hb dX3_init_32 rfl (lv_at hl 1 rfl) ?_
  obtain ⟨v7, hv7, hE⟩ := Option.bind_eq_some_iff.mp hE
  refine r_gR 1 (C := RX3) (T := TX3) (N := 3) (ci := 3) hx hb hts (by decide +kernel) hown hK hH hv7 rfl (by decide) (hts (.fieldLink RX3 18 "KindStreets$Now" "past" "[LKindStreets$Moment;") (by decide +kernel)) (fun _ h9 => h9) dX3_init_33 ?_
  refine lv_iload_n hx hb dX3_init_36 rfl (lv_at hl 0 rfl) ?_
  refine r_new (C := RX2) (T := TX2) (N := 5) (ci := 2) (fs := [.null, .null, .null, .null, .int 0]) hx hb hts (by decide +kernel) tyX2 tyX2_ok hown (hts (.classLink RX3 9 RX2) (by decide +kernel)) (hts (.instantiable RX2 5) (by decide +kernel)) (hts (.initialized RX2) (by decide +kernel)) hK hH hS rfl (by decide) rfl (by decide) (by decide) dX3_init_37 (fun H hH hS => ?_)
  refine W.widen (k := 12) (n := 91) (by decide) (by decide) ?_
  refine lv_dup hx hb dX3_init_40 rfl ?_
  obtain ⟨z8, hz8, hE⟩ := Option.bind_eq_some_iff.mp hE
  refine r_callV (va_runI (As := []) (rest := [.ref (b0 + L6.length), .int 1, .ref (b0 + v7)]) ⟨hx, hb, hml, hown, hts⟩ (sX2_init l b0 D cA hz8) (cwI 0 hts gX3_init_X2_init rfl rfl rfl (hts (.initialized RX2) (by decide +kernel)) (hts (.methodLink RX3 11 yX2_init) (by decide +kernel)) (hts (.instanceMethod yX2_init) (by decide +kernel)) rfl (by decide +kernel) (rm_ok (by decide) (by decide))) (pre_S hK hH) rfl rfl hl.1 rfl (lv_room (Nat.le_of_ble_eq_true rfl)) dX3_init_41 ⟨by decide, by decide⟩) hS (fun H locs hH hS => ?_)
  refine W.widen (k := 16) (n := 124) (by decide) (by decide) ?_
  obtain ⟨L9, hL9, hE⟩ := Option.bind_eq_some_iff.mp hE
  refine r_aast (r := (RX2, TX2, 5)) hx hb hK hH hS hL9 rfl rfl dX3_init_44 (fun H locs hH hS => ?_)
  refine lv_iinc (v := 2) (lv' := [(1, .int 2), (0, .ref (b0 + a0))]) hx hb dX3_init_45 hl (k := 0) rfl rfl (by decide) rfl (fun ls hl => ?_)
  refine lv_goto (tgt := 26) hx hb dX3_init_48 (by decide) ?_
  refine lv_iload_n hx hb dX3_init_26 rfl (lv_at hl 0 rfl) ?_
  refine lv_bipush (v := 10) hx hb dX3_init_27 (by decide) ?_
  refine lv_icmp_ge (tgt := 51) hx hb dX3_init_29 (by decide) (fun hcz => absurd hcz (by decide)) (fun _ => ?_)
  refine lv_aload_n hx hb dX3_init_32 rfl (lv_at hl 1 rfl) ?_
  obtain ⟨v10, hv10, hE⟩ := Option.bind_eq_some_iff.mp hE
  refine r_gR 1 (C := RX3) (T := TX3) (N := 3) (ci := 3) hx hb hts (by decide +kernel) hown hK hH hv10 rfl (by decide) (hts (.fieldLink RX3 18 "KindStreets$Now" "past" "[LKindStreets$Moment;") (by decide +kernel)) (fun _ h9 => h9) dX3_init_33 ?_
  refine lv_iload_n hx hb dX3_init_36 rfl (lv_at hl 0 rfl) ?_
  refine r_new (C := RX2) (T := TX2) (N := 5) (ci := 2) (fs := [.null, .null, .null, .null, .int 0]) hx hb hts (by decide +kernel) tyX2 tyX2_ok hown (hts (.classLink RX3 9 RX2) (by decide +kernel)) (hts (.instantiable RX2 5) (by decide +kernel)) (hts (.initialized RX2) (by decide +kernel)) hK hH hS rfl (by decide) rfl (by decide) (by decide) dX3_init_37 (fun H hH hS => ?_)
  refine W.widen (k := 17) (n := 129) (by decide) (by decide) ?_
  refine lv_dup hx hb dX3_init_40 rfl ?_
  obtain ⟨z11, hz11, hE⟩ := Option.bind_eq_some_iff.mp hE
  refine r_callV (va_runI (As := []) (rest := [.ref (b0 + L9.length), .int 2, .ref (b0 + v10)]) ⟨hx, hb, hml, hown, hts⟩ (sX2_init l b0 D cA hz11) (cwI 0 hts gX3_init_X2_init rfl rfl rfl (hts (.initialized RX2) (by decide +kernel)) (hts (.methodLink RX3 11 yX2_init) (by decide +kernel)) (hts (.instanceMethod yX2_init) (by decide +kernel)) rfl (by decide +kernel) (rm_ok (by decide) (by decide))) (pre_S hK hH) rfl rfl hl.1 rfl (lv_room (Nat.le_of_ble_eq_true rfl)) dX3_init_41 ⟨by decide, by decide⟩) hS (fun H locs hH hS => ?_)
  refine W.widen (k := 21) (n := 162) (by decide) (by decide) ?_
  obtain ⟨L12, hL12, hE⟩ := Option.bind_eq_some_iff.mp hE
  refine r_aast (r := (RX2, TX2, 5)) hx hb hK hH hS hL12 rfl rfl dX3_init_44 (fun H locs hH hS => ?_)
  refine lv_iinc (v := 3) (lv' := [(1, .int 3), (0, .ref (b0 + a0))]) hx hb dX3_init_45 hl (k := 0) rfl rfl (by decide) rfl (fun ls hl => ?_)
  refine lv_goto (tgt := 26) hx hb dX3_init_48 (by decide) ?_
  refine lv_iload_n hx hb dX3_init_26 rfl (lv_at hl 0 rfl) ?_
  refine lv_bipush (v := 10) hx hb dX3_init_27 (by decide) ?_
  refine lv_icmp_ge (tgt := 51) hx hb dX3_init_29 (by decide) (fun hcz => absurd hcz (by decide)) (fun _ => ?_)
  refine lv_aload_n hx hb dX3_init_32 rfl (lv_at hl 1 rfl) ?_
  obtain ⟨v13, hv13, hE⟩ := Option.bind_eq_some_iff.mp hE
  refine r_gR 1 (C := RX3) (T := TX3) (N := 3) (ci := 3) hx hb hts (by decide +kernel) hown hK hH hv13 rfl (by decide) (hts (.fieldLink RX3 18 "KindStreets$Now" "past" "[LKindStreets$Moment;") (by decide +kernel)) (fun _ h9 => h9) dX3_init_33 ?_
  refine lv_iload_n hx hb dX3_init_36 rfl (lv_at hl 0 rfl) ?_
  refine r_new (C := RX2) (T := TX2) (N := 5) (ci := 2) (fs := [.null, .null, .null, .null, .int 0]) hx hb hts (by decide +kernel) tyX2 tyX2_ok hown (hts (.classLink RX3 9 RX2) (by decide +kernel)) (hts (.instantiable RX2 5) (by decide +kernel)) (hts (.initialized RX2) (by decide +kernel)) hK hH hS rfl (by decide) rfl (by decide) (by decide) dX3_init_37 (fun H hH hS => ?_)
  refine W.widen (k := 22) (n := 167) (by decide) (by decide) ?_
  refine lv_dup hx hb dX3_init_40 rfl ?_
  obtain ⟨z14, hz14, hE⟩ := Option.bind_eq_some_iff.mp hE
  refine r_callV (va_runI (As := []) (rest := [.ref (b0 + L12.length), .int 3, .ref (b0 + v13)]) ⟨hx, hb, hml, hown, hts⟩ (sX2_init l b0 D cA hz14) (cwI 0 hts gX3_init_X2_init rfl rfl rfl (hts (.initialized RX2) (by decide +kernel)) (hts (.methodLink RX3 11 yX2_init) (by decide +kernel)) (hts (.instanceMethod yX2_init) (by decide +kernel)) rfl (by decide +kernel) (rm_ok (by decide) (by decide))) (pre_S hK hH) rfl rfl hl.1 rfl (lv_room (Nat.le_of_ble_eq_true rfl)) dX3_init_41 ⟨by decide, by decide⟩) hS (fun H locs hH hS => ?_)
  refine W.widen (k := 26) (n := 200) (by decide) (by decide) ?_
  obtain ⟨L15, hL15, hE⟩ := Option.bind_eq_some_iff.mp hE
  refine r_aast (r := (RX2, TX2, 5)) hx hb hK hH hS hL15 rfl rfl dX3_init_44 (fun H locs hH hS => ?_)
  refine lv_iinc (v := 4) (lv' := [(1, .int 4), (0, .ref (b0 + a0))]) hx hb dX3_init_45 hl (k := 0) rfl rfl (by decide) rfl (fun ls hl => ?_)
  refine lv_goto (tgt := 26) hx hb dX3_init_48 (by decide) ?_
  refine lv_iload_n hx hb dX3_init_26 rfl (lv_at hl 0 rfl) ?_
  refine lv_bipush (v := 10) hx hb dX3_init_27 (by decide) ?_
  refine lv_icmp_ge (tgt := 51) hx hb dX3_init_29 (by decide) (fun hcz => absurd hcz (by decide)) (fun _ => ?_)
  refine lv_aload_n hx hb dX3_init_32 rfl (lv_at hl 1 rfl) ?_
  obtain ⟨v16, hv16, hE⟩ := Option.bind_eq_some_iff.mp hE
  refine r_gR 1 (C := RX3) (T := TX3) (N := 3) (ci := 3) hx hb hts (by decide +kernel) hown hK hH hv16 rfl (by decide) (hts (.fieldLink RX3 18 "KindStreets$Now" "past" "[LKindStreets$Moment;") (by decide +kernel)) (fun _ h9 => h9) dX3_init_33 ?_
  refine lv_iload_n hx hb dX3_init_36 rfl (lv_at hl 0 rfl) ?_
  refine r_new (C := RX2) (T := TX2) (N := 5) (ci := 2) (fs := [.null, .null, .null, .null, .int 0]) hx hb hts (by decide +kernel) tyX2 tyX2_ok hown (hts (.classLink RX3 9 RX2) (by decide +kernel)) (hts (.instantiable RX2 5) (by decide +kernel)) (hts (.initialized RX2) (by decide +kernel)) hK hH hS rfl (by decide) rfl (by decide) (by decide) dX3_init_37 (fun H hH hS => ?_)
  refine W.widen (k := 27) (n := 205) (by decide) (by decide) ?_
  refine lv_dup hx hb dX3_init_40 rfl ?_
  obtain ⟨z17, hz17, hE⟩ := Option.bind_eq_some_iff.mp hE
  refine r_callV (va_runI (As := []) (rest := [.ref (b0 + L15.length), .int 4, .ref (b0 + v16)]) ⟨hx, hb, hml, hown, hts⟩ (sX2_init l b0 D cA hz17) (cwI 0 hts gX3_init_X2_init rfl rfl rfl (hts (.initialized RX2) (by decide +kernel)) (hts (.methodLink RX3 11 yX2_init) (by decide +kernel)) (hts (.instanceMethod yX2_init) (by decide +kernel)) rfl (by decide +kernel) (rm_ok (by decide) (by decide))) (pre_S hK hH) rfl rfl hl.1 rfl (lv_room (Nat.le_of_ble_eq_true rfl)) dX3_init_41 ⟨by decide, by decide⟩) hS (fun H locs hH hS => ?_)
  refine W.widen (k := 31) (n := 238) (by decide) (by decide) ?_
  obtain ⟨L18, hL18, hE⟩ := Option.bind_eq_some_iff.mp hE
  refine r_aast (r := (RX2, TX2, 5)) hx hb hK hH hS hL18 rfl rfl dX3_init_44 (fun H locs hH hS => ?_)
  refine lv_iinc (v := 5) (lv' := [(1, .int 5), (0, .ref (b0 + a0))]) hx hb dX3_init_45 hl (k := 0) rfl rfl (by decide) rfl (fun ls hl => ?_)
  refine lv_goto (tgt := 26) hx hb dX3_init_48 (by decide) ?_
  refine lv_iload_n hx hb dX3_init_26 rfl (lv_at hl 0 rfl) ?_
  refine lv_bipush (v := 10) hx hb dX3_init_27 (by decide) ?_
  refine lv_icmp_ge (tgt := 51) hx hb dX3_init_29 (by decide) (fun hcz => absurd hcz (by decide)) (fun _ => ?_)
  refine lv_aload_n hx hb dX3_init_32 rfl (lv_at hl 1 rfl) ?_
  obtain ⟨v19, hv19, hE⟩ := Option.bind_eq_some_iff.mp hE
  refine r_gR 1 (C := RX3) (T := TX3) (N := 3) (ci := 3) hx hb hts (by decide +kernel) hown hK hH hv19 rfl (by decide) (hts (.fieldLink RX3 18 "KindStreets$Now" "past" "[LKindStreets$Moment;") (by decide +kernel)) (fun _ h9 => h9) dX3_init_33 ?_
  refine lv_iload_n hx hb dX3_init_36 rfl (lv_at hl 0 rfl) ?_
  refine r_new (C := RX2) (T := TX2) (N := 5) (ci := 2) (fs := [.null, .null, .null, .null, .int 0]) hx hb hts (by decide +kernel) tyX2 tyX2_ok hown (hts (.classLink RX3 9 RX2) (by decide +kernel)) (hts (.instantiable RX2 5) (by decide +kernel)) (hts (.initialized RX2) (by decide +kernel)) hK hH hS rfl (by decide) rfl (by decide) (by decide) dX3_init_37 (fun H hH hS => ?_)
  refine W.widen (k := 32) (n := 243) (by decide) (by decide) ?_
  refine lv_dup hx hb dX3_init_40 rfl ?_
  obtain ⟨z20, hz20, hE⟩ := Option.bind_eq_some_iff.mp hE
  refine r_callV (va_runI (As := []) (rest := [.ref (b0 + L18.length), .int 5, .ref (b0 + v19)]) ⟨hx, hb, hml, hown, hts⟩ (sX2_init l b0 D cA hz20) (cwI 0 hts gX3_init_X2_init rfl rfl rfl (hts (.initialized RX2) (by decide +kernel)) (hts (.methodLink RX3 11 yX2_init) (by decide +kernel)) (hts (.instanceMethod yX2_init) (by decide +kernel)) rfl (by decide +kernel) (rm_ok (by decide) (by decide))) (pre_S hK hH) rfl rfl hl.1 rfl (lv_room (Nat.le_of_ble_eq_true rfl)) dX3_init_41 ⟨by decide, by decide⟩) hS (fun H locs hH hS => ?_)
  refine W.widen (k := 36) (n := 276) (by decide) (by decide) ?_
  obtain ⟨L21, hL21, hE⟩ := Option.bind_eq_some_iff.mp hE
  refine r_aast (r := (RX2, TX2, 5)) hx hb hK hH hS hL21 rfl rfl dX3_init_44 (fun H locs hH hS => ?_)
  refine lv_iinc (v := 6) (lv' := [(1, .int 6), (0, .ref (b0 + a0))]) hx hb dX3_init_45 hl (k := 0) rfl rfl (by decide) rfl (fun ls hl => ?_)
  refine lv_goto (tgt := 26) hx hb dX3_init_48 (by decide) ?_
  refine lv_iload_n hx hb dX3_init_26 rfl (lv_at hl 0 rfl) ?_
  refine lv_bipush (v := 10) hx hb dX3_init_27 (by decide) ?_
  refine lv_icmp_ge (tgt := 51) hx hb dX3_init_29 (by decide) (fun hcz => absurd hcz (by decide)) (fun _ => ?_)
  refine lv_aload_n hx hb dX3_init_32 rfl (lv_at hl 1 rfl) ?_
  obtain ⟨v22, hv22, hE⟩ := Option.bind_eq_some_iff.mp hE
  refine r_gR 1 (C := RX3) (T := TX3) (N := 3) (ci := 3) hx hb hts (by decide +kernel) hown hK hH hv22 rfl (by decide) (hts (.fieldLink RX3 18 "KindStreets$Now" "past" "[LKindStreets$Moment;") (by decide +kernel)) (fun _ h9 => h9) dX3_init_33 ?_
  refine lv_iload_n hx hb dX3_init_36 rfl (lv_at hl 0 rfl) ?_
  refine r_new (C := RX2) (T := TX2) (N := 5) (ci := 2) (fs := [.null, .null, .null, .null, .int 0]) hx hb hts (by decide +kernel) tyX2 tyX2_ok hown (hts (.classLink RX3 9 RX2) (by decide +kernel)) (hts (.instantiable RX2 5) (by decide +kernel)) (hts (.initialized RX2) (by decide +kernel)) hK hH hS rfl (by decide) rfl (by decide) (by decide) dX3_init_37 (fun H hH hS => ?_)
  refine W.widen (k := 37) (n := 281) (by decide) (by decide) ?_
  refine lv_dup hx hb dX3_init_40 rfl ?_
  obtain ⟨z23, hz23, hE⟩ := Option.bind_eq_some_iff.mp hE
  refine r_callV (va_runI (As := []) (rest := [.ref (b0 + L21.length), .int 6, .ref (b0 + v22)]) ⟨hx, hb, hml, hown, hts⟩ (sX2_init l b0 D cA hz23) (cwI 0 hts gX3_init_X2_init rfl rfl rfl (hts (.initialized RX2) (by decide +kernel)) (hts (.methodLink RX3 11 yX2_init) (by decide +kernel)) (hts (.instanceMethod yX2_init) (by decide +kernel)) rfl (by decide +kernel) (rm_ok (by decide) (by decide))) (pre_S hK hH) rfl rfl hl.1 rfl (lv_room (Nat.le_of_ble_eq_true rfl)) dX3_init_41 ⟨by decide, by decide⟩) hS (fun H locs hH hS => ?_)
  refine W.widen (k := 41) (n := 314) (by decide) (by decide) ?_
  obtain ⟨L24, hL24, hE⟩ := Option.bind_eq_some_iff.mp hE
  refine r_aast (r := (RX2, TX2, 5)) hx hb hK hH hS hL24 rfl rfl dX3_init_44 (fun H locs hH hS => ?_)
  refine lv_iinc (v := 7) (lv' := [(1, .int 7), (0, .ref (b0 + a0))]) hx hb dX3_init_45 hl (k := 0) rfl rfl (by decide) rfl (fun ls hl => ?_)
  refine lv_goto (tgt := 26) hx hb dX3_init_48 (by decide) ?_
  refine lv_iload_n hx hb dX3_init_26 rfl (lv_at hl 0 rfl) ?_
  refine lv_bipush (v := 10) hx hb dX3_init_27 (by decide) ?_
  refine lv_icmp_ge (tgt := 51) hx hb dX3_init_29 (by decide) (fun hcz => absurd hcz (by decide)) (fun _ => ?_)
  refine lv_aload_n hx hb dX3_init_32 rfl (lv_at hl 1 rfl) ?_
  obtain ⟨v25, hv25, hE⟩ := Option.bind_eq_some_iff.mp hE
  refine r_gR 1 (C := RX3) (T := TX3) (N := 3) (ci := 3) hx hb hts (by decide +kernel) hown hK hH hv25 rfl (by decide) (hts (.fieldLink RX3 18 "KindStreets$Now" "past" "[LKindStreets$Moment;") (by decide +kernel)) (fun _ h9 => h9) dX3_init_33 ?_
  refine lv_iload_n hx hb dX3_init_36 rfl (lv_at hl 0 rfl) ?_
  refine r_new (C := RX2) (T := TX2) (N := 5) (ci := 2) (fs := [.null, .null, .null, .null, .int 0]) hx hb hts (by decide +kernel) tyX2 tyX2_ok hown (hts (.classLink RX3 9 RX2) (by decide +kernel)) (hts (.instantiable RX2 5) (by decide +kernel)) (hts (.initialized RX2) (by decide +kernel)) hK hH hS rfl (by decide) rfl (by decide) (by decide) dX3_init_37 (fun H hH hS => ?_)
  refine W.widen (k := 42) (n := 319) (by decide) (by decide) ?_
  refine lv_dup hx hb dX3_init_40 rfl ?_
  obtain ⟨z26, hz26, hE⟩ := Option.bind_eq_some_iff.mp hE
  refine r_callV (va_runI (As := []) (rest := [.ref (b0 + L24.length), .int 7, .ref (b0 + v25)]) ⟨hx, hb, hml, hown, hts⟩ (sX2_init l b0 D cA hz26) (cwI 0 hts gX3_init_X2_init rfl rfl rfl (hts (.initialized RX2) (by decide +kernel)) (hts (.methodLink RX3 11 yX2_init) (by decide +kernel)) (hts (.instanceMethod yX2_init) (by decide +kernel)) rfl (by decide +kernel) (rm_ok (by decide) (by decide))) (pre_S hK hH) rfl rfl hl.1 rfl (lv_room (Nat.le_of_ble_eq_true rfl)) dX3_init_41 ⟨by decide, by decide⟩) hS (fun H locs hH hS => ?_)
  refine W.widen (k := 46) (n := 352) (by decide) (by decide) ?_
  obtain ⟨L27, hL27, hE⟩ := Option.bind_eq_some_iff.mp hE
  refine r_aast (r := (RX2, TX2, 5)) hx hb hK hH hS hL27 rfl rfl dX3_init_44 (fun H locs hH hS => ?_)
  refine lv_iinc (v := 8) (lv' := [(1, .int 8), (0, .ref (b0 + a0))]) hx hb dX3_init_45 hl (k := 0) rfl rfl (by decide) rfl (fun ls hl => ?_)
  refine lv_goto (tgt := 26) hx hb dX3_init_48 (by decide) ?_
  refine lv_iload_n hx hb dX3_init_26 rfl (lv_at hl 0 rfl) ?_
  refine lv_bipush (v := 10) hx hb dX3_init_27 (by decide) ?_
  refine lv_icmp_ge (tgt := 51) hx hb dX3_init_29 (by decide) (fun hcz => absurd hcz (by decide)) (fun _ => ?_)
  refine lv_aload_n hx hb dX3_init_32 rfl (lv_at hl 1 rfl) ?_
  obtain ⟨v28, hv28, hE⟩ := Option.bind_eq_some_iff.mp hE
  refine r_gR 1 (C := RX3) (T := TX3) (N := 3) (ci := 3) hx hb hts (by decide +kernel) hown hK hH hv28 rfl (by decide) (hts (.fieldLink RX3 18 "KindStreets$Now" "past" "[LKindStreets$Moment;") (by decide +kernel)) (fun _ h9 => h9) dX3_init_33 ?_
  refine lv_iload_n hx hb dX3_init_36 rfl (lv_at hl 0 rfl) ?_
  refine r_new (C := RX2) (T := TX2) (N := 5) (ci := 2) (fs := [.null, .null, .null, .null, .int 0]) hx hb hts (by decide +kernel) tyX2 tyX2_ok hown (hts (.classLink RX3 9 RX2) (by decide +kernel)) (hts (.instantiable RX2 5) (by decide +kernel)) (hts (.initialized RX2) (by decide +kernel)) hK hH hS rfl (by decide) rfl (by decide) (by decide) dX3_init_37 (fun H hH hS => ?_)
  refine W.widen (k := 47) (n := 357) (by decide) (by decide) ?_
  refine lv_dup hx hb dX3_init_40 rfl ?_
  obtain ⟨z29, hz29, hE⟩ := Option.bind_eq_some_iff.mp hE
  refine r_callV (va_runI (As := []) (rest := [.ref (b0 + L27.length), .int 8, .ref (b0 + v28)]) ⟨hx, hb, hml, hown, hts⟩ (sX2_init l b0 D cA hz29) (cwI 0 hts gX3_init_X2_init rfl rfl rfl (hts (.initialized RX2) (by decide +kernel)) (hts (.methodLink RX3 11 yX2_init) (by decide +kernel)) (hts (.instanceMethod yX2_init) (by decide +kernel)) rfl (by decide +kernel) (rm_ok (by decide) (by decide))) (pre_S hK hH) rfl rfl hl.1 rfl (lv_room (Nat.le_of_ble_eq_true rfl)) dX3_init_41 ⟨by decide, by decide⟩) hS (fun H locs hH hS => ?_)
  refine W.widen (k := 51) (n := 390) (by decide) (by decide) ?_
  obtain ⟨L30, hL30, hE⟩ := Option.bind_eq_some_iff.mp hE
  refine r_aast (r := (RX2, TX2, 5)) hx hb hK hH hS hL30 rfl rfl dX3_init_44 (fun H locs hH hS => ?_)
  refine lv_iinc (v := 9) (lv' := [(1, .int 9), (0, .ref (b0 + a0))]) hx hb dX3_init_45 hl (k := 0) rfl rfl (by decide) rfl (fun ls hl => ?_)
  refine lv_goto (tgt := 26) hx hb dX3_init_48 (by decide) ?_
  refine lv_iload_n hx hb dX3_init_26 rfl (lv_at hl 0 rfl) ?_
  refine lv_bipush (v := 10) hx hb dX3_init_27 (by decide) ?_
  refine lv_icmp_ge (tgt := 51) hx hb dX3_init_29 (by decide) (fun hcz => absurd hcz (by decide)) (fun _ => ?_)
  refine lv_aload_n hx hb dX3_init_32 rfl (lv_at hl 1 rfl) ?_
  obtain ⟨v31, hv31, hE⟩ := Option.bind_eq_some_iff.mp hE
  refine r_gR 1 (C := RX3) (T := TX3) (N := 3) (ci := 3) hx hb hts (by decide +kernel) hown hK hH hv31 rfl (by decide) (hts (.fieldLink RX3 18 "KindStreets$Now" "past" "[LKindStreets$Moment;") (by decide +kernel)) (fun _ h9 => h9) dX3_init_33 ?_
  refine lv_iload_n hx hb dX3_init_36 rfl (lv_at hl 0 rfl) ?_
  refine r_new (C := RX2) (T := TX2) (N := 5) (ci := 2) (fs := [.null, .null, .null, .null, .int 0]) hx hb hts (by decide +kernel) tyX2 tyX2_ok hown (hts (.classLink RX3 9 RX2) (by decide +kernel)) (hts (.instantiable RX2 5) (by decide +kernel)) (hts (.initialized RX2) (by decide +kernel)) hK hH hS rfl (by decide) rfl (by decide) (by decide) dX3_init_37 (fun H hH hS => ?_)
  refine W.widen (k := 52) (n := 395) (by decide) (by decide) ?_
  refine lv_dup hx hb dX3_init_40 rfl ?_
  obtain ⟨z32, hz32, hE⟩ := Option.bind_eq_some_iff.mp hE
  refine r_callV (va_runI (As := []) (rest := [.ref (b0 + L30.length), .int 9, .ref (b0 + v31)]) ⟨hx, hb, hml, hown, hts⟩ (sX2_init l b0 D cA hz32) (cwI 0 hts gX3_init_X2_init rfl rfl rfl (hts (.initialized RX2) (by decide +kernel)) (hts (.methodLink RX3 11 yX2_init) (by decide +kernel)) (hts (.instanceMethod yX2_init) (by decide +kernel)) rfl (by decide +kernel) (rm_ok (by decide) (by decide))) (pre_S hK hH) rfl rfl hl.1 rfl (lv_room (Nat.le_of_ble_eq_true rfl)) dX3_init_41 ⟨by decide, by decide⟩) hS (fun H locs hH hS => ?_)
  refine W.widen (k := 56) (n := 428) (by decide) (by decide) ?_
  obtain ⟨L33, hL33, hE⟩ := Option.bind_eq_some_iff.mp hE
  refine r_aast (r := (RX2, TX2, 5)) hx hb hK hH hS hL33 rfl rfl dX3_init_44 (fun H locs hH hS => ?_)
  refine lv_iinc (v := 10) (lv' := [(1, .int 10), (0, .ref (b0 + a0))]) hx hb dX3_init_45 hl (k := 0) rfl rfl (by decide) rfl (fun ls hl => ?_)
  refine lv_goto (tgt := 26) hx hb dX3_init_48 (by decide) ?_
  refine lv_iload_n hx hb dX3_init_26 rfl (lv_at hl 0 rfl) ?_
  refine lv_bipush (v := 10) hx hb dX3_init_27 (by decide) ?_
  refine lv_icmp_ge (tgt := 51) hx hb dX3_init_29 (by decide) (fun _ => ?_) (fun hcz => absurd (by decide) hcz)
  have hZ := Option.some.inj hE
  subst hZ
  exact W.vret hx hb hr (fun t ht hW => ⟨rfl, by rw [ht]; exact hH, hS.F ht⟩) hS.2.2 dX3_init_51
-- X8_init
def fX8_init (F : Nat) (L : HL) (a0 : Nat) : Option HL := (o_ob L a0 7).bind fun _ => (fX4_init F (L ++ [(.inr (.inr (4, [.int 0, .int 0, .int 0, .null, .null, .null, .null, .null, .null])) : SC)]) L.length).bind fun z1 => (o_p z1 a0 7 0 (.ref L.length)).bind fun L2 => (o_p (L2 ++ [(.inl (0, 8, fun _ => 0) : SC)]) a0 7 1 (.ref L2.length)).bind fun L3 => some L3
theorem oX8_init {F : Nat} {L : HL} {a0 : Nat} {z : HL} (hE : fX8_init F L a0 = some z) : o_ob L a0 7 = some () := by
  obtain ⟨_, h, _⟩ := Option.bind_eq_some_iff.mp hE
  exact h
set_option maxHeartbeats 4000000 in
set_option maxRecDepth 100000 in
theorem sX8_init (l : Launch) (b0 : Nat) (D : va_G) (cA : Nat → ClassId) {F : Nat} {L : HL} {a0 : Nat} {z : HL} (hE : fX8_init F L a0 = some z) : Met l yX8_init wsX8_init (RM 3 8 65) (Pk b0 D cA [.ref (b0 + a0)] L) (Qk b0 D cA none z) 8 65 (Ab b0) := by
  refine Met.ofW (cc := cX8_init) (maxL := 1) (ret := none) (by decide) rfl ?_
  intro p ev s m args below meth c s₁ B hml hv
  obtain ⟨rfl, hH, hK⟩ := hv
  have hx := B.exec
  have hb := B.bytes
  have hr := B.returns
  have hts := atoms_spec (ws := wsX8_init) B.pre
  have hown : s.vm.findClass RX8 = some m.cls := findClass_of_methodNamed B.named
  have hlocks := B.notSynchronized
  have hC : Cx D cA p s m _ meth c cX8_init 1 RX8 wsX8_init none := ⟨hx, hb, hml, hown, hts, hK, hr, hlocks⟩
  have hS : va_S (Ab b0) s.heap s.heap [] := va_S.rf
  have hl := lv_entry ([.ref (b0 + a0)]) (n := 1) (Nat.le_of_ble_eq_true rfl)
  rw [lg_entry_eq]
  generalize (lg_sl ([.ref (b0 + a0)]) ++ List.replicate (1 - (lg_sl ([.ref (b0 + a0)])).length) Slot.unset).toArray = ls at hl ⊢
  have hl : lv_has ls 1 [(0, .ref (b0 + a0))] := hl
  have hin : meth.name = "<init>" := (name_of_methodNamed B.named B.method).1
  unfold fX8_init at hE
  obtain ⟨_, _, hE⟩ := Option.bind_eq_some_iff.mp hE
  refine lv_aload_n hx hb dX8_init_0 rfl (lv_at hl 0 rfl) ?_
  refine W.objInit hx hb hown (hts (.methodLink RX8 5 objectInit) (by decide +kernel)) (hts (.instanceMethod objectInit) (by decide +kernel)) (hts (.code objectInit ⟨#[0xb1]⟩ 1 none) (by decide +kernel)) rfl (by rw [hml]; exact hl.1) rfl dX8_init_1 (Nat.le_of_ble_eq_true rfl) (Nat.le_of_ble_eq_true rfl) ?_
  refine W.eq (g2 := F0 m 4 ls []) rfl ?_
  refine lv_aload_n hx hb dX8_init_4 rfl (lv_at hl 0 rfl) ?_
  refine r_new (C := RX4) (T := TX4) (N := 9) (ci := 4) (fs := [.int 0, .int 0, .int 0, .null, .null, .null, .null, .null, .null]) hx hb hts (by decide +kernel) tyX4 tyX4_ok hown (hts (.classLink RX8 11 RX4) (by decide +kernel)) (hts (.instantiable RX4 9) (by decide +kernel)) (hts (.initialized RX4) (by decide +kernel)) hK hH hS rfl (by decide) rfl (by decide) (by decide) dX8_init_5 (fun H hH hS => ?_)
  refine W.widen (k := 1) (n := 9) (by decide) (by decide) ?_
  refine lv_dup hx hb dX8_init_8 rfl ?_
  obtain ⟨z1, hz1, hE⟩ := Option.bind_eq_some_iff.mp hE
  refine r_callV (va_runI (As := []) (rest := [.ref (b0 + L.length), .ref (b0 + a0)]) ⟨hx, hb, hml, hown, hts⟩ (sX4_init l b0 D cA hz1) (cwI 0 hts gX8_init_X4_init rfl rfl rfl (hts (.initialized RX4) (by decide +kernel)) (hts (.methodLink RX8 13 yX4_init) (by decide +kernel)) (hts (.instanceMethod yX4_init) (by decide +kernel)) rfl (by decide +kernel) (rm_ok (by decide) (by decide))) (pre_S hK hH) rfl rfl hl.1 rfl (lv_room (Nat.le_of_ble_eq_true rfl)) dX8_init_9 ⟨by decide, by decide⟩) hS (fun H locs hH hS => ?_)
  refine W.widen (k := 7) (n := 57) (by decide) (by decide) ?_
  obtain ⟨L2, hL2, hE⟩ := Option.bind_eq_some_iff.mp hE
  refine r_pF 0 (v := .ref L.length) (ty := (.object "KindStreets$Plan")) (C := RX8) (T := TX8) (N := 2) (ci := 7) hx hb hts (by decide +kernel) tyX8 tyX8_ok nmX8 hown hK hH hS hL2 rfl (by decide) (hts (.fieldLink RX8 14 "KindStreets$Ways" "plan" "LKindStreets$Plan;") (by decide +kernel)) (fun _ h9 => h9) rfl hin rfl (by decide +kernel) rfl rfl dX8_init_12 (fun H locs hH hS => ?_)
  refine lv_aload_n hx hb dX8_init_15 rfl (lv_at hl 0 rfl) ?_
  refine lv_bipush (v := 8) hx hb dX8_init_16 (by decide) ?_
  refine r_newa (N' := 8) 0 hx hb (hts (.arrayClass .int) (by decide +kernel)) rfl rfl hK rfl (fun _ h => by cases h) hH hS (by decide) (by decide) (by decide) (by decide) (by decide) dX8_init_18 (fun H hH hS => ?_)
  refine W.widen (k := 8) (n := 65) (by decide) (by decide) ?_
  obtain ⟨L3, hL3, hE⟩ := Option.bind_eq_some_iff.mp hE
  refine r_pF 1 (v := .ref L2.length) (ty := (.array .int)) (C := RX8) (T := TX8) (N := 2) (ci := 7) hx hb hts (by decide +kernel) tyX8 tyX8_ok nmX8 hown hK hH hS hL3 rfl (by decide) (hts (.fieldLink RX8 18 "KindStreets$Ways" "price" "[I") (by decide +kernel)) (fun _ h9 => h9) rfl hin rfl (by decide +kernel) rfl rfl dX8_init_20 (fun H locs hH hS => ?_)
  have hZ := Option.some.inj hE
  subst hZ
  exact W.vret hx hb hr (fun t ht hW => ⟨rfl, by rw [ht]; exact hH, hS.F ht⟩) hS.2.2 dX8_init_23
-- X0_init
def fX0_init (F : Nat) (L : HL) (a0 : Nat) : Option HL := (o_ob L a0 0).bind fun _ => (o_p (L ++ [(.inl (0, 6, fun _ => 0) : SC)]) a0 0 0 (.ref L.length)).bind fun L1 => (fX4_init F (L1 ++ [(.inr (.inr (4, [.int 0, .int 0, .int 0, .null, .null, .null, .null, .null, .null])) : SC)]) L1.length).bind fun z2 => (o_p z2 a0 0 1 (.ref L1.length)).bind fun L3 => some L3
theorem oX0_init {F : Nat} {L : HL} {a0 : Nat} {z : HL} (hE : fX0_init F L a0 = some z) : o_ob L a0 0 = some () := by
  obtain ⟨_, h, _⟩ := Option.bind_eq_some_iff.mp hE
  exact h
set_option maxHeartbeats 4000000 in
set_option maxRecDepth 100000 in
theorem sX0_init (l : Launch) (b0 : Nat) (D : va_G) (cA : Nat → ClassId) {F : Nat} {L : HL} {a0 : Nat} {z : HL} (hE : fX0_init F L a0 = some z) : Met l yX0_init wsX0_init (RM 3 8 63) (Pk b0 D cA [.ref (b0 + a0)] L) (Qk b0 D cA none z) 8 63 (Ab b0) := by
  refine Met.ofW (cc := cX0_init) (maxL := 1) (ret := none) (by decide) rfl ?_
  intro p ev s m args below meth c s₁ B hml hv
  obtain ⟨rfl, hH, hK⟩ := hv
  have hx := B.exec
  have hb := B.bytes
  have hr := B.returns
  have hts := atoms_spec (ws := wsX0_init) B.pre
  have hown : s.vm.findClass RX0 = some m.cls := findClass_of_methodNamed B.named
  have hlocks := B.notSynchronized
  have hC : Cx D cA p s m _ meth c cX0_init 1 RX0 wsX0_init none := ⟨hx, hb, hml, hown, hts, hK, hr, hlocks⟩
  have hS : va_S (Ab b0) s.heap s.heap [] := va_S.rf
  have hl := lv_entry ([.ref (b0 + a0)]) (n := 1) (Nat.le_of_ble_eq_true rfl)
  rw [lg_entry_eq]
  generalize (lg_sl ([.ref (b0 + a0)]) ++ List.replicate (1 - (lg_sl ([.ref (b0 + a0)])).length) Slot.unset).toArray = ls at hl ⊢
  have hl : lv_has ls 1 [(0, .ref (b0 + a0))] := hl
  have hin : meth.name = "<init>" := (name_of_methodNamed B.named B.method).1
  unfold fX0_init at hE
  obtain ⟨_, _, hE⟩ := Option.bind_eq_some_iff.mp hE
  refine lv_aload_n hx hb dX0_init_0 rfl (lv_at hl 0 rfl) ?_
  refine W.objInit hx hb hown (hts (.methodLink RX0 3 objectInit) (by decide +kernel)) (hts (.instanceMethod objectInit) (by decide +kernel)) (hts (.code objectInit ⟨#[0xb1]⟩ 1 none) (by decide +kernel)) rfl (by rw [hml]; exact hl.1) rfl dX0_init_1 (Nat.le_of_ble_eq_true rfl) (Nat.le_of_ble_eq_true rfl) ?_
  refine W.eq (g2 := F0 m 4 ls []) rfl ?_
  refine lv_aload_n hx hb dX0_init_4 rfl (lv_at hl 0 rfl) ?_
  refine lv_bipush (v := 6) hx hb dX0_init_5 (by decide) ?_
  refine r_newa (N' := 6) 0 hx hb (hts (.arrayClass .int) (by decide +kernel)) rfl rfl hK rfl (fun _ h => by cases h) hH hS (by decide) (by decide) (by decide) (by decide) (by decide) dX0_init_7 (fun H hH hS => ?_)
  refine W.widen (k := 1) (n := 6) (by decide) (by decide) ?_
  obtain ⟨L1, hL1, hE⟩ := Option.bind_eq_some_iff.mp hE
  refine r_pF 0 (v := .ref L.length) (ty := (.array .int)) (C := RX0) (T := TX0) (N := 2) (ci := 0) hx hb hts (by decide +kernel) tyX0 tyX0_ok nmX0 hown hK hH hS hL1 rfl (by decide) (hts (.fieldLink RX0 9 "KindStreets$Carriages" "given" "[I") (by decide +kernel)) (fun _ h9 => h9) rfl hin rfl (by decide +kernel) rfl rfl dX0_init_9 (fun H locs hH hS => ?_)
  refine lv_aload_n hx hb dX0_init_12 rfl (lv_at hl 0 rfl) ?_
  refine r_new (C := RX4) (T := TX4) (N := 9) (ci := 4) (fs := [.int 0, .int 0, .int 0, .null, .null, .null, .null, .null, .null]) hx hb hts (by decide +kernel) tyX4 tyX4_ok hown (hts (.classLink RX0 15 RX4) (by decide +kernel)) (hts (.instantiable RX4 9) (by decide +kernel)) (hts (.initialized RX4) (by decide +kernel)) hK hH hS rfl (by decide) rfl (by decide) (by decide) dX0_init_13 (fun H hH hS => ?_)
  refine W.widen (k := 2) (n := 15) (by decide) (by decide) ?_
  refine lv_dup hx hb dX0_init_16 rfl ?_
  obtain ⟨z2, hz2, hE⟩ := Option.bind_eq_some_iff.mp hE
  refine r_callV (va_runI (As := []) (rest := [.ref (b0 + L1.length), .ref (b0 + a0)]) ⟨hx, hb, hml, hown, hts⟩ (sX4_init l b0 D cA hz2) (cwI 0 hts gX0_init_X4_init rfl rfl rfl (hts (.initialized RX4) (by decide +kernel)) (hts (.methodLink RX0 17 yX4_init) (by decide +kernel)) (hts (.instanceMethod yX4_init) (by decide +kernel)) rfl (by decide +kernel) (rm_ok (by decide) (by decide))) (pre_S hK hH) rfl rfl hl.1 rfl (lv_room (Nat.le_of_ble_eq_true rfl)) dX0_init_17 ⟨by decide, by decide⟩) hS (fun H locs hH hS => ?_)
  refine W.widen (k := 8) (n := 63) (by decide) (by decide) ?_
  obtain ⟨L3, hL3, hE⟩ := Option.bind_eq_some_iff.mp hE
  refine r_pF 1 (v := .ref L1.length) (ty := (.object "KindStreets$Plan")) (C := RX0) (T := TX0) (N := 2) (ci := 0) hx hb hts (by decide +kernel) tyX0 tyX0_ok nmX0 hown hK hH hS hL3 rfl (by decide) (hts (.fieldLink RX0 18 "KindStreets$Carriages" "plan" "LKindStreets$Plan;") (by decide +kernel)) (fun _ h9 => h9) rfl hin rfl (by decide +kernel) rfl rfl dX0_init_20 (fun H locs hH hS => ?_)
  have hZ := Option.some.inj hE
  subst hZ
  exact W.vret hx hb hr (fun t ht hW => ⟨rfl, by rw [ht]; exact hH, hS.F ht⟩) hS.2.2 dX0_init_23
-- X1_init
def fX1_init (F : Nat) (L : HL) (a0 : Nat) : Option HL := (o_ob L a0 1).bind fun _ => (o_p (L ++ [(.inl (0, 4, fun _ => 0) : SC)]) a0 1 0 (.ref L.length)).bind fun L1 => (o_p (L1 ++ [(.inl (0, 4, fun _ => 0) : SC)]) a0 1 1 (.ref L1.length)).bind fun L2 => (o_p (L2 ++ [(.inl (0, 11, fun _ => 0) : SC)]) a0 1 3 (.ref L2.length)).bind fun L3 => some L3
theorem oX1_init {F : Nat} {L : HL} {a0 : Nat} {z : HL} (hE : fX1_init F L a0 = some z) : o_ob L a0 1 = some () := by
  obtain ⟨_, h, _⟩ := Option.bind_eq_some_iff.mp hE
  exact h
set_option maxHeartbeats 4000000 in
set_option maxRecDepth 100000 in
theorem sX1_init (l : Launch) (b0 : Nat) (D : va_G) (cA : Nat → ClassId) {F : Nat} {L : HL} {a0 : Nat} {z : HL} (hE : fX1_init F L a0 = some z) : Met l yX1_init wsX1_init (RM 1 3 19) (Pk b0 D cA [.ref (b0 + a0)] L) (Qk b0 D cA none z) 3 19 (Ab b0) := by
  refine Met.ofW (cc := cX1_init) (maxL := 1) (ret := none) (by decide) rfl ?_
  intro p ev s m args below meth c s₁ B hml hv
  obtain ⟨rfl, hH, hK⟩ := hv
  have hx := B.exec
  have hb := B.bytes
  have hr := B.returns
  have hts := atoms_spec (ws := wsX1_init) B.pre
  have hown : s.vm.findClass RX1 = some m.cls := findClass_of_methodNamed B.named
  have hlocks := B.notSynchronized
  have hC : Cx D cA p s m _ meth c cX1_init 1 RX1 wsX1_init none := ⟨hx, hb, hml, hown, hts, hK, hr, hlocks⟩
  have hS : va_S (Ab b0) s.heap s.heap [] := va_S.rf
  have hl := lv_entry ([.ref (b0 + a0)]) (n := 1) (Nat.le_of_ble_eq_true rfl)
  rw [lg_entry_eq]
  generalize (lg_sl ([.ref (b0 + a0)]) ++ List.replicate (1 - (lg_sl ([.ref (b0 + a0)])).length) Slot.unset).toArray = ls at hl ⊢
  have hl : lv_has ls 1 [(0, .ref (b0 + a0))] := hl
  have hin : meth.name = "<init>" := (name_of_methodNamed B.named B.method).1
  unfold fX1_init at hE
  obtain ⟨_, _, hE⟩ := Option.bind_eq_some_iff.mp hE
  refine lv_aload_n hx hb dX1_init_0 rfl (lv_at hl 0 rfl) ?_
  refine W.objInit hx hb hown (hts (.methodLink RX1 3 objectInit) (by decide +kernel)) (hts (.instanceMethod objectInit) (by decide +kernel)) (hts (.code objectInit ⟨#[0xb1]⟩ 1 none) (by decide +kernel)) rfl (by rw [hml]; exact hl.1) rfl dX1_init_1 (Nat.le_of_ble_eq_true rfl) (Nat.le_of_ble_eq_true rfl) ?_
  refine W.eq (g2 := F0 m 4 ls []) rfl ?_
  refine lv_aload_n hx hb dX1_init_4 rfl (lv_at hl 0 rfl) ?_
  refine lv_iconst (v := 4) hx hb dX1_init_5 (by decide) ?_
  refine r_newa (N' := 4) 0 hx hb (hts (.arrayClass .int) (by decide +kernel)) rfl rfl hK rfl (fun _ h => by cases h) hH hS (by decide) (by decide) (by decide) (by decide) (by decide) dX1_init_6 (fun H hH hS => ?_)
  refine W.widen (k := 1) (n := 4) (by decide) (by decide) ?_
  obtain ⟨L1, hL1, hE⟩ := Option.bind_eq_some_iff.mp hE
  refine r_pF 0 (v := .ref L.length) (ty := (.array .int)) (C := RX1) (T := TX1) (N := 4) (ci := 1) hx hb hts (by decide +kernel) tyX1 tyX1_ok nmX1 hown hK hH hS hL1 rfl (by decide) (hts (.fieldLink RX1 9 "KindStreets$Measures" "width" "[I") (by decide +kernel)) (fun _ h9 => h9) rfl hin rfl (by decide +kernel) rfl rfl dX1_init_8 (fun H locs hH hS => ?_)
  refine lv_aload_n hx hb dX1_init_11 rfl (lv_at hl 0 rfl) ?_
  refine lv_iconst (v := 4) hx hb dX1_init_12 (by decide) ?_
  refine r_newa (N' := 4) 0 hx hb (hts (.arrayClass .int) (by decide +kernel)) rfl rfl hK rfl (fun _ h => by cases h) hH hS (by decide) (by decide) (by decide) (by decide) (by decide) dX1_init_13 (fun H hH hS => ?_)
  refine W.widen (k := 2) (n := 8) (by decide) (by decide) ?_
  obtain ⟨L2, hL2, hE⟩ := Option.bind_eq_some_iff.mp hE
  refine r_pF 1 (v := .ref L1.length) (ty := (.array .int)) (C := RX1) (T := TX1) (N := 4) (ci := 1) hx hb hts (by decide +kernel) tyX1 tyX1_ok nmX1 hown hK hH hS hL2 rfl (by decide) (hts (.fieldLink RX1 15 "KindStreets$Measures" "night" "[I") (by decide +kernel)) (fun _ h9 => h9) rfl hin rfl (by decide +kernel) rfl rfl dX1_init_15 (fun H locs hH hS => ?_)
  refine lv_aload_n hx hb dX1_init_18 rfl (lv_at hl 0 rfl) ?_
  refine lv_bipush (v := 11) hx hb dX1_init_19 (by decide) ?_
  refine r_newa (N' := 11) 0 hx hb (hts (.arrayClass .int) (by decide +kernel)) rfl rfl hK rfl (fun _ h => by cases h) hH hS (by decide) (by decide) (by decide) (by decide) (by decide) dX1_init_21 (fun H hH hS => ?_)
  refine W.widen (k := 3) (n := 19) (by decide) (by decide) ?_
  obtain ⟨L3, hL3, hE⟩ := Option.bind_eq_some_iff.mp hE
  refine r_pF 3 (v := .ref L2.length) (ty := (.array .int)) (C := RX1) (T := TX1) (N := 4) (ci := 1) hx hb hts (by decide +kernel) tyX1 tyX1_ok nmX1 hown hK hH hS hL3 rfl (by decide) (hts (.fieldLink RX1 18 "KindStreets$Measures" "alike" "[I") (by decide +kernel)) (fun _ h9 => h9) rfl hin rfl (by decide +kernel) rfl rfl dX1_init_23 (fun H locs hH hS => ?_)
  have hZ := Option.some.inj hE
  subst hZ
  exact W.vret hx hb hr (fun t ht hW => ⟨rfl, by rw [ht]; exact hH, hS.F ht⟩) hS.2.2 dX1_init_26
-- X9_init
def fX9_init (F : Nat) (L : HL) (a0 : Nat) : Option HL := (o_ob L a0 8).bind fun _ => (fX6_init F (L ++ [(.inr (.inr (5, [.null, .int 0, .int 0])) : SC)]) L.length).bind fun z1 => (o_p z1 a0 8 0 (.ref L.length)).bind fun L2 => (fX7_init_T F (L2 ++ [(.inr (.inr (6, [.int 0, .int 0, .int 0, .null, .null, .null, .null, .null])) : SC)]) L2.length).bind fun z3 => (o_p z3 a0 8 1 (.ref L2.length)).bind fun L4 => (fX7_init_T F (L4 ++ [(.inr (.inr (6, [.int 0, .int 0, .int 0, .null, .null, .null, .null, .null])) : SC)]) L4.length).bind fun z5 => (o_p z5 a0 8 2 (.ref L4.length)).bind fun L6 => (fX3_init F (L6 ++ [(.inr (.inr (3, [.null, .null, .int 0])) : SC)]) L6.length).bind fun z7 => (o_p z7 a0 8 3 (.ref L6.length)).bind fun L8 => (fX3_init F ((L8 ++ [(.inr (.inl (4, 2, fun _ => none)) : SC)]) ++ [(.inr (.inr (3, [.null, .null, .int 0])) : SC)]) ((L8 ++ [(.inr (.inl (4, 2, fun _ => none)) : SC)]).length)).bind fun z9 => (o_sR z9 L8.length 4 3 0 ((L8 ++ [(.inr (.inl (4, 2, fun _ => none)) : SC)]).length)).bind fun L10 => (fX3_init F (L10 ++ [(.inr (.inr (3, [.null, .null, .int 0])) : SC)]) L10.length).bind fun z11 => (o_sR z11 L8.length 4 3 1 L10.length).bind fun L12 => (o_p L12 a0 8 4 (.ref L8.length)).bind fun L13 => (fX8_init F (L13 ++ [(.inr (.inr (7, [.null, .null])) : SC)]) L13.length).bind fun z14 => (o_p z14 a0 8 6 (.ref L13.length)).bind fun L15 => (fX0_init F (L15 ++ [(.inr (.inr (0, [.null, .null])) : SC)]) L15.length).bind fun z16 => (o_p z16 a0 8 7 (.ref L15.length)).bind fun L17 => (fX1_init F (L17 ++ [(.inr (.inr (1, [.null, .null, .int 0, .null])) : SC)]) L17.length).bind fun z18 => (o_p z18 a0 8 8 (.ref L17.length)).bind fun L19 => some L19
theorem oX9_init {F : Nat} {L : HL} {a0 : Nat} {z : HL} (hE : fX9_init F L a0 = some z) : o_ob L a0 8 = some () := by
  obtain ⟨_, h, _⟩ := Option.bind_eq_some_iff.mp hE
  exact h
set_option maxHeartbeats 4000000 in
set_option maxRecDepth 100000 in
theorem sX9_init (l : Launch) (b0 : Nat) (D : va_G) (cA : Nat → ClassId) {F : Nat} {L : HL} {a0 : Nat} {z : HL} (hE : fX9_init F L a0 = some z) : Met l yX9_init wsX9_init (RM 4 208 1667) (Pk b0 D cA [.ref (b0 + a0)] L) (Qk b0 D cA none z) 208 1667 (Ab b0) := by
  refine Met.ofW (cc := cX9_init) (maxL := 1) (ret := none) (by decide) rfl ?_
  intro p ev s m args below meth c s₁ B hml hv
  obtain ⟨rfl, hH, hK⟩ := hv
  have hx := B.exec
  have hb := B.bytes
  have hr := B.returns
  have hts := atoms_spec (ws := wsX9_init) B.pre
  have hown : s.vm.findClass RX9 = some m.cls := findClass_of_methodNamed B.named
  have hlocks := B.notSynchronized
  have hC : Cx D cA p s m _ meth c cX9_init 1 RX9 wsX9_init none := ⟨hx, hb, hml, hown, hts, hK, hr, hlocks⟩
  have hS : va_S (Ab b0) s.heap s.heap [] := va_S.rf
  have hl := lv_entry ([.ref (b0 + a0)]) (n := 1) (Nat.le_of_ble_eq_true rfl)
  rw [lg_entry_eq]
  generalize (lg_sl ([.ref (b0 + a0)]) ++ List.replicate (1 - (lg_sl ([.ref (b0 + a0)])).length) Slot.unset).toArray = ls at hl ⊢
  have hl : lv_has ls 1 [(0, .ref (b0 + a0))] := hl
  have hin : meth.name = "<init>" := (name_of_methodNamed B.named B.method).1
  unfold fX9_init at hE
  obtain ⟨_, _, hE⟩ := Option.bind_eq_some_iff.mp hE
  refine lv_aload_n hx hb dX9_init_0 rfl (lv_at hl 0 rfl) ?_
  refine W.objInit hx hb hown (hts (.methodLink RX9 1 objectInit) (by decide +kernel)) (hts (.instanceMethod objectInit) (by decide +kernel)) (hts (.code objectInit ⟨#[0xb1]⟩ 1 none) (by decide +kernel)) rfl (by rw [hml]; exact hl.1) rfl dX9_init_1 (Nat.le_of_ble_eq_true rfl) (Nat.le_of_ble_eq_true rfl) ?_
  refine W.eq (g2 := F0 m 4 ls []) rfl ?_
  refine lv_aload_n hx hb dX9_init_4 rfl (lv_at hl 0 rfl) ?_
  refine r_new (C := RX6) (T := TX6) (N := 3) (ci := 5) (fs := [.null, .int 0, .int 0]) hx hb hts (by decide +kernel) tyX6 tyX6_ok hown (hts (.classLink RX9 7 RX6) (by decide +kernel)) (hts (.instantiable RX6 3) (by decide +kernel)) (hts (.initialized RX6) (by decide +kernel)) hK hH hS rfl (by decide) rfl (by decide) (by decide) dX9_init_5 (fun H hH hS => ?_)
  refine W.widen (k := 1) (n := 3) (by decide) (by decide) ?_
  refine lv_dup hx hb dX9_init_8 rfl ?_
  obtain ⟨z1, hz1, hE⟩ := Option.bind_eq_some_iff.mp hE
  refine r_callV (va_runI (As := []) (rest := [.ref (b0 + L.length), .ref (b0 + a0)]) ⟨hx, hb, hml, hown, hts⟩ (sX6_init l b0 D cA hz1) (cwI 0 hts gX9_init_X6_init rfl rfl rfl (hts (.initialized RX6) (by decide +kernel)) (hts (.methodLink RX9 9 yX6_init) (by decide +kernel)) (hts (.instanceMethod yX6_init) (by decide +kernel)) rfl (by decide +kernel) (rm_ok (by decide) (by decide))) (pre_S hK hH) rfl rfl hl.1 rfl (lv_room (Nat.le_of_ble_eq_true rfl)) dX9_init_9 ⟨by decide, by decide⟩) hS (fun H locs hH hS => ?_)
  refine W.widen (k := 2) (n := 123) (by decide) (by decide) ?_
  obtain ⟨L2, hL2, hE⟩ := Option.bind_eq_some_iff.mp hE
  refine r_pF 0 (v := .ref L.length) (ty := (.object "KindStreets$Text")) (C := RX9) (T := TX9) (N := 10) (ci := 8) hx hb hts (by decide +kernel) tyX9 tyX9_ok nmX9 hown hK hH hS hL2 rfl (by decide) (hts (.fieldLink RX9 10 "KindStreets" "text" "LKindStreets$Text;") (by decide +kernel)) (fun _ h9 => h9) rfl hin rfl (by decide +kernel) rfl rfl dX9_init_12 (fun H locs hH hS => ?_)
  refine lv_aload_n hx hb dX9_init_15 rfl (lv_at hl 0 rfl) ?_
  refine r_new (C := RX7) (T := TX7) (N := 8) (ci := 6) (fs := [.int 0, .int 0, .int 0, .null, .null, .null, .null, .null]) hx hb hts (by decide +kernel) tyX7 tyX7_ok hown (hts (.classLink RX9 16 RX7) (by decide +kernel)) (hts (.instantiable RX7 8) (by decide +kernel)) (hts (.initialized RX7) (by decide +kernel)) hK hH hS rfl (by decide) rfl (by decide) (by decide) dX9_init_16 (fun H hH hS => ?_)
  refine W.widen (k := 3) (n := 131) (by decide) (by decide) ?_
  refine lv_dup hx hb dX9_init_19 rfl ?_
  obtain ⟨z3, hz3, hE⟩ := Option.bind_eq_some_iff.mp hE
  refine r_callV (va_runI (As := []) (rest := [.ref (b0 + L2.length), .ref (b0 + a0)]) ⟨hx, hb, hml, hown, hts⟩ (sX7_init_T l b0 D cA hz3) (cwI 0 hts gX9_init_X7_init rfl rfl rfl (hts (.initialized RX7) (by decide +kernel)) (hts (.methodLink RX9 18 yX7_init) (by decide +kernel)) (hts (.instanceMethod yX7_init) (by decide +kernel)) rfl (by decide +kernel) (rm_ok (by decide) (by decide))) (pre_S hK hH) rfl rfl hl.1 rfl (lv_room (Nat.le_of_ble_eq_true rfl)) dX9_init_20 ⟨by decide, by decide⟩) hS (fun H locs hH hS => ?_)
  refine W.widen (k := 8) (n := 170) (by decide) (by decide) ?_
  obtain ⟨L4, hL4, hE⟩ := Option.bind_eq_some_iff.mp hE
  refine r_pF 1 (v := .ref L2.length) (ty := (.object "KindStreets$Town")) (C := RX9) (T := TX9) (N := 10) (ci := 8) hx hb hts (by decide +kernel) tyX9 tyX9_ok nmX9 hown hK hH hS hL4 rfl (by decide) (hts (.fieldLink RX9 19 "KindStreets" "draft" "LKindStreets$Town;") (by decide +kernel)) (fun _ h9 => h9) rfl hin rfl (by decide +kernel) rfl rfl dX9_init_23 (fun H locs hH hS => ?_)
  refine lv_aload_n hx hb dX9_init_26 rfl (lv_at hl 0 rfl) ?_
  refine r_new (C := RX7) (T := TX7) (N := 8) (ci := 6) (fs := [.int 0, .int 0, .int 0, .null, .null, .null, .null, .null]) hx hb hts (by decide +kernel) tyX7 tyX7_ok hown (hts (.classLink RX9 16 RX7) (by decide +kernel)) (hts (.instantiable RX7 8) (by decide +kernel)) (hts (.initialized RX7) (by decide +kernel)) hK hH hS rfl (by decide) rfl (by decide) (by decide) dX9_init_27 (fun H hH hS => ?_)
  refine W.widen (k := 9) (n := 178) (by decide) (by decide) ?_
  refine lv_dup hx hb dX9_init_30 rfl ?_
  obtain ⟨z5, hz5, hE⟩ := Option.bind_eq_some_iff.mp hE
  refine r_callV (va_runI (As := []) (rest := [.ref (b0 + L4.length), .ref (b0 + a0)]) ⟨hx, hb, hml, hown, hts⟩ (sX7_init_T l b0 D cA hz5) (cwI 0 hts gX9_init_X7_init rfl rfl rfl (hts (.initialized RX7) (by decide +kernel)) (hts (.methodLink RX9 18 yX7_init) (by decide +kernel)) (hts (.instanceMethod yX7_init) (by decide +kernel)) rfl (by decide +kernel) (rm_ok (by decide) (by decide))) (pre_S hK hH) rfl rfl hl.1 rfl (lv_room (Nat.le_of_ble_eq_true rfl)) dX9_init_31 ⟨by decide, by decide⟩) hS (fun H locs hH hS => ?_)
  refine W.widen (k := 14) (n := 217) (by decide) (by decide) ?_
  obtain ⟨L6, hL6, hE⟩ := Option.bind_eq_some_iff.mp hE
  refine r_pF 2 (v := .ref L4.length) (ty := (.object "KindStreets$Town")) (C := RX9) (T := TX9) (N := 10) (ci := 8) hx hb hts (by decide +kernel) tyX9 tyX9_ok nmX9 hown hK hH hS hL6 rfl (by decide) (hts (.fieldLink RX9 23 "KindStreets" "town" "LKindStreets$Town;") (by decide +kernel)) (fun _ h9 => h9) rfl hin rfl (by decide +kernel) rfl rfl dX9_init_34 (fun H locs hH hS => ?_)
  refine lv_aload_n hx hb dX9_init_37 rfl (lv_at hl 0 rfl) ?_
  refine r_new (C := RX3) (T := TX3) (N := 3) (ci := 3) (fs := [.null, .null, .int 0]) hx hb hts (by decide +kernel) tyX3 tyX3_ok hown (hts (.classLink RX9 26 RX3) (by decide +kernel)) (hts (.instantiable RX3 3) (by decide +kernel)) (hts (.initialized RX3) (by decide +kernel)) hK hH hS rfl (by decide) rfl (by decide) (by decide) dX9_init_38 (fun H hH hS => ?_)
  refine W.widen (k := 15) (n := 220) (by decide) (by decide) ?_
  refine lv_dup hx hb dX9_init_41 rfl ?_
  obtain ⟨z7, hz7, hE⟩ := Option.bind_eq_some_iff.mp hE
  refine r_callV (va_runI (As := []) (rest := [.ref (b0 + L6.length), .ref (b0 + a0)]) ⟨hx, hb, hml, hown, hts⟩ (sX3_init l b0 D cA hz7) (cwI 0 hts gX9_init_X3_init rfl rfl rfl (hts (.initialized RX3) (by decide +kernel)) (hts (.methodLink RX9 28 yX3_init) (by decide +kernel)) (hts (.instanceMethod yX3_init) (by decide +kernel)) rfl (by decide +kernel) (rm_ok (by decide) (by decide))) (pre_S hK hH) rfl rfl hl.1 rfl (lv_room (Nat.le_of_ble_eq_true rfl)) dX9_init_42 ⟨by decide, by decide⟩) hS (fun H locs hH hS => ?_)
  refine W.widen (k := 71) (n := 648) (by decide) (by decide) ?_
  obtain ⟨L8, hL8, hE⟩ := Option.bind_eq_some_iff.mp hE
  refine r_pF 3 (v := .ref L6.length) (ty := (.object "KindStreets$Now")) (C := RX9) (T := TX9) (N := 10) (ci := 8) hx hb hts (by decide +kernel) tyX9 tyX9_ok nmX9 hown hK hH hS hL8 rfl (by decide) (hts (.fieldLink RX9 29 "KindStreets" "now" "LKindStreets$Now;") (by decide +kernel)) (fun _ h9 => h9) rfl hin rfl (by decide +kernel) rfl rfl dX9_init_45 (fun H locs hH hS => ?_)
  refine lv_aload_n hx hb dX9_init_48 rfl (lv_at hl 0 rfl) ?_
  refine lv_iconst (v := 2) hx hb dX9_init_49 (by decide) ?_
  refine r_anew (N' := 2) 4 hx hb hown (hts (.classLink RX9 26 RX3) (by decide +kernel)) (va_AO.use hK.2.2) hK rfl hH hS (by decide) (by decide) (by decide) (by decide) (by decide) dX9_init_50 (fun H hH hS => ?_)
  refine W.widen (k := 72) (n := 650) (by decide) (by decide) ?_
  refine lv_dup hx hb dX9_init_53 rfl ?_
  refine lv_iconst (v := 0) hx hb dX9_init_54 (by decide) ?_
  refine r_new (C := RX3) (T := TX3) (N := 3) (ci := 3) (fs := [.null, .null, .int 0]) hx hb hts (by decide +kernel) tyX3 tyX3_ok hown (hts (.classLink RX9 26 RX3) (by decide +kernel)) (hts (.instantiable RX3 3) (by decide +kernel)) (hts (.initialized RX3) (by decide +kernel)) hK hH hS rfl (by decide) rfl (by decide) (by decide) dX9_init_55 (fun H hH hS => ?_)
  refine W.widen (k := 73) (n := 653) (by decide) (by decide) ?_
  refine lv_dup hx hb dX9_init_58 rfl ?_
  obtain ⟨z9, hz9, hE⟩ := Option.bind_eq_some_iff.mp hE
  refine r_callV (va_runI (As := []) (rest := [.ref (b0 + ((L8 ++ [(.inr (.inl (4, 2, fun _ => none)) : SC)]).length)), .int 0, .ref (b0 + L8.length), .ref (b0 + L8.length), .ref (b0 + a0)]) ⟨hx, hb, hml, hown, hts⟩ (sX3_init l b0 D cA hz9) (cwI 0 hts gX9_init_X3_init rfl rfl rfl (hts (.initialized RX3) (by decide +kernel)) (hts (.methodLink RX9 28 yX3_init) (by decide +kernel)) (hts (.instanceMethod yX3_init) (by decide +kernel)) rfl (by decide +kernel) (rm_ok (by decide) (by decide))) (pre_S hK hH) rfl rfl hl.1 rfl (lv_room (Nat.le_of_ble_eq_true rfl)) dX9_init_59 ⟨by decide, by decide⟩) hS (fun H locs hH hS => ?_)
  refine W.widen (k := 129) (n := 1081) (by decide) (by decide) ?_
  obtain ⟨L10, hL10, hE⟩ := Option.bind_eq_some_iff.mp hE
  refine r_aast (r := (RX3, TX3, 3)) hx hb hK hH hS hL10 rfl rfl dX9_init_62 (fun H locs hH hS => ?_)
  refine lv_dup hx hb dX9_init_63 rfl ?_
  refine lv_iconst (v := 1) hx hb dX9_init_64 (by decide) ?_
  refine r_new (C := RX3) (T := TX3) (N := 3) (ci := 3) (fs := [.null, .null, .int 0]) hx hb hts (by decide +kernel) tyX3 tyX3_ok hown (hts (.classLink RX9 26 RX3) (by decide +kernel)) (hts (.instantiable RX3 3) (by decide +kernel)) (hts (.initialized RX3) (by decide +kernel)) hK hH hS rfl (by decide) rfl (by decide) (by decide) dX9_init_65 (fun H hH hS => ?_)
  refine W.widen (k := 130) (n := 1084) (by decide) (by decide) ?_
  refine lv_dup hx hb dX9_init_68 rfl ?_
  obtain ⟨z11, hz11, hE⟩ := Option.bind_eq_some_iff.mp hE
  refine r_callV (va_runI (As := []) (rest := [.ref (b0 + L10.length), .int 1, .ref (b0 + L8.length), .ref (b0 + L8.length), .ref (b0 + a0)]) ⟨hx, hb, hml, hown, hts⟩ (sX3_init l b0 D cA hz11) (cwI 0 hts gX9_init_X3_init rfl rfl rfl (hts (.initialized RX3) (by decide +kernel)) (hts (.methodLink RX9 28 yX3_init) (by decide +kernel)) (hts (.instanceMethod yX3_init) (by decide +kernel)) rfl (by decide +kernel) (rm_ok (by decide) (by decide))) (pre_S hK hH) rfl rfl hl.1 rfl (lv_room (Nat.le_of_ble_eq_true rfl)) dX9_init_69 ⟨by decide, by decide⟩) hS (fun H locs hH hS => ?_)
  refine W.widen (k := 186) (n := 1512) (by decide) (by decide) ?_
  obtain ⟨L12, hL12, hE⟩ := Option.bind_eq_some_iff.mp hE
  refine r_aast (r := (RX3, TX3, 3)) hx hb hK hH hS hL12 rfl rfl dX9_init_72 (fun H locs hH hS => ?_)
  obtain ⟨L13, hL13, hE⟩ := Option.bind_eq_some_iff.mp hE
  refine r_pF 4 (v := .ref L8.length) (ty := (.array (.object "KindStreets$Now"))) (C := RX9) (T := TX9) (N := 10) (ci := 8) hx hb hts (by decide +kernel) tyX9 tyX9_ok nmX9 hown hK hH hS hL13 rfl (by decide) (hts (.fieldLink RX9 33 "KindStreets" "images" "[LKindStreets$Now;") (by decide +kernel)) (fun _ h9 => h9) rfl hin rfl (by decide +kernel) rfl rfl dX9_init_73 (fun H locs hH hS => ?_)
  refine lv_aload_n hx hb dX9_init_76 rfl (lv_at hl 0 rfl) ?_
  refine r_new (C := RX8) (T := TX8) (N := 2) (ci := 7) (fs := [.null, .null]) hx hb hts (by decide +kernel) tyX8 tyX8_ok hown (hts (.classLink RX9 37 RX8) (by decide +kernel)) (hts (.instantiable RX8 2) (by decide +kernel)) (hts (.initialized RX8) (by decide +kernel)) hK hH hS rfl (by decide) rfl (by decide) (by decide) dX9_init_77 (fun H hH hS => ?_)
  refine W.widen (k := 187) (n := 1514) (by decide) (by decide) ?_
  refine lv_dup hx hb dX9_init_80 rfl ?_
  obtain ⟨z14, hz14, hE⟩ := Option.bind_eq_some_iff.mp hE
  refine r_callV (va_runI (As := []) (rest := [.ref (b0 + L13.length), .ref (b0 + a0)]) ⟨hx, hb, hml, hown, hts⟩ (sX8_init l b0 D cA hz14) (cwI 0 hts gX9_init_X8_init rfl rfl rfl (hts (.initialized RX8) (by decide +kernel)) (hts (.methodLink RX9 39 yX8_init) (by decide +kernel)) (hts (.instanceMethod yX8_init) (by decide +kernel)) rfl (by decide +kernel) (rm_ok (by decide) (by decide))) (pre_S hK hH) rfl rfl hl.1 rfl (lv_room (Nat.le_of_ble_eq_true rfl)) dX9_init_81 ⟨by decide, by decide⟩) hS (fun H locs hH hS => ?_)
  refine W.widen (k := 195) (n := 1579) (by decide) (by decide) ?_
  obtain ⟨L15, hL15, hE⟩ := Option.bind_eq_some_iff.mp hE
  refine r_pF 6 (v := .ref L13.length) (ty := (.object "KindStreets$Ways")) (C := RX9) (T := TX9) (N := 10) (ci := 8) hx hb hts (by decide +kernel) tyX9 tyX9_ok nmX9 hown hK hH hS hL15 rfl (by decide) (hts (.fieldLink RX9 40 "KindStreets" "ways" "LKindStreets$Ways;") (by decide +kernel)) (fun _ h9 => h9) rfl hin rfl (by decide +kernel) rfl rfl dX9_init_84 (fun H locs hH hS => ?_)
  refine lv_aload_n hx hb dX9_init_87 rfl (lv_at hl 0 rfl) ?_
  refine r_new (C := RX0) (T := TX0) (N := 2) (ci := 0) (fs := [.null, .null]) hx hb hts (by decide +kernel) tyX0 tyX0_ok hown (hts (.classLink RX9 44 RX0) (by decide +kernel)) (hts (.instantiable RX0 2) (by decide +kernel)) (hts (.initialized RX0) (by decide +kernel)) hK hH hS rfl (by decide) rfl (by decide) (by decide) dX9_init_88 (fun H hH hS => ?_)
  refine W.widen (k := 196) (n := 1581) (by decide) (by decide) ?_
  refine lv_dup hx hb dX9_init_91 rfl ?_
  obtain ⟨z16, hz16, hE⟩ := Option.bind_eq_some_iff.mp hE
  refine r_callV (va_runI (As := []) (rest := [.ref (b0 + L15.length), .ref (b0 + a0)]) ⟨hx, hb, hml, hown, hts⟩ (sX0_init l b0 D cA hz16) (cwI 0 hts gX9_init_X0_init rfl rfl rfl (hts (.initialized RX0) (by decide +kernel)) (hts (.methodLink RX9 46 yX0_init) (by decide +kernel)) (hts (.instanceMethod yX0_init) (by decide +kernel)) rfl (by decide +kernel) (rm_ok (by decide) (by decide))) (pre_S hK hH) rfl rfl hl.1 rfl (lv_room (Nat.le_of_ble_eq_true rfl)) dX9_init_92 ⟨by decide, by decide⟩) hS (fun H locs hH hS => ?_)
  refine W.widen (k := 204) (n := 1644) (by decide) (by decide) ?_
  obtain ⟨L17, hL17, hE⟩ := Option.bind_eq_some_iff.mp hE
  refine r_pF 7 (v := .ref L15.length) (ty := (.object "KindStreets$Carriages")) (C := RX9) (T := TX9) (N := 10) (ci := 8) hx hb hts (by decide +kernel) tyX9 tyX9_ok nmX9 hown hK hH hS hL17 rfl (by decide) (hts (.fieldLink RX9 47 "KindStreets" "carriages" "LKindStreets$Carriages;") (by decide +kernel)) (fun _ h9 => h9) rfl hin rfl (by decide +kernel) rfl rfl dX9_init_95 (fun H locs hH hS => ?_)
  refine lv_aload_n hx hb dX9_init_98 rfl (lv_at hl 0 rfl) ?_
  refine r_new (C := RX1) (T := TX1) (N := 4) (ci := 1) (fs := [.null, .null, .int 0, .null]) hx hb hts (by decide +kernel) tyX1 tyX1_ok hown (hts (.classLink RX9 51 RX1) (by decide +kernel)) (hts (.instantiable RX1 4) (by decide +kernel)) (hts (.initialized RX1) (by decide +kernel)) hK hH hS rfl (by decide) rfl (by decide) (by decide) dX9_init_99 (fun H hH hS => ?_)
  refine W.widen (k := 205) (n := 1648) (by decide) (by decide) ?_
  refine lv_dup hx hb dX9_init_102 rfl ?_
  obtain ⟨z18, hz18, hE⟩ := Option.bind_eq_some_iff.mp hE
  refine r_callV (va_runI (As := []) (rest := [.ref (b0 + L17.length), .ref (b0 + a0)]) ⟨hx, hb, hml, hown, hts⟩ (sX1_init l b0 D cA hz18) (cwI 0 hts gX9_init_X1_init rfl rfl rfl (hts (.initialized RX1) (by decide +kernel)) (hts (.methodLink RX9 53 yX1_init) (by decide +kernel)) (hts (.instanceMethod yX1_init) (by decide +kernel)) rfl (by decide +kernel) (rm_ok (by decide) (by decide))) (pre_S hK hH) rfl rfl hl.1 rfl (lv_room (Nat.le_of_ble_eq_true rfl)) dX9_init_103 ⟨by decide, by decide⟩) hS (fun H locs hH hS => ?_)
  refine W.widen (k := 208) (n := 1667) (by decide) (by decide) ?_
  obtain ⟨L19, hL19, hE⟩ := Option.bind_eq_some_iff.mp hE
  refine r_pF 8 (v := .ref L17.length) (ty := (.object "KindStreets$Measures")) (C := RX9) (T := TX9) (N := 10) (ci := 8) hx hb hts (by decide +kernel) tyX9 tyX9_ok nmX9 hown hK hH hS hL19 rfl (by decide) (hts (.fieldLink RX9 54 "KindStreets" "measures" "LKindStreets$Measures;") (by decide +kernel)) (fun _ h9 => h9) rfl hin rfl (by decide +kernel) rfl rfl dX9_init_106 (fun H locs hH hS => ?_)
  have hZ := Option.some.inj hE
  subst hZ
  exact W.vret hx hb hr (fun t ht hW => ⟨rfl, by rw [ht]; exact hH, hS.F ht⟩) hS.2.2 dX9_init_109
-- X10_init
def fX10_init (F : Nat) (L : HL) (a0 : Nat) : Option HL := (o_ob L a0 9).bind fun _ => (o_p (L ++ [(.inl (1, 120, fun _ => 0) : SC)]) a0 9 0 (.ref L.length)).bind fun L1 => (o_p (L1 ++ [(.inl (0, 2, fun _ => 0) : SC)]) a0 9 2 (.ref L1.length)).bind fun L2 => (o_p (L2 ++ [(.inl (0, 2, fun _ => 0) : SC)]) a0 9 3 (.ref L2.length)).bind fun L3 => (o_p (L3 ++ [(.inl (0, 18, fun _ => 0) : SC)]) a0 9 4 (.ref L3.length)).bind fun L4 => (o_p (L4 ++ [(.inl (0, 18, fun _ => 0) : SC)]) a0 9 5 (.ref L4.length)).bind fun L5 => (o_p (L5 ++ [(.inl (0, 18, fun _ => 0) : SC)]) a0 9 6 (.ref L5.length)).bind fun L6 => (o_p (L6 ++ [(.inl (0, 2, fun _ => 0) : SC)]) a0 9 7 (.ref L6.length)).bind fun L7 => (o_p (L7 ++ [(.inl (0, 12, fun _ => 0) : SC)]) a0 9 8 (.ref L7.length)).bind fun L8 => (o_p (L8 ++ [(.inl (0, 12, fun _ => 0) : SC)]) a0 9 9 (.ref L8.length)).bind fun L9 => (o_p (L9 ++ [(.inl (0, 34, fun _ => 0) : SC)]) a0 9 16 (.ref L9.length)).bind fun L10 => (o_p (L10 ++ [(.inl (0, 3, fun _ => 0) : SC)]) a0 9 17 (.ref L10.length)).bind fun L11 => (o_p (L11 ++ [(.inl (0, 1020, fun _ => 0) : SC)]) a0 9 18 (.ref L11.length)).bind fun L12 => (o_p (L12 ++ [(.inl (0, 68, fun _ => 0) : SC)]) a0 9 19 (.ref L12.length)).bind fun L13 => (o_p (L13 ++ [(.inl (2, 2, fun _ => 0) : SC)]) a0 9 20 (.ref L13.length)).bind fun L14 => (o_p (L14 ++ [(.inl (0, 3584, fun _ => 0) : SC)]) a0 9 21 (.ref L14.length)).bind fun L15 => (o_p (L15 ++ [(.inl (0, 4, fun _ => 0) : SC)]) a0 9 22 (.ref L15.length)).bind fun L16 => (o_p (L16 ++ [(.inl (0, 4, fun _ => 0) : SC)]) a0 9 23 (.ref L16.length)).bind fun L17 => (o_gR L17 a0 9 2).bind fun v18 => (o_sI L17 v18 0 0 4).bind fun L19 => some L19
theorem oX10_init {F : Nat} {L : HL} {a0 : Nat} {z : HL} (hE : fX10_init F L a0 = some z) : o_ob L a0 9 = some () := by
  obtain ⟨_, h, _⟩ := Option.bind_eq_some_iff.mp hE
  exact h
set_option maxHeartbeats 4000000 in
set_option maxRecDepth 100000 in
theorem sX10_init (l : Launch) (b0 : Nat) (D : va_G) (cA : Nat → ClassId) {F : Nat} {L : HL} {a0 : Nat} {z : HL} (hE : fX10_init F L a0 = some z) : Met l yX10_init wsX10_init (RM 1 17 4923) (Pk b0 D cA [.ref (b0 + a0)] L) (Qk b0 D cA none z) 17 4923 (Ab b0) := by
  refine Met.ofW (cc := cX10_init) (maxL := 1) (ret := none) (by decide) rfl ?_
  intro p ev s m args below meth c s₁ B hml hv
  obtain ⟨rfl, hH, hK⟩ := hv
  have hx := B.exec
  have hb := B.bytes
  have hr := B.returns
  have hts := atoms_spec (ws := wsX10_init) B.pre
  have hown : s.vm.findClass RX10 = some m.cls := findClass_of_methodNamed B.named
  have hlocks := B.notSynchronized
  have hC : Cx D cA p s m _ meth c cX10_init 1 RX10 wsX10_init none := ⟨hx, hb, hml, hown, hts, hK, hr, hlocks⟩
  have hS : va_S (Ab b0) s.heap s.heap [] := va_S.rf
  have hl := lv_entry ([.ref (b0 + a0)]) (n := 1) (Nat.le_of_ble_eq_true rfl)
  rw [lg_entry_eq]
  generalize (lg_sl ([.ref (b0 + a0)]) ++ List.replicate (1 - (lg_sl ([.ref (b0 + a0)])).length) Slot.unset).toArray = ls at hl ⊢
  have hl : lv_has ls 1 [(0, .ref (b0 + a0))] := hl
  have hin : meth.name = "<init>" := (name_of_methodNamed B.named B.method).1
  unfold fX10_init at hE
  obtain ⟨_, _, hE⟩ := Option.bind_eq_some_iff.mp hE
  refine lv_aload_n hx hb dX10_init_0 rfl (lv_at hl 0 rfl) ?_
  refine W.objInit hx hb hown (hts (.methodLink RX10 1 objectInit) (by decide +kernel)) (hts (.instanceMethod objectInit) (by decide +kernel)) (hts (.code objectInit ⟨#[0xb1]⟩ 1 none) (by decide +kernel)) rfl (by rw [hml]; exact hl.1) rfl dX10_init_1 (Nat.le_of_ble_eq_true rfl) (Nat.le_of_ble_eq_true rfl) ?_
  refine W.eq (g2 := F0 m 4 ls []) rfl ?_
  refine lv_aload_n hx hb dX10_init_4 rfl (lv_at hl 0 rfl) ?_
  refine lv_bipush (v := 120) hx hb dX10_init_5 (by decide) ?_
  refine r_newa (N' := 120) 1 hx hb (hts (.arrayClass .byte) (by decide +kernel)) rfl rfl hK rfl (fun _ h => by cases h) hH hS (by decide) (by decide) (by decide) (by decide) (by decide) dX10_init_7 (fun H hH hS => ?_)
  refine W.widen (k := 1) (n := 120) (by decide) (by decide) ?_
  obtain ⟨L1, hL1, hE⟩ := Option.bind_eq_some_iff.mp hE
  refine r_pF 0 (v := .ref L.length) (ty := (.array .byte)) (C := RX10) (T := TX10) (N := 26) (ci := 9) hx hb hts (by decide +kernel) tyX10 tyX10_ok nmX10 hown hK hH hS hL1 rfl (by decide) (hts (.fieldLink RX10 7 "KindStreetsModel" "text" "[B") (by decide +kernel)) (fun _ h9 => h9) rfl hin rfl (by decide +kernel) rfl rfl dX10_init_9 (fun H locs hH hS => ?_)
  refine lv_aload_n hx hb dX10_init_12 rfl (lv_at hl 0 rfl) ?_
  refine lv_iconst (v := 2) hx hb dX10_init_13 (by decide) ?_
  refine r_newa (N' := 2) 0 hx hb (hts (.arrayClass .int) (by decide +kernel)) rfl rfl hK rfl (fun _ h => by cases h) hH hS (by decide) (by decide) (by decide) (by decide) (by decide) dX10_init_14 (fun H hH hS => ?_)
  refine W.widen (k := 2) (n := 122) (by decide) (by decide) ?_
  obtain ⟨L2, hL2, hE⟩ := Option.bind_eq_some_iff.mp hE
  refine r_pF 2 (v := .ref L1.length) (ty := (.array .int)) (C := RX10) (T := TX10) (N := 26) (ci := 9) hx hb hts (by decide +kernel) tyX10 tyX10_ok nmX10 hown hK hH hS hL2 rfl (by decide) (hts (.fieldLink RX10 13 "KindStreetsModel" "yards" "[I") (by decide +kernel)) (fun _ h9 => h9) rfl hin rfl (by decide +kernel) rfl rfl dX10_init_16 (fun H locs hH hS => ?_)
  refine lv_aload_n hx hb dX10_init_19 rfl (lv_at hl 0 rfl) ?_
  refine lv_iconst (v := 2) hx hb dX10_init_20 (by decide) ?_
  refine r_newa (N' := 2) 0 hx hb (hts (.arrayClass .int) (by decide +kernel)) rfl rfl hK rfl (fun _ h => by cases h) hH hS (by decide) (by decide) (by decide) (by decide) (by decide) dX10_init_21 (fun H hH hS => ?_)
  refine W.widen (k := 3) (n := 124) (by decide) (by decide) ?_
  obtain ⟨L3, hL3, hE⟩ := Option.bind_eq_some_iff.mp hE
  refine r_pF 3 (v := .ref L2.length) (ty := (.array .int)) (C := RX10) (T := TX10) (N := 26) (ci := 9) hx hb hts (by decide +kernel) tyX10 tyX10_ok nmX10 hown hK hH hS hL3 rfl (by decide) (hts (.fieldLink RX10 17 "KindStreetsModel" "streets" "[I") (by decide +kernel)) (fun _ h9 => h9) rfl hin rfl (by decide +kernel) rfl rfl dX10_init_23 (fun H locs hH hS => ?_)
  refine lv_aload_n hx hb dX10_init_26 rfl (lv_at hl 0 rfl) ?_
  refine lv_bipush (v := 18) hx hb dX10_init_27 (by decide) ?_
  refine r_newa (N' := 18) 0 hx hb (hts (.arrayClass .int) (by decide +kernel)) rfl rfl hK rfl (fun _ h => by cases h) hH hS (by decide) (by decide) (by decide) (by decide) (by decide) dX10_init_29 (fun H hH hS => ?_)
  refine W.widen (k := 4) (n := 142) (by decide) (by decide) ?_
  obtain ⟨L4, hL4, hE⟩ := Option.bind_eq_some_iff.mp hE
  refine r_pF 4 (v := .ref L3.length) (ty := (.array .int)) (C := RX10) (T := TX10) (N := 26) (ci := 9) hx hb hts (by decide +kernel) tyX10 tyX10_ok nmX10 hown hK hH hS hL4 rfl (by decide) (hts (.fieldLink RX10 20 "KindStreetsModel" "from" "[I") (by decide +kernel)) (fun _ h9 => h9) rfl hin rfl (by decide +kernel) rfl rfl dX10_init_31 (fun H locs hH hS => ?_)
  refine lv_aload_n hx hb dX10_init_34 rfl (lv_at hl 0 rfl) ?_
  refine lv_bipush (v := 18) hx hb dX10_init_35 (by decide) ?_
  refine r_newa (N' := 18) 0 hx hb (hts (.arrayClass .int) (by decide +kernel)) rfl rfl hK rfl (fun _ h => by cases h) hH hS (by decide) (by decide) (by decide) (by decide) (by decide) dX10_init_37 (fun H hH hS => ?_)
  refine W.widen (k := 5) (n := 160) (by decide) (by decide) ?_
  obtain ⟨L5, hL5, hE⟩ := Option.bind_eq_some_iff.mp hE
  refine r_pF 5 (v := .ref L4.length) (ty := (.array .int)) (C := RX10) (T := TX10) (N := 26) (ci := 9) hx hb hts (by decide +kernel) tyX10 tyX10_ok nmX10 hown hK hH hS hL5 rfl (by decide) (hts (.fieldLink RX10 23 "KindStreetsModel" "to" "[I") (by decide +kernel)) (fun _ h9 => h9) rfl hin rfl (by decide +kernel) rfl rfl dX10_init_39 (fun H locs hH hS => ?_)
  refine lv_aload_n hx hb dX10_init_42 rfl (lv_at hl 0 rfl) ?_
  refine lv_bipush (v := 18) hx hb dX10_init_43 (by decide) ?_
  refine r_newa (N' := 18) 0 hx hb (hts (.arrayClass .int) (by decide +kernel)) rfl rfl hK rfl (fun _ h => by cases h) hH hS (by decide) (by decide) (by decide) (by decide) (by decide) dX10_init_45 (fun H hH hS => ?_)
  refine W.widen (k := 6) (n := 178) (by decide) (by decide) ?_
  obtain ⟨L6, hL6, hE⟩ := Option.bind_eq_some_iff.mp hE
  refine r_pF 6 (v := .ref L5.length) (ty := (.array .int)) (C := RX10) (T := TX10) (N := 26) (ci := 9) hx hb hts (by decide +kernel) tyX10 tyX10_ok nmX10 hown hK hH hS hL6 rfl (by decide) (hts (.fieldLink RX10 26 "KindStreetsModel" "old" "[I") (by decide +kernel)) (fun _ h9 => h9) rfl hin rfl (by decide +kernel) rfl rfl dX10_init_47 (fun H locs hH hS => ?_)
  refine lv_aload_n hx hb dX10_init_50 rfl (lv_at hl 0 rfl) ?_
  refine lv_iconst (v := 2) hx hb dX10_init_51 (by decide) ?_
  refine r_newa (N' := 2) 0 hx hb (hts (.arrayClass .int) (by decide +kernel)) rfl rfl hK rfl (fun _ h => by cases h) hH hS (by decide) (by decide) (by decide) (by decide) (by decide) dX10_init_52 (fun H hH hS => ?_)
  refine W.widen (k := 7) (n := 180) (by decide) (by decide) ?_
  obtain ⟨L7, hL7, hE⟩ := Option.bind_eq_some_iff.mp hE
  refine r_pF 7 (v := .ref L6.length) (ty := (.array .int)) (C := RX10) (T := TX10) (N := 26) (ci := 9) hx hb hts (by decide +kernel) tyX10 tyX10_ok nmX10 hown hK hH hS hL7 rfl (by decide) (hts (.fieldLink RX10 29 "KindStreetsModel" "people" "[I") (by decide +kernel)) (fun _ h9 => h9) rfl hin rfl (by decide +kernel) rfl rfl dX10_init_54 (fun H locs hH hS => ?_)
  refine lv_aload_n hx hb dX10_init_57 rfl (lv_at hl 0 rfl) ?_
  refine lv_bipush (v := 12) hx hb dX10_init_58 (by decide) ?_
  refine r_newa (N' := 12) 0 hx hb (hts (.arrayClass .int) (by decide +kernel)) rfl rfl hK rfl (fun _ h => by cases h) hH hS (by decide) (by decide) (by decide) (by decide) (by decide) dX10_init_60 (fun H hH hS => ?_)
  refine W.widen (k := 8) (n := 192) (by decide) (by decide) ?_
  obtain ⟨L8, hL8, hE⟩ := Option.bind_eq_some_iff.mp hE
  refine r_pF 8 (v := .ref L7.length) (ty := (.array .int)) (C := RX10) (T := TX10) (N := 26) (ci := 9) hx hb hts (by decide +kernel) tyX10 tyX10_ok nmX10 hown hK hH hS hL8 rfl (by decide) (hts (.fieldLink RX10 32 "KindStreetsModel" "home" "[I") (by decide +kernel)) (fun _ h9 => h9) rfl hin rfl (by decide +kernel) rfl rfl dX10_init_62 (fun H locs hH hS => ?_)
  refine lv_aload_n hx hb dX10_init_65 rfl (lv_at hl 0 rfl) ?_
  refine lv_bipush (v := 12) hx hb dX10_init_66 (by decide) ?_
  refine r_newa (N' := 12) 0 hx hb (hts (.arrayClass .int) (by decide +kernel)) rfl rfl hK rfl (fun _ h => by cases h) hH hS (by decide) (by decide) (by decide) (by decide) (by decide) dX10_init_68 (fun H hH hS => ?_)
  refine W.widen (k := 9) (n := 204) (by decide) (by decide) ?_
  obtain ⟨L9, hL9, hE⟩ := Option.bind_eq_some_iff.mp hE
  refine r_pF 9 (v := .ref L8.length) (ty := (.array .int)) (C := RX10) (T := TX10) (N := 26) (ci := 9) hx hb hts (by decide +kernel) tyX10 tyX10_ok nmX10 hown hK hH hS hL9 rfl (by decide) (hts (.fieldLink RX10 35 "KindStreetsModel" "wants" "[I") (by decide +kernel)) (fun _ h9 => h9) rfl hin rfl (by decide +kernel) rfl rfl dX10_init_70 (fun H locs hH hS => ?_)
  refine lv_aload_n hx hb dX10_init_73 rfl (lv_at hl 0 rfl) ?_
  refine lv_bipush (v := 34) hx hb dX10_init_74 (by decide) ?_
  refine r_newa (N' := 34) 0 hx hb (hts (.arrayClass .int) (by decide +kernel)) rfl rfl hK rfl (fun _ h => by cases h) hH hS (by decide) (by decide) (by decide) (by decide) (by decide) dX10_init_76 (fun H hH hS => ?_)
  refine W.widen (k := 10) (n := 238) (by decide) (by decide) ?_
  obtain ⟨L10, hL10, hE⟩ := Option.bind_eq_some_iff.mp hE
  refine r_pF 16 (v := .ref L9.length) (ty := (.array .int)) (C := RX10) (T := TX10) (N := 26) (ci := 9) hx hb hts (by decide +kernel) tyX10 tyX10_ok nmX10 hown hK hH hS hL10 rfl (by decide) (hts (.fieldLink RX10 38 "KindStreetsModel" "now" "[I") (by decide +kernel)) (fun _ h9 => h9) rfl hin rfl (by decide +kernel) rfl rfl dX10_init_78 (fun H locs hH hS => ?_)
  refine lv_aload_n hx hb dX10_init_81 rfl (lv_at hl 0 rfl) ?_
  refine lv_iconst (v := 3) hx hb dX10_init_82 (by decide) ?_
  refine r_newa (N' := 3) 0 hx hb (hts (.arrayClass .int) (by decide +kernel)) rfl rfl hK rfl (fun _ h => by cases h) hH hS (by decide) (by decide) (by decide) (by decide) (by decide) dX10_init_83 (fun H hH hS => ?_)
  refine W.widen (k := 11) (n := 241) (by decide) (by decide) ?_
  obtain ⟨L11, hL11, hE⟩ := Option.bind_eq_some_iff.mp hE
  refine r_pF 17 (v := .ref L10.length) (ty := (.array .int)) (C := RX10) (T := TX10) (N := 26) (ci := 9) hx hb hts (by decide +kernel) tyX10 tyX10_ok nmX10 hown hK hH hS hL11 rfl (by decide) (hts (.fieldLink RX10 41 "KindStreetsModel" "known" "[I") (by decide +kernel)) (fun _ h9 => h9) rfl hin rfl (by decide +kernel) rfl rfl dX10_init_85 (fun H locs hH hS => ?_)
  refine lv_aload_n hx hb dX10_init_88 rfl (lv_at hl 0 rfl) ?_
  refine lv_sipush (v := 1020) hx hb dX10_init_89 (by decide) ?_
  refine r_newa (N' := 1020) 0 hx hb (hts (.arrayClass .int) (by decide +kernel)) rfl rfl hK rfl (fun _ h => by cases h) hH hS (by decide) (by decide) (by decide) (by decide) (by decide) dX10_init_92 (fun H hH hS => ?_)
  refine W.widen (k := 12) (n := 1261) (by decide) (by decide) ?_
  obtain ⟨L12, hL12, hE⟩ := Option.bind_eq_some_iff.mp hE
  refine r_pF 18 (v := .ref L11.length) (ty := (.array .int)) (C := RX10) (T := TX10) (N := 26) (ci := 9) hx hb hts (by decide +kernel) tyX10 tyX10_ok nmX10 hown hK hH hS hL12 rfl (by decide) (hts (.fieldLink RX10 44 "KindStreetsModel" "before" "[I") (by decide +kernel)) (fun _ h9 => h9) rfl hin rfl (by decide +kernel) rfl rfl dX10_init_94 (fun H locs hH hS => ?_)
  refine lv_aload_n hx hb dX10_init_97 rfl (lv_at hl 0 rfl) ?_
  refine lv_bipush (v := 68) hx hb dX10_init_98 (by decide) ?_
  refine r_newa (N' := 68) 0 hx hb (hts (.arrayClass .int) (by decide +kernel)) rfl rfl hK rfl (fun _ h => by cases h) hH hS (by decide) (by decide) (by decide) (by decide) (by decide) dX10_init_100 (fun H hH hS => ?_)
  refine W.widen (k := 13) (n := 1329) (by decide) (by decide) ?_
  obtain ⟨L13, hL13, hE⟩ := Option.bind_eq_some_iff.mp hE
  refine r_pF 19 (v := .ref L12.length) (ty := (.array .int)) (C := RX10) (T := TX10) (N := 26) (ci := 9) hx hb hts (by decide +kernel) tyX10 tyX10_ok nmX10 hown hK hH hS hL13 rfl (by decide) (hts (.fieldLink RX10 47 "KindStreetsModel" "store" "[I") (by decide +kernel)) (fun _ h9 => h9) rfl hin rfl (by decide +kernel) rfl rfl dX10_init_102 (fun H locs hH hS => ?_)
  refine lv_aload_n hx hb dX10_init_105 rfl (lv_at hl 0 rfl) ?_
  refine lv_iconst (v := 2) hx hb dX10_init_106 (by decide) ?_
  refine r_newa (N' := 2) 2 hx hb (hts (.arrayClass .boolean) (by decide +kernel)) rfl rfl hK rfl (fun _ h => by cases h) hH hS (by decide) (by decide) (by decide) (by decide) (by decide) dX10_init_107 (fun H hH hS => ?_)
  refine W.widen (k := 14) (n := 1331) (by decide) (by decide) ?_
  obtain ⟨L14, hL14, hE⟩ := Option.bind_eq_some_iff.mp hE
  refine r_pF 20 (v := .ref L13.length) (ty := (.array .boolean)) (C := RX10) (T := TX10) (N := 26) (ci := 9) hx hb hts (by decide +kernel) tyX10 tyX10_ok nmX10 hown hK hH hS hL14 rfl (by decide) (hts (.fieldLink RX10 50 "KindStreetsModel" "isKept" "[Z") (by decide +kernel)) (fun _ h9 => h9) rfl hin rfl (by decide +kernel) rfl rfl dX10_init_109 (fun H locs hH hS => ?_)
  refine lv_aload_n hx hb dX10_init_112 rfl (lv_at hl 0 rfl) ?_
  refine lv_sipush (v := 3584) hx hb dX10_init_113 (by decide) ?_
  refine r_newa (N' := 3584) 0 hx hb (hts (.arrayClass .int) (by decide +kernel)) rfl rfl hK rfl (fun _ h => by cases h) hH hS (by decide) (by decide) (by decide) (by decide) (by decide) dX10_init_116 (fun H hH hS => ?_)
  refine W.widen (k := 15) (n := 4915) (by decide) (by decide) ?_
  obtain ⟨L15, hL15, hE⟩ := Option.bind_eq_some_iff.mp hE
  refine r_pF 21 (v := .ref L14.length) (ty := (.array .int)) (C := RX10) (T := TX10) (N := 26) (ci := 9) hx hb hts (by decide +kernel) tyX10 tyX10_ok nmX10 hown hK hH hS hL15 rfl (by decide) (hts (.fieldLink RX10 54 "KindStreetsModel" "most" "[I") (by decide +kernel)) (fun _ h9 => h9) rfl hin rfl (by decide +kernel) rfl rfl dX10_init_118 (fun H locs hH hS => ?_)
  refine lv_aload_n hx hb dX10_init_121 rfl (lv_at hl 0 rfl) ?_
  refine lv_iconst (v := 4) hx hb dX10_init_122 (by decide) ?_
  refine r_newa (N' := 4) 0 hx hb (hts (.arrayClass .int) (by decide +kernel)) rfl rfl hK rfl (fun _ h => by cases h) hH hS (by decide) (by decide) (by decide) (by decide) (by decide) dX10_init_123 (fun H hH hS => ?_)
  refine W.widen (k := 16) (n := 4919) (by decide) (by decide) ?_
  obtain ⟨L16, hL16, hE⟩ := Option.bind_eq_some_iff.mp hE
  refine r_pF 22 (v := .ref L15.length) (ty := (.array .int)) (C := RX10) (T := TX10) (N := 26) (ci := 9) hx hb hts (by decide +kernel) tyX10 tyX10_ok nmX10 hown hK hH hS hL16 rfl (by decide) (hts (.fieldLink RX10 57 "KindStreetsModel" "factWidth" "[I") (by decide +kernel)) (fun _ h9 => h9) rfl hin rfl (by decide +kernel) rfl rfl dX10_init_125 (fun H locs hH hS => ?_)
  refine lv_aload_n hx hb dX10_init_128 rfl (lv_at hl 0 rfl) ?_
  refine lv_iconst (v := 4) hx hb dX10_init_129 (by decide) ?_
  refine r_newa (N' := 4) 0 hx hb (hts (.arrayClass .int) (by decide +kernel)) rfl rfl hK rfl (fun _ h => by cases h) hH hS (by decide) (by decide) (by decide) (by decide) (by decide) dX10_init_130 (fun H hH hS => ?_)
  refine W.widen (k := 17) (n := 4923) (by decide) (by decide) ?_
  obtain ⟨L17, hL17, hE⟩ := Option.bind_eq_some_iff.mp hE
  refine r_pF 23 (v := .ref L16.length) (ty := (.array .int)) (C := RX10) (T := TX10) (N := 26) (ci := 9) hx hb hts (by decide +kernel) tyX10 tyX10_ok nmX10 hown hK hH hS hL17 rfl (by decide) (hts (.fieldLink RX10 60 "KindStreetsModel" "factNight" "[I") (by decide +kernel)) (fun _ h9 => h9) rfl hin rfl (by decide +kernel) rfl rfl dX10_init_132 (fun H locs hH hS => ?_)
  refine lv_aload_n hx hb dX10_init_135 rfl (lv_at hl 0 rfl) ?_
  obtain ⟨v18, hv18, hE⟩ := Option.bind_eq_some_iff.mp hE
  refine r_gR 2 (C := RX10) (T := TX10) (N := 26) (ci := 9) hx hb hts (by decide +kernel) hown hK hH hv18 rfl (by decide) (hts (.fieldLink RX10 13 "KindStreetsModel" "yards" "[I") (by decide +kernel)) (fun _ h9 => h9) dX10_init_136 ?_
  refine lv_iconst (v := 0) hx hb dX10_init_139 (by decide) ?_
  refine lv_iconst (v := 4) hx hb dX10_init_140 (by decide) ?_
  obtain ⟨L19, hL19, hE⟩ := Option.bind_eq_some_iff.mp hE
  refine r_iast hx hb hK hH hS hL19 dX10_init_141 (fun H locs hH hS => ?_)
  have hZ := Option.some.inj hE
  subst hZ
  exact W.vret hx hb hr (fun t ht hW => ⟨rfl, by rw [ht]; exact hH, hS.F ht⟩) hS.2.2 dX10_init_142
end

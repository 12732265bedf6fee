/-! the heap of the system as a list of cells from the address b0 on; references are places in it -/
abbrev SC : Type := (Nat × Nat × (Nat → Int32)) ⊕ ((Nat × Nat × (Nat → Option Nat)) ⊕ (Nat × List Value))
abbrev HL : Type := List SC
def shv (b0 : Nat) (v : Value) : Value := match v with
  | .ref i => .ref (b0 + i)
  | w => w
def mcell (b0 : Nat) (cA : Nat → ClassId) (x : SC) : va_E := match x with
  | .inl (t, n, f) => .inl (cA t, n, .inl f)
  | .inr (.inl (t, n, f)) => .inl (cA t, n, .inr (.inr (.inr (.inr (fun j => (f j).map (fun i => b0 + i))))))
  | .inr (.inr (ci, fs)) => .inr (ci, fs.map (shv b0))
def tysA (cA : Nat → ClassId) : List (ClassId × FieldType) := [(cA 0, .int), (cA 1, .byte), (cA 2, .boolean), (cA 3, .object "KindStreets$Moment"), (cA 4, .object "KindStreets$Now")]
def KK (D : va_G) (cA : Nat → ClassId) (U : State) : Prop := va_K D vwCl (tysA cA) U ∧ va_AO "KindStreets$Moment" U ∧ va_AO "KindStreets$Now" U
theorem KK.moved {D : va_G} {cA : Nat → ClassId} {u U : State} (hvm : u.vm.Alike U.vm) (h : KK D cA u) : KK D cA U := ⟨va_K.moved hvm h.1, va_AO.moved hvm h.2.1, va_AO.moved hvm h.2.2⟩
def HPr (b0 : Nat) (D : va_G) (cA : Nat → ClassId) (L : HL) (H : Heap) : Prop := H.size = b0 + L.length ∧ ∀ (i : Nat) (x : SC), L[i]? = some x → va_at D vwCl (b0 + i, mcell b0 cA x) H
abbrev Ab (b0 : Nat) : Nat → Prop := fun q => b0 ≤ q
theorem HPr.set {b0 : Nat} {D : va_G} {cA : Nat → ClassId} {L : HL} {H H1 : Heap} {i : Nat} {x : SC} (h : HPr b0 D cA L H) (hi : i < L.length) (he : va_at D vwCl (b0 + i, mcell b0 cA x) H1) (hz : H1.size = H.size) (ho : ∀ q, q ≠ b0 + i → H1[q]? = H[q]?) : HPr b0 D cA (L.set i x) H1 := by
  refine ⟨by rw [hz, List.length_set]; exact h.1, fun j y hj => ?_⟩
  by_cases hji : j = i
  · subst hji
    rw [List.getElem?_set_self hi] at hj
    cases hj
    exact he
  · rw [List.getElem?_set_ne (Ne.symm hji)] at hj
    exact (h.2 j y hj).kept (ho _ (by show b0 + j ≠ b0 + i; omega))
theorem HPr.push {b0 : Nat} {D : va_G} {cA : Nat → ClassId} {L : HL} {H H1 : Heap} {x : SC} (h : HPr b0 D cA L H) (he : va_at D vwCl (b0 + L.length, mcell b0 cA x) H1) (hz : H1.size = b0 + L.length + 1) (ho : ∀ q, q < b0 + L.length → H1[q]? = H[q]?) : HPr b0 D cA (L ++ [x]) H1 := by
  refine ⟨by rw [hz, List.length_append]; rfl, fun j y hj => ?_⟩
  by_cases hl : j < L.length
  · rw [List.getElem?_append_left hl] at hj
    exact (h.2 j y hj).kept (ho _ (by show b0 + j < b0 + L.length; omega))
  · rw [List.getElem?_append_right (by omega)] at hj
    have hz : j - L.length < 1 := (List.getElem?_eq_some_iff.mp hj).1
    have hj0 : j = L.length := by omega
    subst hj0
    rw [Nat.sub_self] at hj
    cases hj
    exact he
/-- reads and writes -/
def o_g (L : HL) (q ci k : Nat) : Option Value := match L[q]? with
  | some (.inr (.inr (c, fs))) => if c = ci then fs[k]? else none
  | _ => none
def o_gI (L : HL) (q ci k : Nat) : Option Int32 := match o_g L q ci k with
  | some (.int v) => some v
  | _ => none
def o_gJ (L : HL) (q ci k : Nat) : Option Int64 := match o_g L q ci k with
  | some (.long v) => some v
  | _ => none
def o_gR (L : HL) (q ci k : Nat) : Option Nat := match o_g L q ci k with
  | some (.ref v) => some v
  | _ => none
def o_p (L : HL) (q ci k : Nat) (v : Value) : Option HL := match L[q]? with
  | some (.inr (.inr (c, fs))) => if c = ci ∧ k < fs.length then some (L.set q (.inr (.inr (c, fs.set k v)))) else none
  | _ => none
def o_ob (L : HL) (q ci : Nat) : Option Unit := match L[q]? with
  | some (.inr (.inr (c, _))) => if c = ci then some () else none
  | _ => none
def o_aI (L : HL) (q t : Nat) (i : Int32) : Option Int32 := match L[q]? with
  | some (.inl (u, n, f)) => if u = t ∧ ¬ (i < 0 ∨ n ≤ i.toNatClampNeg) then some (f i.toNatClampNeg) else none
  | _ => none
def o_sI (L : HL) (q t : Nat) (i x : Int32) : Option HL := match L[q]? with
  | some (.inl (u, n, f)) => if u = t ∧ ¬ (i < 0 ∨ n ≤ i.toNatClampNeg) then some (L.set q (.inl (u, n, upd f i.toNatClampNeg x))) else none
  | _ => none
def o_aR (L : HL) (q t : Nat) (i : Int32) : Option Nat := match L[q]? with
  | some (.inr (.inl (u, n, f))) => if u = t ∧ ¬ (i < 0 ∨ n ≤ i.toNatClampNeg) then f i.toNatClampNeg else none
  | _ => none
def o_sR (L : HL) (q t ci : Nat) (i : Int32) (v : Nat) : Option HL := match L[q]?, L[v]? with
  | some (.inr (.inl (u, n, f))), some (.inr (.inr (c, _))) => if (u = t ∧ c = ci) ∧ ¬ (i < 0 ∨ n ≤ i.toNatClampNeg) then some (L.set q (.inr (.inl (u, n, va_up f i.toNatClampNeg (some v))))) else none
  | _, _ => none
def o_len (L : HL) (q t : Nat) : Option Int32 := match L[q]? with
  | some (.inl (u, n, _)) => if u = t then some (Int32.ofNat n) else none
  | _ => none
def o_cp (L : HL) (q0 : Nat) (sp : Int32) (q1 : Nat) (dp n : Int32) : Option HL := match L[q0]?, L[q1]? with
  | some (.inl (u0, n0, f)), some (.inl (u1, n1, g)) => if (u0 = 0 ∧ u1 = 0) ∧ (¬ sp < 0 ∧ ¬ dp < 0 ∧ ¬ n < 0) ∧ sp.toNatClampNeg + n.toNatClampNeg ≤ n0 ∧ dp.toNatClampNeg + n.toNatClampNeg ≤ n1 then some (L.set q1 (.inl (u1, n1, va_cpy f g sp.toNatClampNeg dp.toNatClampNeg n.toNatClampNeg))) else none
  | _, _ => none
theorem o_g_spec {L : HL} {q ci k : Nat} {v : Value} (h : o_g L q ci k = some v) : ∃ fs, L[q]? = some (.inr (.inr (ci, fs))) ∧ fs[k]? = some v := by
  unfold o_g at h
  split at h
  · rename_i c fs hq
    split at h
    · rename_i hc; subst hc; exact ⟨fs, hq, h⟩
    · cases h
  · cases h
theorem o_gI_spec {L : HL} {q ci k : Nat} {v : Int32} (h : o_gI L q ci k = some v) : o_g L q ci k = some (.int v) := by
  unfold o_gI at h
  split at h
  · rename_i w hw; cases h; exact hw
  · cases h
theorem o_gJ_spec {L : HL} {q ci k : Nat} {v : Int64} (h : o_gJ L q ci k = some v) : o_g L q ci k = some (.long v) := by
  unfold o_gJ at h
  split at h
  · rename_i w hw; cases h; exact hw
  · cases h
theorem o_gR_spec {L : HL} {q ci k : Nat} {v : Nat} (h : o_gR L q ci k = some v) : o_g L q ci k = some (.ref v) := by
  unfold o_gR at h
  split at h
  · rename_i w hw; cases h; exact hw
  · cases h
theorem o_p_spec {L L1 : HL} {q ci k : Nat} {v : Value} (h : o_p L q ci k v = some L1) : ∃ fs, L[q]? = some (.inr (.inr (ci, fs))) ∧ k < fs.length ∧ L1 = L.set q (.inr (.inr (ci, fs.set k v))) := by
  unfold o_p at h
  split at h
  · rename_i c fs hq
    split at h
    · rename_i hc; obtain ⟨rfl, hk⟩ := hc; cases h; exact ⟨fs, hq, hk, rfl⟩
    · cases h
  · cases h
theorem o_ob_spec {L : HL} {q ci : Nat} {u : Unit} (h : o_ob L q ci = some u) : ∃ fs, L[q]? = some (.inr (.inr (ci, fs))) := by
  unfold o_ob at h
  split at h
  · rename_i c fs hq
    split at h
    · rename_i hc; subst hc; exact ⟨fs, hq⟩
    · cases h
  · cases h
theorem o_aI_spec {L : HL} {q t : Nat} {i v : Int32} (h : o_aI L q t i = some v) : ∃ n f, L[q]? = some (.inl (t, n, f)) ∧ vp_in i n ∧ v = f i.toNatClampNeg := by
  unfold o_aI at h
  split at h
  · rename_i u n f hq
    split at h
    · rename_i hc; obtain ⟨rfl, hk⟩ := hc; cases h; exact ⟨n, f, hq, hk, rfl⟩
    · cases h
  · cases h
theorem o_sI_spec {L L1 : HL} {q t : Nat} {i x : Int32} (h : o_sI L q t i x = some L1) : ∃ n f, L[q]? = some (.inl (t, n, f)) ∧ vp_in i n ∧ L1 = L.set q (.inl (t, n, upd f i.toNatClampNeg x)) := by
  unfold o_sI at h
  split at h
  · rename_i u n f hq
    split at h
    · rename_i hc; obtain ⟨rfl, hk⟩ := hc; cases h; exact ⟨n, f, hq, hk, rfl⟩
    · cases h
  · cases h
theorem o_aR_spec {L : HL} {q t : Nat} {i : Int32} {v : Nat} (h : o_aR L q t i = some v) : ∃ n f, L[q]? = some (.inr (.inl (t, n, f))) ∧ vp_in i n ∧ f i.toNatClampNeg = some v := by
  unfold o_aR at h
  split at h
  · rename_i u n f hq
    split at h
    · rename_i hc; obtain ⟨rfl, hk⟩ := hc; exact ⟨n, f, hq, hk, h⟩
    · cases h
  · cases h
theorem o_sR_spec {L L1 : HL} {q t ci : Nat} {i : Int32} {v : Nat} (h : o_sR L q t ci i v = some L1) : ∃ n f vs, L[q]? = some (.inr (.inl (t, n, f))) ∧ L[v]? = some (.inr (.inr (ci, vs))) ∧ vp_in i n ∧ L1 = L.set q (.inr (.inl (t, n, va_up f i.toNatClampNeg (some v)))) := by
  unfold o_sR at h
  split at h
  · rename_i u n f c vs hq hv
    split at h
    · rename_i hc; obtain ⟨⟨rfl, rfl⟩, hk⟩ := hc; cases h; exact ⟨n, f, vs, hq, hv, hk, rfl⟩
    · cases h
  · cases h
theorem o_len_spec {L : HL} {q t : Nat} {v : Int32} (h : o_len L q t = some v) : ∃ n f, L[q]? = some (.inl (t, n, f)) ∧ v = Int32.ofNat n := by
  unfold o_len at h
  split at h
  · rename_i u n f hq
    split at h
    · rename_i hc; subst hc; cases h; exact ⟨n, f, hq, rfl⟩
    · cases h
  · cases h
theorem o_cp_spec {L L1 : HL} {q0 q1 : Nat} {sp dp n : Int32} (h : o_cp L q0 sp q1 dp n = some L1) : ∃ n0 f n1 g, L[q0]? = some (.inl (0, n0, f)) ∧ L[q1]? = some (.inl (0, n1, g)) ∧ (¬ sp < 0 ∧ ¬ dp < 0 ∧ ¬ n < 0) ∧ sp.toNatClampNeg + n.toNatClampNeg ≤ n0 ∧ dp.toNatClampNeg + n.toNatClampNeg ≤ n1 ∧ L1 = L.set q1 (.inl (0, n1, va_cpy f g sp.toNatClampNeg dp.toNatClampNeg n.toNatClampNeg)) := by
  unfold o_cp at h
  split at h
  · rename_i u0 n0 f u1 n1 g hq0 hq1
    split at h
    · rename_i hc; obtain ⟨⟨rfl, rfl⟩, h1, h2, h3⟩ := hc; cases h; exact ⟨n0, f, n1, g, hq0, hq1, h1, h2, h3, rfl⟩
    · cases h
  · cases h
theorem va_P1 {D : va_G} {cl : List vw_C} {x : Nat × va_E} {H : Heap} (h : va_at D cl x H) : va_P D cl [x] H := by
  intro k q hk
  have hz : k < 1 := (List.getElem?_eq_some_iff.mp hk).1
  rw [show k = 0 by omega] at hk
  cases hk
  exact h
def Qk (b0 : Nat) (D : va_G) (cA : Nat → ClassId) (rv : Option Value) (L : HL) : Array Value → State → Outcome → State → Prop := fun _ st oc t => oc = .returned rv ∧ HPr b0 D cA L t.heap ∧ va_F (Ab b0) st t
abbrev Pk (b0 : Nat) (D : va_G) (cA : Nat → ClassId) (av : List Value) (L : HL) : Array Value → State → Prop := va_Pc av (fun U => HPr b0 D cA L U.heap ∧ KK D cA U)
abbrev RM (d mc ms : Nat) : Room := { frames := d, cells := mc, slots := ms, locals := 40 * d }
theorem Pk_blind {b0 : Nat} {D : va_G} {cA : Nat → ClassId} {av : List Value} {L : HL} : FrameBlind (Pk b0 D cA av L) := fun a U g mk q => ⟨q.1, q.2.1, KK.moved (u := U) (U := U.calling g mk a) (Vm.Alike.refl U.vm) q.2.2⟩
section RW
variable {p : Program} {l : Launch} {e : Env} {R : Room} {s : State} {m : MethodId} {args : Array Value} {below : List Frame} {meth : Method} {c : Code} {H : Heap} {locs : List Loc} {cells slots : Nat} {Q : State → Prop}
variable {cc : ByteArray} {pc : Nat} {ls : Array Slot} {rest : List Value} {b0 : Nat} {D : va_G} {cA : Nat → ClassId} {L L1 : HL}
theorem r_g {own ref C : String} {T : u_T} {N ci index q k : Nat} {Ts : List Cond} {v : Value} (hx : p.tables.exec = Jvm.exec) (hb : c.code = cc) (hts : ∀ w ∈ Ts, w.before args s = true) (hin : ∀ w ∈ u_ws C T N, w ∈ Ts) (hown : s.vm.findClass own = some m.cls) (hK : KK D cA s) (hH : HPr b0 D cA L H) (hq : o_g L q ci k = some v) (hc : vwCl[ci]? = some (C, T, N)) (hk : k < N) (hlink : (Cond.fieldLink own index ref (T k).2.1 (T k).2.2.1).before args s = true) (hsame : ∀ x, s.fieldFound? (T k).1 (T k).2.1 (T k).2.2.1 = some x → s.fieldFound? ref (T k).2.1 (T k).2.2.1 = some x) (hdg : decode cc pc = .ok (.getfield index, 3))
    (kk : W p l e R s m args below meth c H locs cells slots Q (F0 m (pc + 3) ls (shv b0 v :: rest))) : W p l e R s m args below meth c H locs cells slots Q (F0 m pc ls (.ref (b0 + q) :: rest)) := by
  obtain ⟨fs, hL, hv⟩ := o_g_spec hq
  exact va_get (D := D) (cl := vwCl) (tys := tysA cA) (ws := [(b0 + q, .inr (ci, fs.map (shv b0)))]) hx hb hts hin hown hK.1 (va_P1 (hH.2 q _ hL)) 0 rfl hc k hk hlink hsame (v := shv b0 v) (by rw [List.getElem?_map, hv]; rfl) hdg kk
theorem r_gI {own ref C : String} {T : u_T} {N ci index q : Nat} {Ts : List Cond} {v : Int32} (k : Nat) (hx : p.tables.exec = Jvm.exec) (hb : c.code = cc) (hts : ∀ w ∈ Ts, w.before args s = true) (hin : ∀ w ∈ u_ws C T N, w ∈ Ts) (hown : s.vm.findClass own = some m.cls) (hK : KK D cA s) (hH : HPr b0 D cA L H) (hq : o_gI L q ci k = some v) (hc : vwCl[ci]? = some (C, T, N)) (hk : k < N) (hlink : (Cond.fieldLink own index ref (T k).2.1 (T k).2.2.1).before args s = true) (hsame : ∀ x, s.fieldFound? (T k).1 (T k).2.1 (T k).2.2.1 = some x → s.fieldFound? ref (T k).2.1 (T k).2.2.1 = some x) (hdg : decode cc pc = .ok (.getfield index, 3))
    (kk : W p l e R s m args below meth c H locs cells slots Q (F0 m (pc + 3) ls (.int v :: rest))) : W p l e R s m args below meth c H locs cells slots Q (F0 m pc ls (.ref (b0 + q) :: rest)) := r_g hx hb hts hin hown hK hH (o_gI_spec hq) hc hk hlink hsame hdg kk
theorem r_gJ {own ref C : String} {T : u_T} {N ci index q : Nat} {Ts : List Cond} {v : Int64} (k : Nat) (hx : p.tables.exec = Jvm.exec) (hb : c.code = cc) (hts : ∀ w ∈ Ts, w.before args s = true) (hin : ∀ w ∈ u_ws C T N, w ∈ Ts) (hown : s.vm.findClass own = some m.cls) (hK : KK D cA s) (hH : HPr b0 D cA L H) (hq : o_gJ L q ci k = some v) (hc : vwCl[ci]? = some (C, T, N)) (hk : k < N) (hlink : (Cond.fieldLink own index ref (T k).2.1 (T k).2.2.1).before args s = true) (hsame : ∀ x, s.fieldFound? (T k).1 (T k).2.1 (T k).2.2.1 = some x → s.fieldFound? ref (T k).2.1 (T k).2.2.1 = some x) (hdg : decode cc pc = .ok (.getfield index, 3))
    (kk : W p l e R s m args below meth c H locs cells slots Q (F0 m (pc + 3) ls (.long v :: rest))) : W p l e R s m args below meth c H locs cells slots Q (F0 m pc ls (.ref (b0 + q) :: rest)) := r_g hx hb hts hin hown hK hH (o_gJ_spec hq) hc hk hlink hsame hdg kk
theorem r_gR {own ref C : String} {T : u_T} {N ci index q : Nat} {Ts : List Cond} {v : Nat} (k : Nat) (hx : p.tables.exec = Jvm.exec) (hb : c.code = cc) (hts : ∀ w ∈ Ts, w.before args s = true) (hin : ∀ w ∈ u_ws C T N, w ∈ Ts) (hown : s.vm.findClass own = some m.cls) (hK : KK D cA s) (hH : HPr b0 D cA L H) (hq : o_gR L q ci k = some v) (hc : vwCl[ci]? = some (C, T, N)) (hk : k < N) (hlink : (Cond.fieldLink own index ref (T k).2.1 (T k).2.2.1).before args s = true) (hsame : ∀ x, s.fieldFound? (T k).1 (T k).2.1 (T k).2.2.1 = some x → s.fieldFound? ref (T k).2.1 (T k).2.2.1 = some x) (hdg : decode cc pc = .ok (.getfield index, 3))
    (kk : W p l e R s m args below meth c H locs cells slots Q (F0 m (pc + 3) ls (.ref (b0 + v) :: rest))) : W p l e R s m args below meth c H locs cells slots Q (F0 m pc ls (.ref (b0 + q) :: rest)) := r_g hx hb hts hin hown hK hH (o_gR_spec hq) hc hk hlink hsame hdg kk
theorem map_set_shv (b0 : Nat) (fs : List Value) (k : Nat) (v : Value) : (fs.set k v).map (shv b0) = (fs.map (shv b0)).set k (shv b0 v) := by rw [List.map_set]
theorem r_p {own ref C : String} {T : u_T} {N ci index q : Nat} {Ts : List Cond} {v : Value} (k : Nat) (hx : p.tables.exec = Jvm.exec) (hb : c.code = cc) (hts : ∀ w ∈ Ts, w.before args s = true) (hin : ∀ w ∈ u_ws C T N, w ∈ Ts) (ty0 : Nat → FieldType) (hty : ∀ k, k < N → parseFieldDescriptor (T k).2.2.1 = some (ty0 k)) (hnm : ∀ a, a < N → ∀ b, b < N → a ≠ b → (T a).2.1 ≠ (T b).2.1) (hown : s.vm.findClass own = some m.cls) (hK : KK D cA s) (hH : HPr b0 D cA L H) (hS0 : va_S (Ab b0) s.heap H locs) (hq : o_p L q ci k v = some L1) (hc : vwCl[ci]? = some (C, T, N)) (hk : k < N) (hlink : (Cond.fieldLink own index ref (T k).2.1 (T k).2.2.1).before args s = true) (hsame : ∀ x, s.fieldFound? (T k).1 (T k).2.1 (T k).2.2.1 = some x → s.fieldFound? ref (T k).2.1 (T k).2.2.1 = some x) (hfin : (T k).2.2.2 = false) {ty : FieldType} (hd : parseFieldDescriptor (T k).2.2.1 = some ty) (hn : narrow ty (shv b0 v) = shv b0 v) (hfit : fits ty (shv b0 v) = true) (hdg : decode cc pc = .ok (.putfield index, 3))
    (kk : ∀ (H1 : Heap) (locs1 : List Loc), HPr b0 D cA L1 H1 → va_S (Ab b0) s.heap H1 locs1 → W p l e R s m args below meth c H1 locs1 cells slots Q (F0 m (pc + 3) ls rest)) : W p l e R s m args below meth c H locs cells slots Q (F0 m pc ls (shv b0 v :: .ref (b0 + q) :: rest)) := by
  obtain ⟨fs, hL, hl, rfl⟩ := o_p_spec hq
  have hap := va_apart (own := own) hts hin ty0 hty hnm hK.1 hc
  obtain ⟨r, h1, cell, q1, q2, q3, q4⟩ := hH.2 q _ hL
  have hr : r = (C, T, N) := Option.some.inj (h1.symm.trans hc)
  subst hr
  obtain ⟨hS, hfc, kC, hkC, hkind⟩ := hK.1.1 ci _ hc
  obtain ⟨cf, kf, fi, f, hi, hsl⟩ := hS k hk
  have hlay := hts _ (hin _ (u_in_lay hk))
  unfold u_lay at hlay
  rw [if_neg (by rw [hfin]; decide)] at hlay
  have hst := (u_facts hfc hkC (u_lays hts hin hk) hi).1
  have h6 := u_store hfc hkC hkind hlay hi hd hn hfit
  refine W.putK hx hb (f := f) ⟨hown, hlink, ⟨_, _, _, hsame _ hi⟩, hst⟩ (by rw [q2]; exact h6) q1 q3 (by rw [hsl]; exact k2_hasslot (q4 k hk)) rfl rfl hdg fun H' e1 e2 e3 => ?_
  rw [hsl] at e1 ⊢
  have hlq : q < L.length := (List.getElem?_eq_some_iff.mp hL).1
  refine kk H' _ (hH.set hlq ⟨_, hc, ?_⟩ e2 e3) (hS0.put e2 e3 (Nat.le_add_right _ _))
  show t_OB _ _ _ _ _ (vp_V ((fs.set k v).map (shv b0)))
  rw [map_set_shv]
  exact t_OB.to (V := updV (vp_V (fs.map (shv b0))) k (shv b0 v)) ⟨_, e1, q2, q3, t_set q4 hap hk (shv b0 v)⟩ (fun j _ => vp_updV_set (by rw [List.length_map]; exact hl) (shv b0 v) j)
theorem r_pF {own ref C : String} {T : u_T} {N ci index q : Nat} {Ts : List Cond} {v : Value} (k : Nat) (hx : p.tables.exec = Jvm.exec) (hb : c.code = cc) (hts : ∀ w ∈ Ts, w.before args s = true) (hin : ∀ w ∈ u_ws C T N, w ∈ Ts) (ty0 : Nat → FieldType) (hty : ∀ k, k < N → parseFieldDescriptor (T k).2.2.1 = some (ty0 k)) (hnm : ∀ a, a < N → ∀ b, b < N → a ≠ b → (T a).2.1 ≠ (T b).2.1) (hown : s.vm.findClass own = some m.cls) (hK : KK D cA s) (hH : HPr b0 D cA L H) (hS0 : va_S (Ab b0) s.heap H locs) (hq : o_p L q ci k v = some L1) (hc : vwCl[ci]? = some (C, T, N)) (hk : k < N) (hlink : (Cond.fieldLink own index ref (T k).2.1 (T k).2.2.1).before args s = true) (hsame : ∀ x, s.fieldFound? (T k).1 (T k).2.1 (T k).2.2.1 = some x → s.fieldFound? ref (T k).2.1 (T k).2.2.1 = some x) (hfin : (T k).2.2.2 = true) (hin2 : meth.name = "<init>") (hdecl : (T k).1 = own) {ty : FieldType} (hd : parseFieldDescriptor (T k).2.2.1 = some ty) (hn : narrow ty (shv b0 v) = shv b0 v) (hfit : fits ty (shv b0 v) = true) (hdg : decode cc pc = .ok (.putfield index, 3))
    (kk : ∀ (H1 : Heap) (locs1 : List Loc), HPr b0 D cA L1 H1 → va_S (Ab b0) s.heap H1 locs1 → W p l e R s m args below meth c H1 locs1 cells slots Q (F0 m (pc + 3) ls rest)) : W p l e R s m args below meth c H locs cells slots Q (F0 m pc ls (shv b0 v :: .ref (b0 + q) :: rest)) := by
  obtain ⟨fs, hL, hl, rfl⟩ := o_p_spec hq
  have hap := va_apart (own := own) hts hin ty0 hty hnm hK.1 hc
  obtain ⟨r, h1, cell, q1, q2, q3, q4⟩ := hH.2 q _ hL
  have hr : r = (C, T, N) := Option.some.inj (h1.symm.trans hc)
  subst hr
  obtain ⟨hS, hfc, kC, hkC, hkind⟩ := hK.1.1 ci _ hc
  obtain ⟨cf, kf, fi, f, hi, hsl⟩ := hS k hk
  have hlay := hts _ (hin _ (u_in_lay hk))
  unfold u_lay at hlay
  rw [if_pos hfin] at hlay
  have hst := (u_facts hfc hkC (u_lays hts hin hk) hi).1
  have hcf : m.cls = cf := by
    obtain ⟨_, _, c', _, _, _, -, -, hf', -, -, -, hown2, -⟩ := Cond.laysFinal_spec hlay
    have e1 : c' = cf := by have := hi.symm.trans hf'; simp at this; exact this.1.symm
    rw [hdecl] at hown2
    rw [← e1]; exact Option.some.inj (hown.symm.trans hown2)
  have h6 := u_fits hfc hkC hkind (Or.inr hlay) hi hd hn hfit
  refine W.putFinK hx hb hown hlink (hsame _ hi) hst hcf hin2 (by rw [q2]; exact h6) q1 q3 (by rw [hsl]; exact k2_hasslot (q4 k hk)) rfl rfl hdg fun H' e1 e2 e3 => ?_
  rw [hsl] at e1 ⊢
  have hlq : q < L.length := (List.getElem?_eq_some_iff.mp hL).1
  refine kk H' _ (hH.set hlq ⟨_, hc, ?_⟩ e2 e3) (hS0.put e2 e3 (Nat.le_add_right _ _))
  show t_OB _ _ _ _ _ (vp_V ((fs.set k v).map (shv b0)))
  rw [map_set_shv]
  exact t_OB.to (V := updV (vp_V (fs.map (shv b0))) k (shv b0 v)) ⟨_, e1, q2, q3, t_set q4 hap hk (shv b0 v)⟩ (fun j _ => vp_updV_set (by rw [List.length_map]; exact hl) (shv b0 v) j)
theorem r_iald {q : Nat} {i v : Int32} (hx : p.tables.exec = Jvm.exec) (hb : c.code = cc) (hK : KK D cA s) (hH : HPr b0 D cA L H) (hq : o_aI L q 0 i = some v) (hdg : decode cc pc = .ok (.iaload, 1))
    (kk : W p l e R s m args below meth c H locs cells slots Q (F0 m (pc + 1) ls (.int v :: rest))) : W p l e R s m args below meth c H locs cells slots Q (F0 m pc ls (.int i :: .ref (b0 + q) :: rest)) := by
  obtain ⟨n, f, hL, hi, rfl⟩ := o_aI_spec hq
  exact va_iald (D := D) (cl := vwCl) (tys := tysA cA) (ws := [(b0 + q, .inl (cA 0, n, .inl f))]) hx hb hK.1 (va_P1 (hH.2 q _ hL)) 0 0 rfl rfl hi hdg kk
theorem r_bald {q : Nat} {i v : Int32} (hx : p.tables.exec = Jvm.exec) (hb : c.code = cc) (hK : KK D cA s) (hH : HPr b0 D cA L H) (hq : o_aI L q 1 i = some v) (hdg : decode cc pc = .ok (.baload, 1))
    (kk : W p l e R s m args below meth c H locs cells slots Q (F0 m (pc + 1) ls (.int v :: rest))) : W p l e R s m args below meth c H locs cells slots Q (F0 m pc ls (.int i :: .ref (b0 + q) :: rest)) := by
  obtain ⟨n, f, hL, hi, rfl⟩ := o_aI_spec hq
  exact va_bald (D := D) (cl := vwCl) (tys := tysA cA) (ws := [(b0 + q, .inl (cA 1, n, .inl f))]) hx hb hK.1 (va_P1 (hH.2 q _ hL)) 0 1 rfl rfl hi hdg kk
theorem r_zald {q : Nat} {i v : Int32} (hx : p.tables.exec = Jvm.exec) (hb : c.code = cc) (hK : KK D cA s) (hH : HPr b0 D cA L H) (hq : o_aI L q 2 i = some v) (hdg : decode cc pc = .ok (.baload, 1))
    (kk : W p l e R s m args below meth c H locs cells slots Q (F0 m (pc + 1) ls (.int v :: rest))) : W p l e R s m args below meth c H locs cells slots Q (F0 m pc ls (.int i :: .ref (b0 + q) :: rest)) := by
  obtain ⟨n, f, hL, hi, rfl⟩ := o_aI_spec hq
  exact va_zald (D := D) (cl := vwCl) (tys := tysA cA) (ws := [(b0 + q, .inl (cA 2, n, .inl f))]) hx hb hK.1 (va_P1 (hH.2 q _ hL)) 0 2 rfl rfl hi hdg kk
theorem upd_arr (cI : ClassId) (n : Nat) (f : Nat → Int32) (k : Nat) (x : Int32) : (vp_cell cI (n, .inl f)).setSlot k (.int x) = vp_cell cI (n, .inl (upd f k x)) := by
  rw [vp_cell_i, vp_cell_i, arrV_store]
  congr 2
  funext q
  by_cases hq : q = k
  · subst hq
    simp [updV, upd]
  · simp [updV, upd, hq]
theorem r_iast {q : Nat} {i x : Int32} (hx : p.tables.exec = Jvm.exec) (hb : c.code = cc) (hK : KK D cA s) (hH : HPr b0 D cA L H) (hS0 : va_S (Ab b0) s.heap H locs) (hq : o_sI L q 0 i x = some L1) (hdg : decode cc pc = .ok (.iastore, 1))
    (kk : ∀ (H1 : Heap) (locs1 : List Loc), HPr b0 D cA L1 H1 → va_S (Ab b0) s.heap H1 locs1 → W p l e R s m args below meth c H1 locs1 cells slots Q (F0 m (pc + 1) ls rest)) : W p l e R s m args below meth c H locs cells slots Q (F0 m pc ls (.int x :: .int i :: .ref (b0 + q) :: rest)) := by
  obtain ⟨n, f, hL, hi, rfl⟩ := o_sI_spec hq
  have hlq : q < L.length := (List.getElem?_eq_some_iff.mp hL).1
  refine W.iast hx hb (hH.2 q _ hL) ((hK.1.2 0 _ rfl).1 n (fun j => .int (f j))) (fun q => by cases q) (by show ¬ (i < 0 ∨ (arrV _ _ _).slots.size ≤ _); rw [arrV_size]; exact hi) rfl rfl hdg fun H1 e1 z oq => ?_
  exact kk H1 _ (hH.set hlq (e1.trans (congrArg some (upd_arr _ _ _ _ _))) z oq) (hS0.put z oq (Nat.le_add_right _ _))
theorem r_bast {q : Nat} {i x : Int32} (hx : p.tables.exec = Jvm.exec) (hb : c.code = cc) (hK : KK D cA s) (hH : HPr b0 D cA L H) (hS0 : va_S (Ab b0) s.heap H locs) (hq : o_sI L q 1 i (vp_nar .byte x) = some L1) (hdg : decode cc pc = .ok (.bastore, 1))
    (kk : ∀ (H1 : Heap) (locs1 : List Loc), HPr b0 D cA L1 H1 → va_S (Ab b0) s.heap H1 locs1 → W p l e R s m args below meth c H1 locs1 cells slots Q (F0 m (pc + 1) ls rest)) : W p l e R s m args below meth c H locs cells slots Q (F0 m pc ls (.int x :: .int i :: .ref (b0 + q) :: rest)) := by
  obtain ⟨n, f, hL, hi, rfl⟩ := o_sI_spec hq
  have hlq : q < L.length := (List.getElem?_eq_some_iff.mp hL).1
  refine W.bast hx hb (hH.2 q _ hL) ((hK.1.2 1 _ rfl).1 n (fun j => .int (f j))) (fun q => by cases q) (by show ¬ (i < 0 ∨ (arrV _ _ _).slots.size ≤ _); rw [arrV_size]; exact hi) rfl rfl hdg fun H1 e1 z oq => ?_
  exact kk H1 _ (hH.set hlq (e1.trans (congrArg some (upd_arr _ _ _ _ _))) z oq) (hS0.put z oq (Nat.le_add_right _ _))
theorem r_zast {q : Nat} {i x : Int32} (hx : p.tables.exec = Jvm.exec) (hb : c.code = cc) (hK : KK D cA s) (hH : HPr b0 D cA L H) (hS0 : va_S (Ab b0) s.heap H locs) (hq : o_sI L q 2 i (vp_nar .boolean x) = some L1) (hdg : decode cc pc = .ok (.bastore, 1))
    (kk : ∀ (H1 : Heap) (locs1 : List Loc), HPr b0 D cA L1 H1 → va_S (Ab b0) s.heap H1 locs1 → W p l e R s m args below meth c H1 locs1 cells slots Q (F0 m (pc + 1) ls rest)) : W p l e R s m args below meth c H locs cells slots Q (F0 m pc ls (.int x :: .int i :: .ref (b0 + q) :: rest)) := by
  obtain ⟨n, f, hL, hi, rfl⟩ := o_sI_spec hq
  have hlq : q < L.length := (List.getElem?_eq_some_iff.mp hL).1
  refine W.zast hx hb (hH.2 q _ hL) ((hK.1.2 2 _ rfl).1 n (fun j => .int (f j))) (fun q => by cases q) (by show ¬ (i < 0 ∨ (arrV _ _ _).slots.size ≤ _); rw [arrV_size]; exact hi) rfl rfl hdg fun H1 e1 z oq => ?_
  exact kk H1 _ (hH.set hlq (e1.trans (congrArg some (upd_arr _ _ _ _ _))) z oq) (hS0.put z oq (Nat.le_add_right _ _))
theorem r_len {q : Nat} {v : Int32} (hx : p.tables.exec = Jvm.exec) (hb : c.code = cc) (hK : KK D cA s) (hH : HPr b0 D cA L H) (hq : o_len L q 0 = some v) (hdg : decode cc pc = .ok (.arraylength, 1))
    (kk : W p l e R s m args below meth c H locs cells slots Q (F0 m (pc + 1) ls (.int v :: rest))) : W p l e R s m args below meth c H locs cells slots Q (F0 m pc ls (.ref (b0 + q) :: rest)) := by
  obtain ⟨n, f, hL, rfl⟩ := o_len_spec hq
  exact W.alen (n := Int32.ofNat n) hx hb (hH.2 q _ hL) ((hK.1.2 0 _ rfl).1 n (fun j => .int (f j))) (by show (arrV _ _ _).slots.size.toInt32 = _; rw [arrV_size]) rfl rfl hdg kk
theorem r_aald {q t : Nat} {C : String} {i : Int32} {v : Nat} (hx : p.tables.exec = Jvm.exec) (hb : c.code = cc) (hK : KK D cA s) (hH : HPr b0 D cA L H) (hq : o_aR L q t i = some v) (ht : (tysA cA)[t]? = some (cA t, .object C)) (hdg : decode cc pc = .ok (.aaload, 1))
    (kk : W p l e R s m args below meth c H locs cells slots Q (F0 m (pc + 1) ls (.ref (b0 + v) :: rest))) : W p l e R s m args below meth c H locs cells slots Q (F0 m pc ls (.int i :: .ref (b0 + q) :: rest)) := by
  obtain ⟨n, f, hL, hi, hv⟩ := o_aR_spec hq
  refine va_aldq (D := D) (cl := vwCl) (tys := tysA cA) (ws := [(b0 + q, .inl (cA t, n, .inr (.inr (.inr (.inr (fun j => (f j).map (fun i => b0 + i)))))))]) hx hb hK.1 (va_P1 (hH.2 q _ hL)) 0 t rfl ht hi hdg ?_
  rw [hv]
  exact kk
theorem r_aast {q t ci : Nat} {r : vw_C} {i : Int32} {v : Nat} (hx : p.tables.exec = Jvm.exec) (hb : c.code = cc) (hK : KK D cA s) (hH : HPr b0 D cA L H) (hS0 : va_S (Ab b0) s.heap H locs) (hq : o_sR L q t ci i v = some L1) (ht : (tysA cA)[t]? = some (cA t, .object r.1)) (hc : vwCl[ci]? = some r) (hdg : decode cc pc = .ok (.aastore, 1))
    (kk : ∀ (H1 : Heap) (locs1 : List Loc), HPr b0 D cA L1 H1 → va_S (Ab b0) s.heap H1 locs1 → W p l e R s m args below meth c H1 locs1 cells slots Q (F0 m (pc + 1) ls rest)) : W p l e R s m args below meth c H locs cells slots Q (F0 m pc ls (.ref (b0 + v) :: .int i :: .ref (b0 + q) :: rest)) := by
  obtain ⟨n, f, vs, hL, hV, hi, rfl⟩ := o_sR_spec hq
  have hlq : q < L.length := (List.getElem?_eq_some_iff.mp hL).1
  have hlt : i.toNatClampNeg < n := Nat.not_le.mp fun q => hi (Or.inr q)
  have h0 : ¬ i < 0 := fun q => hi (Or.inl q)
  obtain ⟨r', hr', cellV, g1, g2, g3, -⟩ := hH.2 v _ hV
  have hcls := (hK.1.1 ci r hc).2
  obtain ⟨kA, comp, k1, k2, k3, -⟩ := (hK.1.2 t _ ht).2
  have hcomp : comp = D.1 ci := Option.some.inj (k3.symm.trans hcls.1)
  subst hcomp
  obtain ⟨kC, hkC, -⟩ := hcls.2
  refine W.aast hx hb (hH.2 q _ hL) (fun q h => by cases h) (fun h => by cases h) k1 k2 rfl hkC ⟨h0, by show _ < (arrV _ _ _).slots.size; rw [arrV_size]; exact hlt⟩ g1 (fun q h => by rw [g3] at h; cases h) (by rw [g2]; exact hkC) (by rw [g2]; exact va_assign hcls) rfl rfl hdg fun H1 e1 z oq => ?_
  refine kk H1 _ (hH.set hlq (e1.trans (congrArg some ?_)) z oq) (hS0.put z oq (Nat.le_add_right _ _))
  rw [vp_cell_q, vp_cell_q, arrV_store]
  congr 2
  funext y
  by_cases hy : y = i.toNatClampNeg
  · subst hy
    simp [updV, va_up, va_rf]
  · simp [updV, va_up, hy]
theorem r_new {own C : String} {T : u_T} {N ci index : Nat} {Ts : List Cond} {fs : List Value} (hx : p.tables.exec = Jvm.exec) (hb : c.code = cc) (hts : ∀ w ∈ Ts, w.before args s = true) (hin : ∀ w ∈ u_ws C T N, w ∈ Ts) (ty : Nat → FieldType) (hty : ∀ k, k < N → parseFieldDescriptor (T k).2.2.1 = some (ty k)) (hown : s.vm.findClass own = some m.cls) (hcl : (Cond.classLink own index C).before args s = true) (hinst : (Cond.instantiable C N).before args s = true) (hini : (Cond.initialized C).before args s = true)
    (hK : KK D cA s) (hH : HPr b0 D cA L H) (hS : va_S (Ab b0) s.heap H locs) (hc : vwCl[ci]? = some (C, T, N)) (hfs : ∀ j, j < N → defaultValue (ty j) = vp_V fs j) (hsh : fs.map (shv b0) = fs) (hcells : cells + 1 ≤ R.cells) (hslots : slots + N ≤ R.slots) (hdg : decode cc pc = .ok (.new index, 3))
    (kk : ∀ (H1 : Heap), HPr b0 D cA (L ++ [.inr (.inr (ci, fs))]) H1 → va_S (Ab b0) s.heap H1 locs → W p l e R s m args below meth c H1 locs (cells + 1) (slots + N) Q (F0 m (pc + 3) ls (.ref (b0 + L.length) :: rest))) : W p l e R s m args below meth c H locs cells slots Q (F0 m pc ls rest) := by
  have hKn := hK.1.1 ci _ hc
  refine W.newcK hx hb hown hcl hinst hini rfl hdg hcells hslots hKn.2.1 hH.1 fun H1 kC hkC e1 z1 o1 => ?_
  refine kk H1 (hH.push ⟨_, hc, ?_⟩ z1 o1) ⟨Nat.le_trans hS.1 (by rw [z1, hH.1]; exact Nat.le_succ _), fun x h1 h2 => (o1 x (by have := Nat.lt_of_lt_of_le h1 hS.1; rw [hH.1] at this; exact this)).trans (hS.2.1 x h1 h2), hS.2.2⟩
  show t_OB _ _ _ _ _ (vp_V (fs.map (shv b0)))
  rw [hsh]
  exact (u_born ty hts hin hKn hkC e1 hty).to hfs
theorem r_newa {atype : ArrayType} {ty : FieldType} {n : Int32} {N' : Nat} (t : Nat) (hx : p.tables.exec = Jvm.exec) (hb : c.code = cc) (harr : (Cond.arrayClass ty).before args s = true) (hty : newarray.typeOf atype = ty) (hdv : defaultValue ty = .int 0) (hK : KK D cA s) (ht : (tysA cA)[t]? = some (cA t, ty)) (hobj : ∀ C, ty ≠ .object C) (hH : HPr b0 D cA L H) (hS : va_S (Ab b0) s.heap H locs) (hn : ¬ n < 0) (hN : n.toNatClampNeg = N') (hbytes : N' * componentBytes ty ≤ 536870912) (hcells : cells + 1 ≤ R.cells) (hslots : slots + N' ≤ R.slots) (hdg : decode cc pc = .ok (.newarray atype, 2))
    (kk : ∀ (H1 : Heap), HPr b0 D cA (L ++ [.inl (t, N', fun _ => 0)]) H1 → va_S (Ab b0) s.heap H1 locs → W p l e R s m args below meth c H1 locs (cells + 1) (slots + N') Q (F0 m (pc + 2) ls (.ref (b0 + L.length) :: rest))) : W p l e R s m args below meth c H locs cells slots Q (F0 m pc ls (.int n :: rest)) := by
  subst hty
  refine va_newaK hx hb harr rfl hdg rfl hn hN hbytes hcells hslots hH.1 fun H1 cA1 e1 z1 o1 hAr hNm => ?_
  have hra := (hK.1.2 t _ ht).2
  have hra2 : s.vm.findClass ("[" ++ (newarray.typeOf atype).toString) = some (cA t) := by
    unfold va_RA at hra
    split at hra
    · rename_i C hC; exact absurd hC (hobj C)
    · exact hra
  have hcl : cA1 = cA t := Option.some.inj (hNm.symm.trans hra2)
  subst hcl
  refine kk H1 (hH.push ?_ z1 o1) ⟨Nat.le_trans hS.1 (by rw [z1, hH.1]; exact Nat.le_succ _), fun x h1 h2 => (o1 x (by have := Nat.lt_of_lt_of_le h1 hS.1; rw [hH.1] at this; exact this)).trans (hS.2.1 x h1 h2), hS.2.2⟩
  show H1[b0 + L.length]? = some (vp_cell _ _)
  rw [e1, hdv]
  rfl
theorem r_anew {own C : String} {index : Nat} {n : Int32} {N' : Nat} (t : Nat) (hx : p.tables.exec = Jvm.exec) (hb : c.code = cc) (hown : s.vm.findClass own = some m.cls) (hclink : (Cond.classLink own index C).before args s = true) (hover : (Cond.arrayOver (.object C)).before args s = true) (hK : KK D cA s) (ht : (tysA cA)[t]? = some (cA t, .object C)) (hH : HPr b0 D cA L H) (hS : va_S (Ab b0) s.heap H locs) (hn : ¬ n < 0) (hN : n.toNatClampNeg = N') (hbytes : N' * 4 ≤ 536870912) (hcells : cells + 1 ≤ R.cells) (hslots : slots + N' ≤ R.slots) (hdg : decode cc pc = .ok (.anewarray index, 3))
    (kk : ∀ (H1 : Heap), HPr b0 D cA (L ++ [.inr (.inl (t, N', fun _ => none))]) H1 → va_S (Ab b0) s.heap H1 locs → W p l e R s m args below meth c H1 locs (cells + 1) (slots + N') Q (F0 m (pc + 3) ls (.ref (b0 + L.length) :: rest))) : W p l e R s m args below meth c H locs cells slots Q (F0 m pc ls (.int n :: rest)) := by
  subst hN
  refine W.anew hx hb hown hclink hover rfl hdg rfl hn hbytes hcells hslots fun cA1 kA comp f1 f2 f3 f4 => ?_
  obtain ⟨kA2, comp2, k1, k2, k3, k4⟩ := (hK.1.2 t _ ht).2
  have hcl : cA1 = cA t := Option.some.inj (f1.symm.trans k4)
  subst hcl
  rw [hH.1]
  refine kk _ (hH.push ?_ (by rw [Array.size_push, hH.1]) (fun q hq => by rw [Array.getElem?_push, if_neg (by rw [hH.1]; exact Nat.ne_of_lt hq)])) ⟨Nat.le_trans hS.1 (by rw [Array.size_push]; exact Nat.le_succ _), fun x h1 h2 => by rw [Array.getElem?_push, if_neg (Nat.ne_of_lt (Nat.lt_of_lt_of_le h1 hS.1))]; exact hS.2.1 x h1 h2, hS.2.2⟩
  show (H.push _)[b0 + L.length]? = some (vp_cell _ _)
  rw [← hH.1, Array.getElem?_push, if_pos rfl]
  congr 1
  rw [vp_cell_q]
  unfold arrV
  congr 1
  apply Array.ext
  · simp
  · intro i h1 h2
    simp [va_rf]
theorem r_cp {own : String} {index q0 q1 : Nat} {sp dp n : Int32} (hx : p.tables.exec = Jvm.exec) (hb : c.code = cc) (hml : c.maxLocals = ls.size) (hown : s.vm.findClass own = some m.cls) (hlink : (Cond.methodLink own index arraycopyName).before args s = true) (hnat : (Cond.native arraycopyName).before args s = true) (hstat : (Cond.static arraycopyName).before args s = true) (hini : (Cond.initialized "java/lang/System").before args s = true)
    (hK : KK D cA s) (hH : HPr b0 D cA L H) (hS : va_S (Ab b0) s.heap H locs) (hq : o_cp L q0 sp q1 dp n = some L1) (hframes : 1 ≤ R.frames) (hlocals : (rest.map fun v => v.category).sum + (nativeFrameWords "java/lang/System" "arraycopy" 5 + 11) ≤ R.locals) (hdg : decode cc pc = .ok (.invokestatic index, 3))
    (kk : ∀ (H1 : Heap) (locs1 : List Loc), HPr b0 D cA L1 H1 → va_S (Ab b0) s.heap H1 locs1 → W p l e R s m args below meth c H1 locs1 cells slots Q (F0 m (pc + 3) ls rest)) : W p l e R s m args below meth c H locs cells slots Q (F0 m pc ls (.int n :: .int dp :: .ref (b0 + q1) :: .int sp :: .ref (b0 + q0) :: rest)) := by
  obtain ⟨n0, f, n1, g, hL0, hL1, ⟨h1, h2, h3⟩, h4, h5, rfl⟩ := o_cp_spec hq
  have nn : ∀ z : Int32, ¬ z < 0 → z.toInt = (z.toNatClampNeg : Int) := by
    intro z hz
    have hz0 : (0 : Int) ≤ z.toInt := by
      have := Int32.not_lt.mp hz
      simpa using Int32.le_iff_toInt_le.mp this
    show z.toInt = ((z.toInt.toNat : Nat) : Int)
    omega
  intro T hT X
  have hc0 : H[b0 + q0]? = some (vp_cell (cA 0) (n0, .inl f)) := hH.2 q0 _ hL0
  have hc1 : H[b0 + q1]? = some (vp_cell (cA 0) (n1, .inl g)) := hH.2 q1 _ hL1
  have ht0 : (tysA cA)[0]? = some (cA 0, .int) := rfl
  obtain ⟨-, k0, hk0, cm0, hkk0⟩ := (hK.1.2 0 _ ht0).1 n0 (fun j => .int (f j))
  obtain ⟨-, k1, hk1, cm1, hkk1⟩ := (hK.1.2 0 _ ht0).1 n1 (fun j => .int (g j))
  obtain ⟨vm', X', step⟩ := X.arraycopy hx hown hlink hnat hstat hini (src := b0 + q0) (dst := b0 + q1) (cs := vp_cell (cA 0) (n0, .inl f)) (cd := vp_cell (cA 0) (n1, .inl g)) (srcPos := sp) (destPos := dp) (n := n) (by rw [hT]; exact hc0) (by rw [hT]; exact hc1)
    (fun _ h => by cases h) (fun _ h => by cases h) (fun h => by cases h) (fun h => by cases h) hk0 hk1 hkk0 hkk1 rfl h1 h2 h3
    (by rw [nn sp h1, nn n h3]; show ¬ _ > ((arrV (cA 0) n0 (fun j => .int (f j))).slots.size : Int); rw [arrV_size]; omega)
    (by rw [nn dp h2, nn n h3]; show ¬ _ > ((arrV (cA 0) n1 (fun j => .int (g j))).slots.size : Int); rw [arrV_size]; omega)
    (fun vm₁ _ i hi => by
      have e : (vp_cell (cA 0) (n0, .inl f)).slots.getD (sp.toNatClampNeg + i) .null = .int (f (sp.toNatClampNeg + i)) := by
        show (arrV (cA 0) n0 (fun j => .int (f j))).slots.getD _ _ = _
        rw [Array.getD_eq_getD_getElem?, arrV_read _ _ (by omega)]
        rfl
      refine ⟨?_, ?_⟩
      · rw [e]
        rfl
      · rw [e]
        exact trivial)
    (g := F0 m pc ls (.int n :: .int dp :: .ref (b0 + q1) :: .int sp :: .ref (b0 + q0) :: rest)) rfl (by rw [hml]) (rest := rest) rfl (by rw [hb]; exact hdg) hframes (by show 2 * 0 + _ + _ ≤ _; omega)
  have e1 : copied (vp_cell (cA 0) (n0, .inl f)) (vp_cell (cA 0) (n1, .inl g)) sp dp n = vp_cell (cA 0) (n1, .inl (va_cpy f g sp.toNatClampNeg dp.toNatClampNeg n.toNatClampNeg)) := va_copied (fun z => .int z) (cA 0) (cA 0) f g h4
  rw [e1] at X' step
  have hl : b0 + q1 < H.size := (Array.getElem?_eq_some_iff.mp hc1).1
  have hheap : ((T.setVm vm').setCell (b0 + q1) (vp_cell (cA 0) (n1, .inl (va_cpy f g sp.toNatClampNeg dp.toNatClampNeg n.toNatClampNeg)))).heap = H.setIfInBounds (b0 + q1) (vp_cell (cA 0) (n1, .inl (va_cpy f g sp.toNatClampNeg dp.toNatClampNeg n.toNatClampNeg))) := by rw [← hT]; rfl
  have oq : ∀ q : Nat, q ≠ b0 + q1 → (H.setIfInBounds (b0 + q1) (vp_cell (cA 0) (n1, .inl (va_cpy f g sp.toNatClampNeg dp.toNatClampNeg n.toNatClampNeg))))[q]? = H[q]? := fun q hq => by simp [Array.getElem?_setIfInBounds, Ne.symm hq]
  obtain ⟨t, a1, b1⟩ := kk _ _ (hH.set (List.getElem?_eq_some_iff.mp hL1).1 (show (H.setIfInBounds (b0 + q1) _)[b0 + q1]? = some _ by simp [Array.getElem?_setIfInBounds, hl]) (by simp) oq) ⟨by simp; exact hS.1, fun q g1 g2 => by
      rw [oq q (fun e => g2 (by rw [e]; exact Nat.le_add_right _ _))]
      exact hS.2.1 q g1 g2, fun q hq => by
      rcases List.mem_append.mp hq with h | h
      · exact hS.2.2 q h
      · obtain ⟨z, -, hz⟩ := List.mem_map.mp h
        rw [← hz]
        exact Nat.le_add_right _ _⟩ _ hheap X'
  exact ⟨t, step t a1, b1⟩
/-- behind a call -/
theorem r_call {rv : Option Value} {st0 : List Value} {a : Array Value} {mc ms : Nat} (hr : va_Run p l e R s m args below meth c H locs cells slots mc ms (F0 m pc ls st0) rest (Qk b0 D cA rv L1 a) (Ab b0)) (hS : va_S (Ab b0) s.heap H locs)
    (kk : ∀ (H1 : Heap) (locs1 : List Loc), HPr b0 D cA L1 H1 → va_S (Ab b0) s.heap H1 locs1 → W p l e R s m args below meth c H1 locs1 (cells + mc) (slots + ms) Q (F0 m (pc + 3) ls (rv.toList ++ rest))) : W p l e R s m args below meth c H locs cells slots Q (F0 m pc ls st0) := by
  intro T hT X
  obtain ⟨v, st₀, t, T', L, h0, X', hL, e1, e2, ⟨hv, hH', hz, hk⟩, st⟩ := hr T hT X
  cases hv
  rw [h0] at hz hk
  obtain ⟨t2, a1, b1⟩ := kk T'.heap (locs ++ L) (by rw [e1]; exact hH')
    ⟨Nat.le_trans hS.1 (by rw [e1]; exact hz), fun q h1 h2 => by rw [e1, hk q (Nat.lt_of_lt_of_le h1 hS.1) h2]; exact hS.2.1 q h1 h2, fun q hq => by
      rcases List.mem_append.mp hq with h | h
      · exact hS.2.2 q h
      · exact hL q h⟩ T' rfl X'
  exact ⟨t2, st t2 a1, b1⟩
theorem pre_V {q ci : Nat} {r : vw_C} {As : List Value} {u : Unit} (hK : KK D cA s) (hH : HPr b0 D cA L H) (ho : o_ob L q ci = some u) (hc : vwCl[ci]? = some r) : PreV s H r.1 (b0 + q) (Pk b0 D cA (Value.ref (b0 + q) :: As) L) As := by
  obtain ⟨fs, hL⟩ := o_ob_spec ho
  exact ⟨Pk_blind, va_recv (ws := [(b0 + q, .inr (ci, fs.map (shv b0)))]) (q0 := 0) hK.1 (va_P1 (hH.2 q _ hL)) hc rfl, fun U hU hW => ⟨rfl, by rw [hU]; exact hH, KK.moved hW.alike hK⟩⟩
theorem pre_S {As : List Value} (hK : KK D cA s) (hH : HPr b0 D cA L H) : PreS s H (Pk b0 D cA As L) As :=
  ⟨Pk_blind, fun U hU hW => ⟨rfl, by rw [hU]; exact hH, KK.moved hW.alike hK⟩⟩
end RW
/-- a switch's word: of a number that isn't k -/
theorem sw_ne {x : Int32} {k : Int} {n : Int32} (hn : n.toInt = k) (h : ¬ x = n) : x.toInt ≠ k := fun e => h (Int32.toInt_inj.mp (e.trans hn.symm))
/-- the machine at a place of a method, over all heaps that hold L -/
def WB (b0 : Nat) (D : va_G) (cA : Nat → ClassId) (p : Program) (l : Launch) (e : Env) (R : Room) (s : State) (m : MethodId) (args : Array Value) (below : List Frame) (meth : Method) (c : Code) (nL ce sl : Nat) (Q : State → Prop) (pc : Nat) (lv : List (Nat × Value)) (st : List Value) (L : HL) : Prop :=
  ∀ (H : Heap) (locs : List Loc) (ls : Array Slot), HPr b0 D cA L H → va_S (Ab b0) s.heap H locs → lv_has ls nL lv → W p l e R s m args below meth c H locs ce sl Q (F0 m pc ls st)
/-- what holds in a method's body -/
def Cx (D : va_G) (cA : Nat → ClassId) (p : Program) (s : State) (m : MethodId) (args : Array Value) (meth : Method) (c : Code) (cc : ByteArray) (nL : Nat) (own : String) (Ts : List Cond) (ret : Option FieldType) : Prop :=
  p.tables.exec = Jvm.exec ∧ c.code = cc ∧ c.maxLocals = nL ∧ s.vm.findClass own = some m.cls ∧ (∀ w ∈ Ts, w.before args s = true) ∧ KK D cA s ∧ meth.sig.returnType = ret ∧ meth.locks = false
section RC
variable {p : Program} {l : Launch} {e : Env} {R : Room} {s : State} {m : MethodId} {args : Array Value} {below : List Frame} {meth : Method} {c : Code} {H : Heap} {locs : List Loc} {cells slots : Nat} {Q : State → Prop}
variable {pc : Nat} {ls : Array Slot} {rest st0 : List Value} {b0 : Nat} {D : va_G} {cA : Nat → ClassId} {L1 : HL} {a : Array Value} {mc ms : Nat}
theorem r_callI {r : Int32} (hr : va_Run p l e R s m args below meth c H locs cells slots mc ms (F0 m pc ls st0) rest (Qk b0 D cA (some (.int r)) L1 a) (Ab b0)) (hS : va_S (Ab b0) s.heap H locs)
    (kk : ∀ (H1 : Heap) (locs1 : List Loc), HPr b0 D cA L1 H1 → va_S (Ab b0) s.heap H1 locs1 → W p l e R s m args below meth c H1 locs1 (cells + mc) (slots + ms) Q (F0 m (pc + 3) ls (.int r :: rest))) : W p l e R s m args below meth c H locs cells slots Q (F0 m pc ls st0) := r_call hr hS kk
theorem r_callJ {r : Int64} (hr : va_Run p l e R s m args below meth c H locs cells slots mc ms (F0 m pc ls st0) rest (Qk b0 D cA (some (.long r)) L1 a) (Ab b0)) (hS : va_S (Ab b0) s.heap H locs)
    (kk : ∀ (H1 : Heap) (locs1 : List Loc), HPr b0 D cA L1 H1 → va_S (Ab b0) s.heap H1 locs1 → W p l e R s m args below meth c H1 locs1 (cells + mc) (slots + ms) Q (F0 m (pc + 3) ls (.long r :: rest))) : W p l e R s m args below meth c H locs cells slots Q (F0 m pc ls st0) := r_call hr hS kk
theorem r_callR {r : Nat} (hr : va_Run p l e R s m args below meth c H locs cells slots mc ms (F0 m pc ls st0) rest (Qk b0 D cA (some (.ref (b0 + r))) L1 a) (Ab b0)) (hS : va_S (Ab b0) s.heap H locs)
    (kk : ∀ (H1 : Heap) (locs1 : List Loc), HPr b0 D cA L1 H1 → va_S (Ab b0) s.heap H1 locs1 → W p l e R s m args below meth c H1 locs1 (cells + mc) (slots + ms) Q (F0 m (pc + 3) ls (.ref (b0 + r) :: rest))) : W p l e R s m args below meth c H locs cells slots Q (F0 m pc ls st0) := r_call hr hS kk
theorem r_callV (hr : va_Run p l e R s m args below meth c H locs cells slots mc ms (F0 m pc ls st0) rest (Qk b0 D cA none L1 a) (Ab b0)) (hS : va_S (Ab b0) s.heap H locs)
    (kk : ∀ (H1 : Heap) (locs1 : List Loc), HPr b0 D cA L1 H1 → va_S (Ab b0) s.heap H1 locs1 → W p l e R s m args below meth c H1 locs1 (cells + mc) (slots + ms) Q (F0 m (pc + 3) ls rest)) : W p l e R s m args below meth c H locs cells slots Q (F0 m pc ls st0) := r_call hr hS kk
end RC
theorem rm_ok {a d maxL mc ms mc' ms' : Nat} (h : a + 1 ≤ d) (hm : maxL ≤ 20) : (RM a mc ms).frames + 1 ≤ (RM d mc' ms').frames ∧ 8 + (maxL + 11) + (RM a mc ms).locals ≤ (RM d mc' ms').locals := ⟨h, by show 8 + (maxL + 11) + 40 * a ≤ 40 * d; omega⟩
def o_b (x : Int32) : Option Unit := if x = 0 ∨ x = 1 then some () else none
theorem o_b_nar {x : Int32} {u : Unit} (h : o_b x = some u) : narrow .boolean (.int x) = .int x := by
  unfold o_b at h
  split at h
  · rename_i h1
    rcases h1 with rfl | rfl <;> rfl
  · cases h
def o_x (n : Nat) (xs : Nat → Int32) (i : Int32) : Option Int32 := if ¬ (i < 0 ∨ n ≤ i.toNatClampNeg) then some (xs i.toNatClampNeg) else none
theorem o_x_spec {n : Nat} {xs : Nat → Int32} {i v : Int32} (h : o_x n xs i = some v) : vp_in i n ∧ v = xs i.toNatClampNeg := by
  unfold o_x at h
  split at h
  · rename_i h1
    cases h
    exact ⟨h1, rfl⟩
  · cases h

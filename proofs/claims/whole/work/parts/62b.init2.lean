/-! what the constructors make: the rows of moments, the class, the reference -/
abbrev c3 : SC := .inr (.inr (3, [.null, .null, .int 0]))
theorem a_len2 {A D C : HL} {x y : SC} {n k : Nat} (hA : A.length = n) (hD : D.length = 5) (hC : C.length = k) : (A ++ x :: (D ++ y :: C)).length = n + 7 + k := by
  rw [List.length_append, List.length_cons, List.length_append, List.length_cons, hA, hD, hC]
  omega
theorem a_row (F : Nat) {A D C : HL} {fs : List Value} {f : Nat → Option Nat} {n k j : Nat} {i : Int32} (K : HL → Option HL) (hA : A.length = n) (hg : fs[1]? = some (.ref (n + 1 + 5))) (hD : D.length = 5) (hC : C.length = k) (hj : i.toNatClampNeg = j) (hi : ¬ (i < 0 ∨ 10 ≤ i.toNatClampNeg)) :
    ((o_gR (A ++ (.inr (.inr (3, fs)) : SC) :: (D ++ (.inr (.inl (3, 10, f)) : SC) :: C)) n 3 1).bind fun v => (fX2_init F ((A ++ (.inr (.inr (3, fs)) : SC) :: (D ++ (.inr (.inl (3, 10, f)) : SC) :: C)) ++ [(.inr (.inr (2, [.null, .null, .null, .null, .int 0])) : SC)]) (A ++ (.inr (.inr (3, fs)) : SC) :: (D ++ (.inr (.inl (3, 10, f)) : SC) :: C)).length).bind fun z => (o_sR z v 3 2 i (A ++ (.inr (.inr (3, fs)) : SC) :: (D ++ (.inr (.inl (3, 10, f)) : SC) :: C)).length).bind K)
    = K (A ++ (.inr (.inr (3, fs)) : SC) :: (D ++ (.inr (.inl (3, 10, va_up f j (some (n + 7 + k)))) : SC) :: (C ++ M2 (n + 7 + k)))) := by
  have l := a_len2 (x := (.inr (.inr (3, fs)) : SC)) (y := (.inr (.inl (3, 10, f)) : SC)) hA hD hC
  have h2 := i2 F _ _ l
  unfold c2 at h2
  rw [l, a_gR hA hg, Option.bind_some, h2, Option.bind_some]
  have e : (A ++ (.inr (.inr (3, fs)) : SC) :: (D ++ (.inr (.inl (3, 10, f)) : SC) :: C)) ++ M2 (n + 7 + k) = (A ++ (.inr (.inr (3, fs)) : SC) :: D) ++ (.inr (.inl (3, 10, f)) : SC) :: (C ++ M2 (n + 7 + k)) := by
    simp only [List.append_assoc, List.cons_append]
  have hw : ((A ++ (.inr (.inr (3, fs)) : SC) :: D) ++ (.inr (.inl (3, 10, f)) : SC) :: (C ++ M2 (n + 7 + k)))[n + 7 + k]? = some (.inr (.inr (2, [.ref (n + 7 + k + 1 + 0), .ref (n + 7 + k + 1 + 1), .ref (n + 7 + k + 1 + 2), .ref (n + 7 + k + 1 + 3), .int 0]))) := by
    rw [← e]
    exact a_get l
  have hq : (A ++ (.inr (.inr (3, fs)) : SC) :: D).length = n + 1 + 5 := by rw [List.length_append, List.length_cons, hA, hD]
  rw [e, a_sR hq hi hw, Option.bind_some, hj]
  congr 1
  simp only [List.append_assoc, List.cons_append]

def rw3 (n : Nat) : Nat → Option Nat := (va_up (va_up (va_up (va_up (va_up (va_up (va_up (va_up (va_up (va_up (fun _ => none) 0 (some (n + 7 + 0))) 1 (some (n + 7 + 5))) 2 (some (n + 7 + 10))) 3 (some (n + 7 + 15))) 4 (some (n + 7 + 20))) 5 (some (n + 7 + 25))) 6 (some (n + 7 + 30))) 7 (some (n + 7 + 35))) 8 (some (n + 7 + 40))) 9 (some (n + 7 + 45)))
def M3 (n : Nat) : HL := (.inr (.inr (3, [.ref (n + 1 + 0), .ref (n + 1 + 5), .int 0])) : SC) :: (([] ++ M2 (n + 1 + 0)) ++ (.inr (.inl (3, 10, rw3 n)) : SC) :: (((((((((([] ++ M2 (n + 7 + 0)) ++ M2 (n + 7 + 5)) ++ M2 (n + 7 + 10)) ++ M2 (n + 7 + 15)) ++ M2 (n + 7 + 20)) ++ M2 (n + 7 + 25)) ++ M2 (n + 7 + 30)) ++ M2 (n + 7 + 35)) ++ M2 (n + 7 + 40)) ++ M2 (n + 7 + 45)))
set_option maxHeartbeats 4000000 in
set_option maxRecDepth 100000 in
theorem i3 (F : Nat) (L : HL) (n : Nat) (hn : L.length = n) : fX3_init F (L ++ [c3]) n = some (L ++ M3 n) := by
  unfold fX3_init c3
  rw [a_ob hn, Option.bind_some]
  rw [a_call (i2 F) _ hn (Nat.le_of_ble_eq_true rfl) (b := 0) rfl, a_np (b := 5) _ hn (Nat.le_of_ble_eq_true rfl) rfl]
  rw [a_row F (j := 0) (k := 0) _ hn rfl rfl rfl rfl (by decide)]
  rw [a_row F (j := 1) (k := 5) _ hn rfl rfl rfl rfl (by decide)]
  rw [a_row F (j := 2) (k := 10) _ hn rfl rfl rfl rfl (by decide)]
  rw [a_row F (j := 3) (k := 15) _ hn rfl rfl rfl rfl (by decide)]
  rw [a_row F (j := 4) (k := 20) _ hn rfl rfl rfl rfl (by decide)]
  rw [a_row F (j := 5) (k := 25) _ hn rfl rfl rfl rfl (by decide)]
  rw [a_row F (j := 6) (k := 30) _ hn rfl rfl rfl rfl (by decide)]
  rw [a_row F (j := 7) (k := 35) _ hn rfl rfl rfl rfl (by decide)]
  rw [a_row F (j := 8) (k := 40) _ hn rfl rfl rfl rfl (by decide)]
  rw [a_row F (j := 9) (k := 45) _ hn rfl rfl rfl rfl (by decide)]
  rfl
theorem M3_len (n : Nat) : (M3 n).length = 57 := rfl
/-- one image -/
theorem a_img (F : Nat) {P C : HL} {f : Nat → Option Nat} {p k j : Nat} {i : Int32} (K : HL → Option HL) (hP : P.length = p) (hC : C.length = k) (hj : i.toNatClampNeg = j) (hi : ¬ (i < 0 ∨ 2 ≤ i.toNatClampNeg)) :
    ((fX3_init F ((P ++ (.inr (.inl (4, 2, f)) : SC) :: C) ++ [(.inr (.inr (3, [.null, .null, .int 0])) : SC)]) (P ++ (.inr (.inl (4, 2, f)) : SC) :: C).length).bind fun z => (o_sR z P.length 4 3 i (P ++ (.inr (.inl (4, 2, f)) : SC) :: C).length).bind K)
    = K (P ++ (.inr (.inl (4, 2, va_up f j (some (p + 1 + k)))) : SC) :: (C ++ M3 (p + 1 + k))) := by
  have l : (P ++ (.inr (.inl (4, 2, f)) : SC) :: C).length = p + 1 + k := by rw [List.length_append, List.length_cons, hP, hC]; omega
  have h3 := i3 F _ _ l
  unfold c3 at h3
  rw [l, h3, Option.bind_some, hP]
  have e : (P ++ (.inr (.inl (4, 2, f)) : SC) :: C) ++ M3 (p + 1 + k) = P ++ (.inr (.inl (4, 2, f)) : SC) :: (C ++ M3 (p + 1 + k)) := by
    simp only [List.append_assoc, List.cons_append]
  have hw : (P ++ (.inr (.inl (4, 2, f)) : SC) :: (C ++ M3 (p + 1 + k)))[p + 1 + k]? = some (.inr (.inr (3, [.ref (p + 1 + k + 1 + 0), .ref (p + 1 + k + 1 + 5), .int 0]))) := by
    rw [← e]
    exact a_get l
  rw [e, a_sR hP hi hw, Option.bind_some, hj]
/-- a row that was made before is told to the object -/
theorem a_pl {A B C : HL} {q ci k : Nat} {fs : List Value} (K : HL → Option HL) (hq : A.length = q) (hk : k < fs.length) {b : Nat} (hb : B.length = b) : (o_p ((A ++ (.inr (.inr (ci, fs)) : SC) :: B) ++ C) q ci k (.ref (A ++ (.inr (.inr (ci, fs)) : SC) :: B).length)).bind K = K (A ++ (.inr (.inr (ci, fs.set k (.ref (q + 1 + b)))) : SC) :: (B ++ C)) := by
  have l : (A ++ (.inr (.inr (ci, fs)) : SC) :: B).length = q + 1 + b := by rw [List.length_append, List.length_cons, hq, hb]; omega
  rw [l, a_pv hq hk, Option.bind_some]
def rw4 : Nat → Option Nat := va_up (va_up (fun _ => none) 0 (some (72 + 1 + 0))) 1 (some (72 + 1 + 57))
def B71 : HL := ((([] ++ M6 1) ++ M7 3) ++ M7 9) ++ M3 15
def B186 : HL := B71 ++ (.inr (.inl (4, 2, rw4)) : SC) :: (([] ++ M3 73) ++ M3 130)
theorem B71_len : B71.length = 71 := rfl
set_option maxRecDepth 100000 in
theorem B186_len : B186.length = 186 := rfl
def M9 : HL := (.inr (.inr (8, [.ref 1, .ref 3, .ref 9, .ref 15, .ref 72, .int 0, .ref 187, .ref 196, .ref 205, .long 0])) : SC) :: (((B186 ++ M8 187) ++ M0 196) ++ M1 205)
abbrev c8 : SC := .inr (.inr (8, [.null, .null, .null, .null, .null, .int 0, .null, .null, .null, .long 0]))
set_option maxHeartbeats 4000000 in
set_option maxRecDepth 100000 in
theorem i9 (F : Nat) : fX9_init F ([] ++ [c8]) 0 = some M9 := by
  unfold fX9_init c8
  have h0 : ([] : HL).length = 0 := rfl
  rw [a_ob h0, Option.bind_some]
  rw [a_call (i6 F) _ h0 (Nat.le_of_ble_eq_true rfl) (b := 0) rfl]
  rw [a_call (i7 F) _ h0 (Nat.le_of_ble_eq_true rfl) (b := 2) rfl]
  rw [a_call (i7 F) _ h0 (Nat.le_of_ble_eq_true rfl) (b := 8) rfl]
  rw [a_call (i3 F) _ h0 (Nat.le_of_ble_eq_true rfl) (b := 14) rfl]
  rw [show (([] ++ M6 (0 + 1 + 0) ++ M7 (0 + 1 + 2) ++ M7 (0 + 1 + 8) ++ M3 (0 + 1 + 14)) : HL) = B71 from rfl]
  rw [a_img F (p := 72) (j := 0) (k := 0) _ rfl rfl rfl (by decide), a_img F (p := 72) (j := 1) (k := 57) _ rfl rfl rfl (by decide)]
  rw [a_pl _ h0 (Nat.le_of_ble_eq_true rfl) B71_len]
  rw [show (B71 ++ (.inr (.inl (4, 2, va_up (va_up (fun _ => none) 0 (some (72 + 1 + 0))) 1 (some (72 + 1 + 57)))) : SC) :: (([] ++ M3 (72 + 1 + 0)) ++ M3 (72 + 1 + 57))) = B186 from rfl]
  rw [a_call (i8 F) _ h0 (Nat.le_of_ble_eq_true rfl) B186_len]
  rw [a_call (i0 F) _ h0 (Nat.le_of_ble_eq_true rfl) (b := 195) rfl]
  rw [a_call (i1 F) _ h0 (Nat.le_of_ble_eq_true rfl) (b := 204) rfl]
  rfl
set_option maxRecDepth 100000 in
theorem M9_len : M9.length = 209 := rfl
abbrev c9 : SC := .inr (.inr (9, [.null, .int 0, .null, .null, .null, .null, .null, .null, .null, .null, .int 0, .int 0, .int 0, .int 0, .int 0, .int 0, .null, .null, .null, .null, .null, .null, .null, .null, .int 0, .long 0]))
def M10 : HL := (.inr (.inr (9, [.ref 210, .int 0, .ref 211, .ref 212, .ref 213, .ref 214, .ref 215, .ref 216, .ref 217, .ref 218, .int 0, .int 0, .int 0, .int 0, .int 0, .int 0, .ref 219, .ref 220, .ref 221, .ref 222, .ref 223, .ref 224, .ref 225, .ref 226, .int 0, .long 0])) : SC) :: [.inl (1, 120, fun _ => 0), .inl (0, 2, upd (fun _ => 0) 0 4), .inl (0, 2, fun _ => 0), .inl (0, 18, fun _ => 0), .inl (0, 18, fun _ => 0), .inl (0, 18, fun _ => 0), .inl (0, 2, fun _ => 0), .inl (0, 12, fun _ => 0), .inl (0, 12, fun _ => 0), .inl (0, 34, fun _ => 0), .inl (0, 3, fun _ => 0), .inl (0, 1020, fun _ => 0), .inl (0, 68, fun _ => 0), .inl (2, 2, fun _ => 0), .inl (0, 3584, fun _ => 0), .inl (0, 4, fun _ => 0), .inl (0, 4, fun _ => 0)]
set_option maxHeartbeats 4000000 in
set_option maxRecDepth 100000 in
theorem i10 (F : Nat) (A : HL) (hA : A.length = 209) : fX10_init F (A ++ [c9]) 209 = some (A ++ M10) := by
  unfold fX10_init c9
  rw [a_ob hA, Option.bind_some]
  rw [a_np (b := 0) _ hA (Nat.le_of_ble_eq_true rfl) rfl]
  rw [a_np (b := 1) _ hA (Nat.le_of_ble_eq_true rfl) rfl]
  rw [a_np (b := 2) _ hA (Nat.le_of_ble_eq_true rfl) rfl]
  rw [a_np (b := 3) _ hA (Nat.le_of_ble_eq_true rfl) rfl]
  rw [a_np (b := 4) _ hA (Nat.le_of_ble_eq_true rfl) rfl]
  rw [a_np (b := 5) _ hA (Nat.le_of_ble_eq_true rfl) rfl]
  rw [a_np (b := 6) _ hA (Nat.le_of_ble_eq_true rfl) rfl]
  rw [a_np (b := 7) _ hA (Nat.le_of_ble_eq_true rfl) rfl]
  rw [a_np (b := 8) _ hA (Nat.le_of_ble_eq_true rfl) rfl]
  rw [a_np (b := 9) _ hA (Nat.le_of_ble_eq_true rfl) rfl]
  rw [a_np (b := 10) _ hA (Nat.le_of_ble_eq_true rfl) rfl]
  rw [a_np (b := 11) _ hA (Nat.le_of_ble_eq_true rfl) rfl]
  rw [a_np (b := 12) _ hA (Nat.le_of_ble_eq_true rfl) rfl]
  rw [a_np (b := 13) _ hA (Nat.le_of_ble_eq_true rfl) rfl]
  rw [a_np (b := 14) _ hA (Nat.le_of_ble_eq_true rfl) rfl]
  rw [a_np (b := 15) _ hA (Nat.le_of_ble_eq_true rfl) rfl]
  rw [a_np (b := 16) _ hA (Nat.le_of_ble_eq_true rfl) rfl]
  rw [a_gR (r := 211) hA rfl, Option.bind_some]
  have hq : (A ++ [(.inr (.inr (9, [.ref 210, .int 0, .ref 211, .ref 212, .ref 213, .ref 214, .ref 215, .ref 216, .ref 217, .ref 218, .int 0, .int 0, .int 0, .int 0, .int 0, .int 0, .ref 219, .ref 220, .ref 221, .ref 222, .ref 223, .ref 224, .ref 225, .ref 226, .int 0, .long 0])) : SC), (.inl (1, 120, fun _ => 0) : SC)]).length = 211 := by rw [List.length_append, hA]; rfl
  have e : ∀ x : SC, A ++ (.inr (.inr (9, [.ref 210, .int 0, .ref 211, .ref 212, .ref 213, .ref 214, .ref 215, .ref 216, .ref 217, .ref 218, .int 0, .int 0, .int 0, .int 0, .int 0, .int 0, .ref 219, .ref 220, .ref 221, .ref 222, .ref 223, .ref 224, .ref 225, .ref 226, .int 0, .long 0])) : SC) :: (.inl (1, 120, fun _ => 0) : SC) :: x :: [(.inl (0, 2, fun _ => 0) : SC), (.inl (0, 18, fun _ => 0) : SC), (.inl (0, 18, fun _ => 0) : SC), (.inl (0, 18, fun _ => 0) : SC), (.inl (0, 2, fun _ => 0) : SC), (.inl (0, 12, fun _ => 0) : SC), (.inl (0, 12, fun _ => 0) : SC), (.inl (0, 34, fun _ => 0) : SC), (.inl (0, 3, fun _ => 0) : SC), (.inl (0, 1020, fun _ => 0) : SC), (.inl (0, 68, fun _ => 0) : SC), (.inl (2, 2, fun _ => 0) : SC), (.inl (0, 3584, fun _ => 0) : SC), (.inl (0, 4, fun _ => 0) : SC), (.inl (0, 4, fun _ => 0) : SC)] = (A ++ [(.inr (.inr (9, [.ref 210, .int 0, .ref 211, .ref 212, .ref 213, .ref 214, .ref 215, .ref 216, .ref 217, .ref 218, .int 0, .int 0, .int 0, .int 0, .int 0, .int 0, .ref 219, .ref 220, .ref 221, .ref 222, .ref 223, .ref 224, .ref 225, .ref 226, .int 0, .long 0])) : SC), (.inl (1, 120, fun _ => 0) : SC)]) ++ x :: [(.inl (0, 2, fun _ => 0) : SC), (.inl (0, 18, fun _ => 0) : SC), (.inl (0, 18, fun _ => 0) : SC), (.inl (0, 18, fun _ => 0) : SC), (.inl (0, 2, fun _ => 0) : SC), (.inl (0, 12, fun _ => 0) : SC), (.inl (0, 12, fun _ => 0) : SC), (.inl (0, 34, fun _ => 0) : SC), (.inl (0, 3, fun _ => 0) : SC), (.inl (0, 1020, fun _ => 0) : SC), (.inl (0, 68, fun _ => 0) : SC), (.inl (2, 2, fun _ => 0) : SC), (.inl (0, 3584, fun _ => 0) : SC), (.inl (0, 4, fun _ => 0) : SC), (.inl (0, 4, fun _ => 0) : SC)] := fun x => by rw [List.append_assoc]; rfl
  show (o_sI (A ++ (.inr (.inr (9, [.ref 210, .int 0, .ref 211, .ref 212, .ref 213, .ref 214, .ref 215, .ref 216, .ref 217, .ref 218, .int 0, .int 0, .int 0, .int 0, .int 0, .int 0, .ref 219, .ref 220, .ref 221, .ref 222, .ref 223, .ref 224, .ref 225, .ref 226, .int 0, .long 0])) : SC) :: (.inl (1, 120, fun _ => 0) : SC) :: (.inl (0, 2, fun _ => 0) : SC) :: [(.inl (0, 2, fun _ => 0) : SC), (.inl (0, 18, fun _ => 0) : SC), (.inl (0, 18, fun _ => 0) : SC), (.inl (0, 18, fun _ => 0) : SC), (.inl (0, 2, fun _ => 0) : SC), (.inl (0, 12, fun _ => 0) : SC), (.inl (0, 12, fun _ => 0) : SC), (.inl (0, 34, fun _ => 0) : SC), (.inl (0, 3, fun _ => 0) : SC), (.inl (0, 1020, fun _ => 0) : SC), (.inl (0, 68, fun _ => 0) : SC), (.inl (2, 2, fun _ => 0) : SC), (.inl (0, 3584, fun _ => 0) : SC), (.inl (0, 4, fun _ => 0) : SC), (.inl (0, 4, fun _ => 0) : SC)]) 211 0 0 4).bind _ = _
  rw [e, a_sI hq (by decide), Option.bind_some, ← e]
  rfl

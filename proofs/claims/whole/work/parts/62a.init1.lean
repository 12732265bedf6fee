/-! what the constructors make -/
section IN
variable {A B : HL} {q ci k : Nat} {fs : List Value} {v : Value}
theorem a_get {c : SC} (hq : A.length = q) : (A ++ c :: B)[q]? = some c := by
  subst hq
  rw [List.getElem?_append_right (Nat.le_refl _), Nat.sub_self]
  rfl
theorem a_set {c d : SC} (hq : A.length = q) : (A ++ c :: B).set q d = A ++ d :: B := by
  subst hq
  rw [List.set_append_right _ _ (Nat.le_refl _), Nat.sub_self]
  rfl
theorem a_p (hq : A.length = q) (hk : k < fs.length) : o_p (A ++ (.inr (.inr (ci, fs)) : SC) :: B) q ci k v = some (A ++ (.inr (.inr (ci, fs.set k v)) : SC) :: B) := by
  unfold o_p
  rw [a_get hq]
  dsimp only
  rw [if_pos ⟨rfl, hk⟩, a_set hq]
theorem a_ob (hq : A.length = q) : o_ob (A ++ (.inr (.inr (ci, fs)) : SC) :: B) q ci = some () := by
  unfold o_ob
  rw [a_get hq]
  dsimp only
  rw [if_pos rfl]
theorem a_gR {r : Nat} (hq : A.length = q) (hf : fs[k]? = some (.ref r)) : o_gR (A ++ (.inr (.inr (ci, fs)) : SC) :: B) q ci k = some r := by
  unfold o_gR o_g
  rw [a_get hq]
  dsimp only
  rw [if_pos rfl, hf]
theorem a_sI {t n : Nat} {f : Nat → Int32} {i x : Int32} (hq : A.length = q) (hi : ¬ (i < 0 ∨ n ≤ i.toNatClampNeg)) : o_sI (A ++ (.inl (t, n, f) : SC) :: B) q t i x = some (A ++ (.inl (t, n, upd f i.toNatClampNeg x) : SC) :: B) := by
  unfold o_sI
  rw [a_get hq]
  dsimp only
  rw [if_pos ⟨rfl, hi⟩, a_set hq]
theorem a_sR {t n w : Nat} {f : Nat → Option Nat} {i : Int32} {gs : List Value} (hq : A.length = q) (hi : ¬ (i < 0 ∨ n ≤ i.toNatClampNeg)) (hw : (A ++ (.inr (.inl (t, n, f)) : SC) :: B)[w]? = some (.inr (.inr (ci, gs)))) : o_sR (A ++ (.inr (.inl (t, n, f)) : SC) :: B) q t ci i w = some (A ++ (.inr (.inl (t, n, va_up f i.toNatClampNeg (some w))) : SC) :: B) := by
  unfold o_sR
  rw [hw, a_get hq]
  dsimp only
  rw [if_pos ⟨⟨rfl, rfl⟩, hi⟩, a_set hq]
end IN
/-- one row more is made, and told to the object -/
theorem a_np {A B : HL} {q ci k : Nat} {fs : List Value} {c : SC} (K : HL → Option HL) (hq : A.length = q) (hk : k < fs.length) {b : Nat} (hb : B.length = b) : (o_p ((A ++ (.inr (.inr (ci, fs)) : SC) :: B) ++ [c]) q ci k (.ref (A ++ (.inr (.inr (ci, fs)) : SC) :: B).length)).bind K = K (A ++ (.inr (.inr (ci, fs.set k (.ref (q + 1 + b)))) : SC) :: (B ++ [c])) := by
  have e : (A ++ (.inr (.inr (ci, fs)) : SC) :: B) ++ [c] = A ++ (.inr (.inr (ci, fs)) : SC) :: (B ++ [c]) := by rw [List.append_assoc]; rfl
  have l : (A ++ (.inr (.inr (ci, fs)) : SC) :: B).length = q + 1 + b := by rw [List.length_append, List.length_cons, hq, hb]; omega
  rw [e, l, a_p hq hk, Option.bind_some]
def a9 : SC := .inl (0, 9, fun _ => 0)
def a6 : SC := .inl (0, 6, fun _ => 0)
def M2 (n : Nat) : HL := (.inr (.inr (2, [.ref (n + 1 + 0), .ref (n + 1 + 1), .ref (n + 1 + 2), .ref (n + 1 + 3), .int 0])) : SC) :: [a9, a9, a9, a6]
theorem a_pv {A B C : HL} {q ci k : Nat} {fs : List Value} {v : Value} (hq : A.length = q) (hk : k < fs.length) : o_p ((A ++ (.inr (.inr (ci, fs)) : SC) :: B) ++ C) q ci k v = some (A ++ (.inr (.inr (ci, fs.set k v)) : SC) :: (B ++ C)) := by
  rw [show (A ++ (.inr (.inr (ci, fs)) : SC) :: B) ++ C = A ++ (.inr (.inr (ci, fs)) : SC) :: (B ++ C) by rw [List.append_assoc]; rfl, a_p hq hk]
/-- an object is made, its constructor runs, and it is told to the object -/
theorem a_call {f : HL → Nat → Option HL} {c : SC} {M : Nat → HL} (hf : ∀ (L : HL) (n : Nat), L.length = n → f (L ++ [c]) n = some (L ++ M n)) {A B : HL} {q ci k : Nat} {fs : List Value} (K : HL → Option HL) (hq : A.length = q) (hk : k < fs.length) {b : Nat} (hb : B.length = b) : ((f ((A ++ (.inr (.inr (ci, fs)) : SC) :: B) ++ [c]) (A ++ (.inr (.inr (ci, fs)) : SC) :: B).length).bind fun z => (o_p z q ci k (.ref (A ++ (.inr (.inr (ci, fs)) : SC) :: B).length)).bind K) = K (A ++ (.inr (.inr (ci, fs.set k (.ref (q + 1 + b)))) : SC) :: (B ++ M (q + 1 + b))) := by
  have l : (A ++ (.inr (.inr (ci, fs)) : SC) :: B).length = q + 1 + b := by rw [List.length_append, List.length_cons, hq, hb]; omega
  rw [l, hf _ _ l, Option.bind_some, a_pv hq hk, Option.bind_some]
abbrev c2 : SC := .inr (.inr (2, [.null, .null, .null, .null, .int 0]))
theorem i2 (F : Nat) (L : HL) (n : Nat) (hn : L.length = n) : fX2_init F (L ++ [c2]) n = some (L ++ M2 n) := by
  unfold fX2_init c2
  rw [a_ob hn, Option.bind_some]
  rw [a_np (b := 0) _ hn (Nat.le_of_ble_eq_true rfl) rfl, a_np (b := 1) _ hn (Nat.le_of_ble_eq_true rfl) rfl, a_np (b := 2) _ hn (Nat.le_of_ble_eq_true rfl) rfl, a_np (b := 3) _ hn (Nat.le_of_ble_eq_true rfl) rfl]
  rfl
def M6 (n : Nat) : HL := (.inr (.inr (5, [.ref (n + 1 + 0), .int 0, .int 0])) : SC) :: [.inl (0, 120, fun _ => 0)]
theorem i6 (F : Nat) (L : HL) (n : Nat) (hn : L.length = n) : fX6_init F (L ++ [(.inr (.inr (5, [.null, .int 0, .int 0])) : SC)]) n = some (L ++ M6 n) := by
  unfold fX6_init
  rw [a_ob hn, Option.bind_some]
  rw [a_np (b := 0) _ hn (Nat.le_of_ble_eq_true rfl) rfl]
  rfl
def M7 (n : Nat) : HL := (.inr (.inr (6, [.int 4, .int 0, .int 0, .ref (n + 1 + 0), .ref (n + 1 + 1), .ref (n + 1 + 2), .ref (n + 1 + 3), .ref (n + 1 + 4)])) : SC) :: [a9, a9, a9, a6, a6]
theorem i7 (F : Nat) (L : HL) (n : Nat) (hn : L.length = n) : fX7_init_T F (L ++ [(.inr (.inr (6, [.int 0, .int 0, .int 0, .null, .null, .null, .null, .null])) : SC)]) n = some (L ++ M7 n) := by
  unfold fX7_init_T
  rw [a_ob hn, Option.bind_some, a_p hn (Nat.le_of_ble_eq_true rfl), Option.bind_some]
  rw [a_np (b := 0) _ hn (Nat.le_of_ble_eq_true rfl) rfl, a_np (b := 1) _ hn (Nat.le_of_ble_eq_true rfl) rfl, a_np (b := 2) _ hn (Nat.le_of_ble_eq_true rfl) rfl, a_np (b := 3) _ hn (Nat.le_of_ble_eq_true rfl) rfl, a_np (b := 4) _ hn (Nat.le_of_ble_eq_true rfl) rfl]
  rfl
def M7P (n : Nat) : HL := (.inr (.inr (4, [.int 4, .int 0, .int 0, .ref (n + 1 + 0), .ref (n + 1 + 1), .ref (n + 1 + 2), .ref (n + 1 + 3), .ref (n + 1 + 4), .null])) : SC) :: [a9, a9, a9, a6, a6]
abbrev c4 : SC := .inr (.inr (4, [.int 0, .int 0, .int 0, .null, .null, .null, .null, .null, .null]))
theorem i7P (F : Nat) (L : HL) (n : Nat) (hn : L.length = n) : fX7_init_P F (L ++ [c4]) n = some (L ++ M7P n) := by
  unfold fX7_init_P c4
  rw [a_ob hn, Option.bind_some, a_p hn (Nat.le_of_ble_eq_true rfl), Option.bind_some]
  rw [a_np (b := 0) _ hn (Nat.le_of_ble_eq_true rfl) rfl, a_np (b := 1) _ hn (Nat.le_of_ble_eq_true rfl) rfl, a_np (b := 2) _ hn (Nat.le_of_ble_eq_true rfl) rfl, a_np (b := 3) _ hn (Nat.le_of_ble_eq_true rfl) rfl, a_np (b := 4) _ hn (Nat.le_of_ble_eq_true rfl) rfl]
  rfl
def M4 (n : Nat) : HL := (.inr (.inr (4, [.int 4, .int 0, .int 0, .ref (n + 1 + 0), .ref (n + 1 + 1), .ref (n + 1 + 2), .ref (n + 1 + 3), .ref (n + 1 + 4), .ref (n + 1 + 5)])) : SC) :: [a9, a9, a9, a6, a6, a9]
theorem i4 (F : Nat) (L : HL) (n : Nat) (hn : L.length = n) : fX4_init F (L ++ [c4]) n = some (L ++ M4 n) := by
  unfold fX4_init
  rw [i7P F L n hn, show o_ob (L ++ [c4]) n 4 = some () from a_ob hn, Option.bind_some, Option.bind_some]
  unfold M7P
  rw [a_np (b := 5) _ hn (Nat.le_of_ble_eq_true rfl) rfl]
  rfl
def M8 (n : Nat) : HL := (.inr (.inr (7, [.ref (n + 1 + 0), .ref (n + 1 + 7)])) : SC) :: (([] ++ M4 (n + 1 + 0)) ++ [.inl (0, 8, fun _ => 0)])
theorem i8 (F : Nat) (L : HL) (n : Nat) (hn : L.length = n) : fX8_init F (L ++ [(.inr (.inr (7, [.null, .null])) : SC)]) n = some (L ++ M8 n) := by
  unfold fX8_init
  rw [a_ob hn, Option.bind_some]
  rw [a_call (i4 F) _ hn (Nat.le_of_ble_eq_true rfl) (b := 0) rfl, a_np (b := 7) _ hn (Nat.le_of_ble_eq_true rfl) rfl]
  rfl
def M0 (n : Nat) : HL := (.inr (.inr (0, [.ref (n + 1 + 0), .ref (n + 1 + 1)])) : SC) :: (([] ++ [a6]) ++ M4 (n + 1 + 1))
theorem i0 (F : Nat) (L : HL) (n : Nat) (hn : L.length = n) : fX0_init F (L ++ [(.inr (.inr (0, [.null, .null])) : SC)]) n = some (L ++ M0 n) := by
  unfold fX0_init
  rw [a_ob hn, Option.bind_some]
  rw [a_np (b := 0) _ hn (Nat.le_of_ble_eq_true rfl) rfl, a_call (i4 F) _ hn (Nat.le_of_ble_eq_true rfl) (b := 1) rfl]
  rfl
def M1 (n : Nat) : HL := (.inr (.inr (1, [.ref (n + 1 + 0), .ref (n + 1 + 1), .int 0, .ref (n + 1 + 2)])) : SC) :: [.inl (0, 4, fun _ => 0), .inl (0, 4, fun _ => 0), .inl (0, 11, fun _ => 0)]
theorem i1 (F : Nat) (L : HL) (n : Nat) (hn : L.length = n) : fX1_init F (L ++ [(.inr (.inr (1, [.null, .null, .int 0, .null])) : SC)]) n = some (L ++ M1 n) := by
  unfold fX1_init
  rw [a_ob hn, Option.bind_some]
  rw [a_np (b := 0) _ hn (Nat.le_of_ble_eq_true rfl) rfl, a_np (b := 1) _ hn (Nat.le_of_ble_eq_true rfl) rfl, a_np (b := 2) _ hn (Nat.le_of_ble_eq_true rfl) rfl]
  rfl

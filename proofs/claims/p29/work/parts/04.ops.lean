/-! the values of the machine itself (references by places; .float k: the text constant k), and of intervals: (0 int, 1 long, 2 reference, 3 null, 4 text; least; most) -/
def q_ty : Value → Nat
  | .int _ => 0
  | .long _ => 1
  | .ref _ => 2
  | .float _ => 2
  | .null => 3
  | _ => 9
def q_cst (t : Nat) (c : Int) : Value := match t with
  | 0 => .int (Int32.ofInt c)
  | 1 => .long (Int64.ofInt c)
  | _ => .float (UInt32.ofNat c.toNat)
/-- the letters of the text constants -/
def q_txs (n : Nat) : Option (List Int) := match n with
  | 43 => some [110, 101, 115, 119]
  | 74 => some [103, 115, 116, 104, 112]
  | 76 => some [110, 101, 115, 119, 46]
  | _ => none
def q_tlen (n : Nat) : Option Value := match q_txs (n - 1000) with
  | some l => some (.int (Int32.ofNat l.length))
  | none => none
def q_tget (n : Nat) (i : Int32) : Option Value := match q_txs (n - 1000) with
  | some l => if i < 0 then none else if i.toNatClampNeg < l.length then some (.int (Int32.ofInt (l.getD i.toNatClampNeg 0))) else none
  | none => none
def q_tval (n : UInt32) : Option Value := match q_txs n.toNat with
  | some _ => some (.float (UInt32.ofNat (n.toNat + 1000)))
  | none => none
def q_tcod (n : UInt32) : Option Value := match q_txs n.toNat with
  | some _ => some (.int 0)
  | none => none
def q_un (v : Nat) (a : Value) : Option Value := match v, a with
  | 0, .int x => some (.int (-x))
  | 1, .int x => some (.int x.toInt8.toInt32)
  | 2, .int x => some (.int x.toInt16.toInt32)
  | 3, .int x => some (.int (x.toUInt32 % 65536).toInt32)
  | 4, .int x => some (.long x.toInt64)
  | 5, .long x => some (.int x.toInt32)
  | 6, .int x => some (.int (vp_nar .char x))
  | 7, .int x => some (.int (if 0 ≤ x then x else 0 - x))
  | 8, .float n => q_tval n
  | 9, .float n => q_tcod n
  | 10, .float n => q_tlen n.toNat
  | _, _ => none
def q_bin (v : Nat) (a b : Value) : Option Value := match v, a, b with
  | 0, .int x, .int y => some (.int (x + y))
  | 1, .int x, .int y => some (.int (x - y))
  | 2, .int x, .int y => some (.int (x * y))
  | 3, .int x, .int y => if y = 0 then none else some (.int (x / y))
  | 4, .int x, .int y => if y = 0 then none else some (.int (x - x / y * y))
  | 5, .int x, .int y => some (.int (x &&& y))
  | 6, .int x, .int y => some (.int (x ||| y))
  | 7, .int x, .int y => some (.int (x ^^^ y))
  | 8, .int x, .int y => some (.int (x <<< (y &&& 31)))
  | 9, .int x, .int y => some (.int (x >>> (y &&& 31)))
  | 10, .int x, .int y => some (.int (x.toUInt32 >>> (y.toUInt32 &&& Int32.toUInt32 31)).toInt32)
  | 11, .long x, .long y => some (.long (x + y))
  | 12, .long x, .long y => some (.long (x - y))
  | 13, .long x, .long y => some (.long (x * y))
  | 14, .long x, .long y => if y = 0 then none else some (.long (x / y))
  | 15, .long x, .long y => if y = 0 then none else some (.long (x - x / y * y))
  | 16, .long x, .long y => some (.long (x &&& y))
  | 17, .long x, .long y => some (.long (x ||| y))
  | 18, .long x, .int y => some (.long (x <<< (y.toInt64 &&& 63)))
  | 19, .long x, .long y => some (.int (lg_cmp x y))
  | 20, .int x, .int y => some (.int (if x < y then y else x))
  | 21, .int x, .int y => some (.int (if y < x then y else x))
  | 22, .float n, .int i => q_tget n.toNat i
  | _, _, _ => none
def q_cmp (v : Nat) (a b : Value) : Option Bool := match v, a, b with
  | 0, .int x, .int y => some (decide (x = y))
  | 1, .int x, .int y => some (decide (¬ x = y))
  | 2, .int x, .int y => some (decide (x < y))
  | 3, .int x, .int y => some (decide (y ≤ x))
  | 4, .int x, .int y => some (decide (y < x))
  | 5, .int x, .int y => some (decide (x ≤ y))
  | _, _, _ => none
def q_ix : Value → Option Nat
  | .int x => if x < 0 then none else some x.toNatClampNeg
  | _ => none
def q_rf : Value → Option Nat
  | .ref h => some h
  | _ => none
def q_fit (t : Nat) (a : Value) : Bool := match t, a with
  | 0, .int _ => true
  | 1, .long _ => true
  | 2, .int x => decide (0 ≤ x.toInt) && decide (x.toInt ≤ 65535)
  | 3, .int x => decide (x = 0) || decide (x = 1)
  | 4, .ref _ => true
  | 5, .int x => decide (x = 0) || decide (x = 1)
  | _, _ => false
def q_sw (c : Int) (n : Nat) : Value → Option (Option Nat)
  | .int x => if x.toInt < c then some none else if c + n ≤ x.toInt then some none else some (some (x.toInt - c).toNat)
  | _ => none
noncomputable def q_app {A B : Type} (l : List A) : A → (List A → B) → B := List.rec (motive := fun _ => A → (List A → B) → B) (fun v k => k [v]) (fun a _ ih v k => ih v fun l' => k (a :: l')) l
theorem q_app_eq {A B : Type} : ∀ (l : List A) (v : A) (k : List A → B), q_app l v k = k (l ++ [v])
  | [], v, k => rfl
  | a :: l, v, k => q_app_eq l v _
abbrev q_H : Type := List (Nat × List Value)
/-- what a new cell holds -/
def c_dfl (t n : Nat) : List Value := match t with
  | 0 => [.null, .int 0, .int 0]
  | 1 => [.int 0, .int 0, .int 0, .int 0, .int 0]
  | 2 => [.int 0, .int 0, .int 0, .int 0, .int 0, .int 0, .int 0, .null, .null, .null, .null, .null]
  | 3 => [.int 0, .int 0, .int 0, .null]
  | 4 => [.null, .int 0, .int 0, .int 0]
  | 5 => [.null, .null, .null, .null, .null, .int 0, .null, .null, .null, .null, .null]
  | 6 => [.null, .null, .int 0, .int 0, .null, .int 0, .null, .int 0, .null, .int 0, .int 0, .int 0, .int 0, .int 0, .null, .null, .null, .int 0, .null, .null, .null, .null]
  | 11 => List.replicate n (.long 0)
  | 13 => List.replicate n .null
  | 14 => List.replicate n .null
  | _ => List.replicate n (.int 0)
noncomputable def c_tag (hp : q_H) (h : Nat) : Option Nat := q_ob (q_nth hp h) fun c => some c.1
noncomputable def c_get (hp : q_H) (h t i : Nat) : Option Value := q_ob (q_nth hp h) fun c => q_gd (Nat.beq c.1 t) (q_nth c.2 i)
noncomputable def c_set {B : Type} (hp : q_H) (h t i : Nat) (v : Value) (k : q_H → Option B) : Option B := q_ob (q_nth hp h) fun c => q_gd (Nat.beq c.1 t && Nat.blt i c.2.length) (q_set c.2 i v fun vs => q_set hp h (c.1, vs) k)
noncomputable def c_cpy {B : Type} (hp : q_H) (hs sp hd dp n : Nat) (k : q_H → Option B) : Option B := q_ob (q_nth hp hs) fun cs => q_ob (q_nth hp hd) fun cd => q_gd (Nat.beq cd.1 cs.1 && (Nat.beq cd.1 10 || Nat.beq cd.1 11) && Nat.ble (sp + n) cs.2.length && Nat.ble (dp + n) cd.2.length) (q_frc (cd.2.take dp ++ ((cs.2.drop sp).take n ++ cd.2.drop (dp + n))) fun vs => q_set hp hd (cd.1, vs) k)
noncomputable def c_new {B : Type} (hp : q_H) (t n : Nat) (k : q_H → Option B) : Option B := q_frc (c_dfl t n) fun vs => q_app hp (t, vs) k
noncomputable def q_CO : q_O Value q_H := ((q_cst, q_un, q_bin, q_cmp, q_ix, q_rf, Value.ref, q_ty, q_fit, q_sw, fun k v => k v), (c_tag, c_get, c_set, c_cpy, c_new, List.length, fun _ _ => none))
noncomputable def q_crun (d k : Nat) (as : List Value) (hp : q_H) : Option (q_R Value q_H) := q_run q_CO q_I 1000000 d k as hp

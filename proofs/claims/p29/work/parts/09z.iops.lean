abbrev q_IV : Type := Nat × Int × Int
def i_fN {B : Type} (n : Nat) (k : Nat → B) : B := match n with
  | 0 => k 0
  | m + 1 => k (Nat.succ m)
def i_fZ {B : Type} (z : Int) (k : Int → B) : B := match z with
  | .ofNat n => i_fN n fun n => k (.ofNat n)
  | .negSucc n => i_fN n fun n => k (.negSucc n)
def i_fz {B : Type} (k : q_IV → B) : q_IV → B
  | (t, a, b) => i_fZ a fun a => i_fZ b fun b => k (t, a, b)
def i_cst (t : Nat) (c : Int) : q_IV := match t with
  | 0 => (0, c, c)
  | 1 => (1, c, c)
  | _ => (4, c, c)
def i_beq (a b : Int) : Bool := match a, b with
  | .ofNat a, .ofNat b => Nat.beq a b
  | .negSucc a, .negSucc b => Nat.beq a b
  | _, _ => false
def i_ble (a b : Int) : Bool := match a, b with
  | .ofNat a, .ofNat b => Nat.ble a b
  | .negSucc a, .negSucc b => Nat.ble b a
  | .negSucc _, .ofNat _ => true
  | .ofNat _, .negSucc _ => false
def i_blt (a b : Int) : Bool := !i_ble b a
def i_val (t : Nat) (a : Int) : Value := match t with
  | 0 => .int (Int32.ofInt a)
  | 1 => .long (Int64.ofInt a)
  | _ => .null
def i_back (v : Option Value) : Option q_IV := match v with
  | some (.int x) => some (0, x.toInt, x.toInt)
  | some (.long x) => some (1, x.toInt, x.toInt)
  | _ => none
def i_un (v : Nat) : q_IV → Option q_IV
  | (t, a, b) => bif i_beq a b then i_back (q_un v (i_val t a)) else match v, t with
    | 4, 0 => some (1, a, b)
    | 3, 0 => bif i_ble 0 a && i_ble b 65535 then some (0, a, b) else none
    | 6, 0 => bif i_ble 0 a && i_ble b 65535 then some (0, a, b) else none
    | _, _ => none
def i_in32 (z : Int) : Bool := i_ble (-2147483648) z && i_ble z 2147483647
def i_bin (v : Nat) : q_IV → q_IV → Option q_IV
  | (t, a, a'), (u, b, b') => bif i_beq a a' && i_beq b b' then (match v, t, u with
      | 0, 0, 0 => bif i_in32 (a + b) then some (0, a + b, a + b) else i_back (q_bin v (i_val t a) (i_val u b))
      | 1, 0, 0 => bif i_in32 (a - b) then some (0, a - b, a - b) else i_back (q_bin v (i_val t a) (i_val u b))
      | 2, 0, 0 => bif i_in32 (a * b) then some (0, a * b, a * b) else i_back (q_bin v (i_val t a) (i_val u b))
      | 19, 1, 1 => bif i_blt b a then some (0, 1, 1) else bif i_beq a b then some (0, 0, 0) else some (0, -1, -1)
      | _, _, _ => i_back (q_bin v (i_val t a) (i_val u b)))
    else match v, t, u with
      | 0, 0, 0 => bif i_in32 (a + b) && i_in32 (a' + b') then some (0, a + b, a' + b') else none
      | 19, 1, 1 => bif i_blt b' a then some (0, 1, 1) else bif i_blt a' b then some (0, -1, -1) else bif i_ble b' a then some (0, 0, 1) else bif i_ble a' b then some (0, -1, 0) else some (0, -1, 1)
      | _, _, _ => none
def i_cmp (v : Nat) : q_IV → q_IV → Option Bool
  | (t, a, a'), (u, b, b') => match t, u with
    | 0, 0 => (match v with
      | 0 => bif i_blt a' b || i_blt b' a then some false else bif i_beq a a' && i_beq b b' then some true else none
      | 1 => bif i_blt a' b || i_blt b' a then some true else bif i_beq a a' && i_beq b b' then some false else none
      | 2 => bif i_blt a' b then some true else bif i_ble b' a then some false else none
      | 3 => bif i_ble b' a then some true else bif i_blt a' b then some false else none
      | 4 => bif i_blt b' a then some true else bif i_ble a' b then some false else none
      | 5 => bif i_ble a' b then some true else bif i_blt b' a then some false else none
      | _ => none)
    | _, _ => none
def i_ix : q_IV → Option Nat
  | (0, .ofNat a, b) => bif i_beq (.ofNat a) b && Nat.ble a 2147483647 then some a else none
  | _ => none
def i_rf : q_IV → Option Nat
  | (2, .ofNat a, _) => some a
  | _ => none
def i_ty : q_IV → Nat
  | (4, _, _) => 2
  | (t, _, _) => t
def i_fit (t : Nat) : q_IV → Bool
  | (u, a, b) => match t, u with
    | 0, 0 => true
    | 1, 1 => true
    | 2, 0 => i_ble 0 a && i_ble b 65535
    | 3, 0 => i_ble 0 a && i_ble b 1
    | 4, 2 => true
    | _, _ => false
def i_sw (c : Int) (n : Nat) : q_IV → Option (Option Nat)
  | (0, a, b) => bif i_blt b c then some none else bif i_ble (c + n) a then some none else bif i_beq a b && i_ble c a && i_blt a (c + n) then some (some (a - c).toNat) else none
  | _ => none
def i_hull : q_IV → q_IV → Option q_IV
  | (t, a, a'), (u, b, b') => bif Nat.beq t u then (bif Nat.ble t 1 then i_fz some (t, (bif i_ble a b then a else b), (bif i_ble a' b' then b' else a')) else bif i_beq a b then some (t, a, a') else none) else none
-- heaps of packed cells (tag, length, least, most), 64 bits a place, sixteen places a number, in rows of twelve
abbrev p_C : Type := Nat × Nat × List Nat × List Nat
abbrev p_H : Type := List (List p_C)
/- the low 64 bits are a digest of the places (hashes see those alone) -/
def p_dg (N i : Nat) : Nat := Nat.mod (Nat.shiftRight N (Nat.mul 64 (Nat.succ i))) 18446744073709551616
def p_sd (N i w : Nat) : Nat := Nat.xor N (Nat.xor (Nat.shiftLeft (Nat.xor (p_dg N i) w) (Nat.mul 64 (Nat.succ i))) (Nat.mod (Nat.shiftLeft (Nat.xor (p_dg N i) w) (Nat.mul 4 i)) 18446744073709551616))
def p_enc (z : Int) : Nat := match z with
  | .ofNat n => Nat.add n 9223372036854775808
  | .negSucc n => Nat.sub 9223372036854775807 n
def p_ok (z : Int) : Bool := match z with
  | .ofNat n => Nat.blt n 9223372036854775808
  | .negSucc n => Nat.blt n 9223372036854775808
def p_dec (d : Nat) : Int := bif Nat.ble 9223372036854775808 d then .ofNat (Nat.sub d 9223372036854775808) else .negSucc (Nat.sub 9223372036854775807 d)
def p_mk (t : Nat) : Nat := match t with
  | 0 => 1
  | 1 => 0
  | 2 => 3968
  | 3 => 8
  | 4 => 1
  | 5 => 2015
  | _ => 4047187
/-- the kind of a place: 0 int, 1 long, 2 reference -/
def p_kd (t i : Nat) : Nat := bif Nat.blt t 7 then (bif Nat.testBit (p_mk t) i then 2 else 0) else bif Nat.beq t 11 then 1 else bif Nat.blt 12 t then 2 else 0
noncomputable def p_cell (hp : p_H) (h : Nat) : Option p_C := q_ob (q_nth hp (Nat.div h 12)) fun row => q_nth row (Nat.mod h 12)
noncomputable def p_tag (hp : p_H) (h : Nat) : Option Nat := q_ob (p_cell hp h) fun c => match c with
  | (t, _, _, _) => q_gd (Nat.blt t 15) (some t)
def p_val (kd lo hi : Nat) : Option q_IV := bif Nat.beq kd 2 then i_fN lo (fun a => some (2, .ofNat a, .ofNat a)) else bif Nat.beq kd 1 then i_fz some (1, p_dec lo, p_dec hi) else i_fz some (0, p_dec lo, p_dec hi)
noncomputable def p_gl (L : List Nat) (i : Nat) : Nat := match q_nth L (Nat.div i 16) with
  | some N => p_dg N (Nat.mod i 16)
  | none => 0
noncomputable def p_sl {B : Type} (L : List Nat) (i w : Nat) (k : List Nat → Option B) : Option B := q_ob (q_nth L (Nat.div i 16)) fun N => i_fN (p_sd N (Nat.mod i 16) w) fun N => q_set L (Nat.div i 16) N k
noncomputable def p_get (hp : p_H) (h t i : Nat) : Option q_IV := q_ob (p_cell hp h) fun c => match c with
  | (u, n, lo, hi) => q_gd (Nat.blt u 15 && Nat.beq u t && Nat.blt i n) (p_val (p_kd t i) (p_gl lo i) (p_gl hi i))
noncomputable def p_put {B : Type} (hp : p_H) (h : Nat) (c : p_C) (k : p_H → Option B) : Option B := q_ob (q_nth hp (Nat.div h 12)) fun row => q_set row (Nat.mod h 12) c fun row => q_set hp (Nat.div h 12) row k
noncomputable def p_set {B : Type} (hp : p_H) (h t i : Nat) (v : q_IV) (k : p_H → Option B) : Option B := q_ob (p_cell hp h) fun c => match c, v with
  | (u, n, lo, hi), (w, a, b) => q_gd (Nat.blt u 15 && Nat.beq u t && Nat.blt i n && Nat.beq (p_kd t i) w && Nat.blt w 2 && p_ok a && p_ok b) (p_sl lo i (p_enc a) fun lo => p_sl hi i (p_enc b) fun hi => p_put hp h (u, n, lo, hi) k)
noncomputable def p_cpy {B : Type} (hp : p_H) (hs sp hd dp n : Nat) (k : p_H → Option B) : Option B := q_ob (p_cell hp hs) fun cs => q_ob (p_cell hp hd) fun cd => match cs, cd with
  | (t, m, lo, hi), (u, m', _, _) => q_gd (Nat.beq t u && (Nat.beq t 10 || Nat.beq t 11) && Nat.beq sp 0 && Nat.beq dp 0 && Nat.beq n m && Nat.beq n m') (p_put hp hd (t, m, lo, hi) k)
noncomputable def p_lo (a b n : Nat) : Nat := Nat.rec (motive := fun _ => Nat) a (fun i N => i_fN N fun N => p_sd N i (bif Nat.ble (p_dg a i) (p_dg b i) then p_dg a i else p_dg b i)) n
noncomputable def p_hi (a b n : Nat) : Nat := Nat.rec (motive := fun _ => Nat) a (fun i N => i_fN N fun N => p_sd N i (bif Nat.ble (p_dg a i) (p_dg b i) then p_dg b i else p_dg a i)) n
noncomputable def p_lz {B : Type} (f : Nat → Nat → Nat → Nat) : List Nat → List Nat → (List Nat → Option B) → Option B
  | [], [], k => k []
  | a :: l, b :: m, k => i_fN (f a b 16) fun c => p_lz f l m fun r => k (c :: r)
  | _, _, _ => none
def p_eq : List Nat → List Nat → Bool
  | [], [] => true
  | a :: l, b :: m => Nat.beq a b && p_eq l m
  | _, _ => false
/-- references must be the same; a long row that differs is forgotten (tag 99) -/
noncomputable def p_rs (t : Nat) (a b : List Nat) (n : Nat) : Bool := Nat.rec (motive := fun _ => Bool) true (fun i r => r && (Nat.blt (p_kd t i) 2 || Nat.beq (p_gl a i) (p_gl b i))) n
noncomputable def p_hc {B : Type} : p_C → p_C → (p_C → Option B) → Option B
  | (t, n, a, a'), (u, m, b, b'), k => q_gd (Nat.beq t u && Nat.beq n m) (bif p_eq a b && p_eq a' b' then k (t, n, a, a') else bif Nat.blt 64 n then k (99, 0, [], []) else q_gd (p_rs t a b n) (p_lz p_lo a b fun lo => p_lz p_hi a' b' fun hi => k (t, n, lo, hi)))
noncomputable def p_hl {B : Type} : List p_C → List p_C → (List p_C → Option B) → Option B
  | [], [], k => k []
  | a :: l, b :: m, k => p_hc a b fun c => p_hl l m fun r => k (c :: r)
  | _, _, _ => none
noncomputable def p_hh {B : Type} : p_H → p_H → (p_H → Option B) → Option B
  | [], [], k => k []
  | a :: l, b :: m, k => p_hl a b fun c => p_hh l m fun r => k (c :: r)
  | _, _, _ => none
noncomputable def p_jn : q_R q_IV p_H → q_R q_IV p_H → Option (q_R q_IV p_H)
  | (some a, h), (some b, g) => q_ob (i_hull a b) fun c => p_hh h g fun r => some (some c, r)
  | (none, h), (none, g) => p_hh h g fun r => some (none, r)
  | _, _ => none
noncomputable def q_IO : q_O q_IV p_H := ((i_cst, i_un, i_bin, i_cmp, i_ix, i_rf, fun n => (2, Int.ofNat n, Int.ofNat n), i_ty, i_fit, i_sw, i_fz), (p_tag, p_get, p_set, p_cpy, fun _ _ _ _ => none, fun _ => 0, p_jn))
noncomputable def q_irun (d k : Nat) (as : List q_IV) (hp : p_H) : Option (q_R q_IV p_H) := q_run q_IO q_I 1000000 d k as hp

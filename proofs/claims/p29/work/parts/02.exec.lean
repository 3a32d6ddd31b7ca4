/-! A MACHINE OF LISTS: a micro-op is (op, variant, immediate, x, y, next pc, more); a cell is (tag, contents): tag below 10 an object of the class of that number, 10 int[], 11 long[], 12 char[], 13 Plain[], 14 Sheet[]; a reference is the number of its cell. Values V and heaps P are what the operations O make of them: there is one O of the machine's own values, and one of intervals. All in continuations, so that a kernel that reduces lazily keeps the state in normal form. -/
abbrev q_MI : Type := Nat × Nat × Int × Nat × Nat × Nat × List Nat
abbrev q_R (V P : Type) : Type := Option V × P
/-- operations on values: constant, unary, binary, compare, index, reference, made reference, kind, fits, switch, forced -/
abbrev q_OV (V P : Type) : Type := (Nat → Int → V) × (Nat → V → Option V) × (Nat → V → V → Option V) × (Nat → V → V → Option Bool) × (V → Option Nat) × (V → Option Nat) × (Nat → V) × (V → Nat) × (Nat → V → Bool) × (Int → Nat → V → Option (Option Nat)) × ((V → Option (q_R V P)) → V → Option (q_R V P))
/-- operations on heaps: a cell's tag; a place of a cell of a tag; storing there; copying; a new cell; how many; two ends as one -/
abbrev q_OP (V P : Type) : Type := (P → Nat → Option Nat) × (P → Nat → Nat → Nat → Option V) × (P → Nat → Nat → Nat → V → (P → Option (q_R V P)) → Option (q_R V P)) × (P → Nat → Nat → Nat → Nat → Nat → (P → Option (q_R V P)) → Option (q_R V P)) × (P → Nat → Nat → (P → Option (q_R V P)) → Option (q_R V P)) × (P → Nat) × (q_R V P → q_R V P → Option (q_R V P))
abbrev q_O (V P : Type) : Type := q_OV V P × q_OP V P
def o_cst {V P : Type} (O : q_O V P) : Nat → Int → V := O.1.1
def o_un {V P : Type} (O : q_O V P) : Nat → V → Option V := O.1.2.1
def o_bin {V P : Type} (O : q_O V P) : Nat → V → V → Option V := O.1.2.2.1
def o_cmp {V P : Type} (O : q_O V P) : Nat → V → V → Option Bool := O.1.2.2.2.1
def o_ix {V P : Type} (O : q_O V P) : V → Option Nat := O.1.2.2.2.2.1
def o_rf {V P : Type} (O : q_O V P) : V → Option Nat := O.1.2.2.2.2.2.1
def o_mk {V P : Type} (O : q_O V P) : Nat → V := O.1.2.2.2.2.2.2.1
def o_ty {V P : Type} (O : q_O V P) : V → Nat := O.1.2.2.2.2.2.2.2.1
def o_fit {V P : Type} (O : q_O V P) : Nat → V → Bool := O.1.2.2.2.2.2.2.2.2.1
def o_sw {V P : Type} (O : q_O V P) : Int → Nat → V → Option (Option Nat) := O.1.2.2.2.2.2.2.2.2.2.1
def o_fz {V P : Type} (O : q_O V P) : (V → Option (q_R V P)) → V → Option (q_R V P) := O.1.2.2.2.2.2.2.2.2.2.2
def o_tag {V P : Type} (O : q_O V P) : P → Nat → Option Nat := O.2.1
def o_get {V P : Type} (O : q_O V P) : P → Nat → Nat → Nat → Option V := O.2.2.1
def o_set {V P : Type} (O : q_O V P) : P → Nat → Nat → Nat → V → (P → Option (q_R V P)) → Option (q_R V P) := O.2.2.2.1
def o_cpy {V P : Type} (O : q_O V P) : P → Nat → Nat → Nat → Nat → Nat → (P → Option (q_R V P)) → Option (q_R V P) := O.2.2.2.2.1
def o_new {V P : Type} (O : q_O V P) : P → Nat → Nat → (P → Option (q_R V P)) → Option (q_R V P) := O.2.2.2.2.2.1
def o_len {V P : Type} (O : q_O V P) : P → Nat := O.2.2.2.2.2.2.1
def o_jn {V P : Type} (O : q_O V P) : q_R V P → q_R V P → Option (q_R V P) := O.2.2.2.2.2.2.2
noncomputable def q_nth {A : Type} (l : List A) : Nat → Option A := List.rec (motive := fun _ => Nat → Option A) (fun _ => none) (fun a _ ih i => Nat.rec (motive := fun _ => Option A) (some a) (fun j _ => ih j) i) l
noncomputable def q_set {A B : Type} (l : List A) : Nat → A → (List A → B) → B := List.rec (motive := fun _ => Nat → A → (List A → B) → B) (fun _ _ k => k []) (fun a l ih i v k => Nat.rec (motive := fun _ => B) (k (v :: l)) (fun j _ => ih j v fun l' => k (a :: l')) i) l
noncomputable def q_frc {A B : Type} (l : List A) : (List A → B) → B := List.rec (motive := fun _ => (List A → B) → B) (fun k => k []) (fun a _ ih k => ih fun l' => k (a :: l')) l
def q_pop {A B : Type} : Nat → List A → List A → (List A → List A → Option B) → Option B
  | 0, st, acc, k => k acc st
  | _ + 1, [], _, _ => none
  | n + 1, a :: st, acc, k => q_pop n st (a :: acc) k
def q_fill {A : Type} : Nat → List (Option A) → List (Option A)
  | 0, _ => []
  | n + 1, [] => none :: q_fill n []
  | n + 1, a :: l => a :: q_fill n l
def q_ent {V : Type} (ty : V → Nat) : List V → List (Option V)
  | [] => []
  | a :: l => bif Nat.beq (ty a) 1 then some a :: none :: q_ent ty l else some a :: q_ent ty l
def q_cats {V : Type} (ty : V → Nat) : List V → Nat
  | [] => 0
  | a :: l => (bif Nat.beq (ty a) 1 then 2 else 1) + q_cats ty l
def q_p1 {V B : Type} (st : List V) (f : V → List V → Option B) : Option B := match st with
  | a :: r => f a r
  | [] => none
def q_ob {A B : Type} (o : Option A) (f : A → Option B) : Option B := match o with
  | some a => f a
  | none => none
def q_gd {B : Type} (b : Bool) (r : Option B) : Option B := match b with
  | true => r
  | false => none
def q_nil {V : Type} (st : List V) : Bool := match st with
  | [] => true
  | _ :: _ => false
noncomputable def q_st2 {V B : Type} (ty : V → Nat) (lo : List (Option V)) (x : Nat) (v : V) (k : List (Option V) → Option B) : Option B := q_set lo x (some v) fun lo => bif Nat.beq (ty v) 1 then q_set lo (x + 1) none k else k lo
/-- a store into the locals: a long that ends at x is forgotten -/
noncomputable def q_st {V B : Type} (ty : V → Nat) (lo : List (Option V)) (x : Nat) (v : V) (k : List (Option V) → Option B) : Option B := match x with
  | 0 => q_st2 ty lo 0 v k
  | x' + 1 => match q_nth lo x' with
    | some (some w) => bif Nat.beq (ty w) 1 then q_set lo x' none fun lo => q_st2 ty lo (x' + 1) v k else q_st2 ty lo (x' + 1) v k
    | _ => q_st2 ty lo (x' + 1) v k
abbrev q_M5 : Type := Nat × Int × Nat × Nat × Nat × List Nat
abbrev q_K (V P : Type) : Type := Nat → List (Option V) → List V → P → Option (q_R V P)
abbrev q_SF (V P : Type) : Type := q_O V P → (Nat → List V → P → Option (q_R V P)) → Nat → q_M5 → List (Option V) → List V → P → q_K V P → Option (q_R V P)
noncomputable def q_s0 {V P : Type} : q_SF V P := fun O _ _ mr lo st hp K => match mr with
  | (_, _, x, y, nx, _) => q_ob (q_nth lo x) fun oa => q_ob oa fun a => q_gd (Nat.beq (o_ty O a) y) (K nx lo (a :: st) hp)
def q_s1 {V P : Type} : q_SF V P := fun O _ _ mr lo st hp K => match mr with
  | (_, _, x, y, nx, _) => q_p1 st fun r st => q_ob (o_rf O r) fun h => q_ob (o_get O hp h x y) fun a => K nx lo (a :: st) hp
def q_s2 {V P : Type} : q_SF V P := fun O _ _ mr lo st hp K => match mr with
  | (_, c, _, _, nx, _) => o_fz O (fun a => K nx lo (a :: st) hp) (o_cst O 0 c)
/-- what a call asks of its receiver: 0 virtual, 1 static, else a constructor -/
def q_rcv {V P : Type} (O : q_O V P) (v : Nat) (tb : List Nat) (as : List V) (hp : P) : Bool := match v with
  | 0 => (match as with
    | r :: _ => (match o_rf O r with
      | some h => (match o_tag O hp h with
        | some t => (match tb with
          | _ :: ci :: _ => Nat.beq t ci
          | _ => false)
        | none => false)
      | none => false)
    | [] => false)
  | 1 => true
  | 4 => (match as with
    | r :: _ => (match o_un O 9 r with
      | some _ => true
      | none => false)
    | [] => false)
  | _ => (match as with
    | r :: _ => (match o_rf O r with
      | some _ => true
      | none => false)
    | [] => false)
def q_ret {V P : Type} (r : q_R V P) (nx : Nat) (lo : List (Option V)) (st : List V) (K : q_K V P) : Option (q_R V P) := match r with
  | (some a, hp) => K nx lo (a :: st) hp
  | (none, hp) => K nx lo st hp
def q_s3 {V P : Type} : q_SF V P := fun O cal _ mr lo st hp K => match mr with
  | (v, _, x, y, nx, tb) => q_pop y st [] fun as st => q_gd (Nat.ble (q_cats (o_ty O) st) 8) (q_gd (q_rcv O v tb as hp) (q_ob (cal x as hp) fun r => q_ret r nx lo st K))
def q_s4 {V P : Type} : q_SF V P := fun O _ _ mr _ st hp _ => match mr with
  | (v, _, _, _, _, _) => bif Nat.beq v 4 then q_gd (q_nil st) (some (none, hp)) else q_p1 st fun a st => q_gd (q_nil st && o_fit O v a) (some (some a, hp))
def q_s5 {V P : Type} : q_SF V P := fun O _ _ mr lo st hp K => match mr with
  | (v, _, _, _, nx, _) => q_p1 st fun i st => q_p1 st fun r st => q_ob (o_ix O i) fun j => q_ob (o_rf O r) fun h => q_ob (o_get O hp h v j) fun a => K nx lo (a :: st) hp
def q_s6 {V P : Type} : q_SF V P := fun O _ _ mr lo st hp K => match mr with
  | (v, _, _, _, nx, _) => q_p1 st fun b st => q_p1 st fun a st => q_ob (o_bin O v a b) fun r => o_fz O (fun r => K nx lo (r :: st) hp) r
def q_s7 {V P : Type} : q_SF V P := fun _ _ _ mr lo st hp K => match mr with
  | (_, _, x, _, _, _) => K x lo st hp
def q_br {V P : Type} (O : q_O V P) (b : Option Bool) (x nx : Nat) (lo : List (Option V)) (st : List V) (hp : P) (K : q_K V P) : Option (q_R V P) := match b with
  | some true => K x lo st hp
  | some false => K nx lo st hp
  | none => q_ob (K x lo st hp) fun r1 => q_ob (K nx lo st hp) fun r2 => o_jn O r1 r2
def q_s8 {V P : Type} : q_SF V P := fun O _ _ mr lo st hp K => match mr with
  | (v, _, x, _, nx, _) => q_p1 st fun a st => q_gd (Nat.beq (o_ty O a) 0) (q_br O (o_cmp O v a (o_cst O 0 0)) x nx lo st hp K)
def q_s9 {V P : Type} : q_SF V P := fun O _ _ mr lo st hp K => match mr with
  | (v, _, x, _, nx, _) => q_p1 st fun b st => q_p1 st fun a st => q_gd (Nat.beq (o_ty O a) 0 && Nat.beq (o_ty O b) 0) (q_br O (o_cmp O v a b) x nx lo st hp K)
def q_s10 {V P : Type} : q_SF V P := fun O _ _ mr lo st hp K => match mr with
  | (v, _, x, y, nx, _) => q_p1 st fun a st => q_p1 st fun r st => q_ob (o_rf O r) fun h => q_gd (o_fit O (v % 10) a) (o_set O hp h x y a fun hp => K nx lo st hp)
noncomputable def q_s11 {V P : Type} : q_SF V P := fun O _ _ mr lo st hp K => match mr with
  | (_, _, x, y, nx, _) => q_p1 st fun a st => q_gd (Nat.beq (o_ty O a) y) (q_st (o_ty O) lo x a fun lo => K nx lo st hp)
/-- what an array of a tag keeps of a value -/
def q_kept {V P : Type} (O : q_O V P) (v : Nat) (a : V) (hp : P) : Option V := match v with
  | 10 => q_gd (Nat.beq (o_ty O a) 0) (some a)
  | 11 => q_gd (Nat.beq (o_ty O a) 1) (some a)
  | 12 => o_un O 6 a
  | 13 => q_ob (o_rf O a) fun h => q_ob (o_tag O hp h) fun t => q_gd (Nat.beq t 2) (some a)
  | 14 => q_ob (o_rf O a) fun h => q_ob (o_tag O hp h) fun t => q_gd (Nat.beq t 3) (some a)
  | _ => none
def q_s12 {V P : Type} : q_SF V P := fun O _ _ mr lo st hp K => match mr with
  | (v, _, _, _, nx, _) => q_p1 st fun a st => q_p1 st fun i st => q_p1 st fun r st => q_ob (o_ix O i) fun j => q_ob (o_rf O r) fun h => q_ob (q_kept O v a hp) fun a => o_fz O (fun a => o_set O hp h v j a fun hp => K nx lo st hp) a
noncomputable def q_s13 {V P : Type} : q_SF V P := fun O _ _ mr lo st hp K => match mr with
  | (_, c, x, _, nx, _) => q_ob (q_nth lo x) fun oa => q_ob oa fun a => q_gd (Nat.beq (o_ty O a) 0) (q_ob (o_bin O 0 a (o_cst O 0 c)) fun r => o_fz O (fun r => q_gd (Nat.beq (o_ty O r) 0) (q_st (o_ty O) lo x r fun lo => K nx lo st hp)) r)
def q_s14 {V P : Type} : q_SF V P := fun O _ _ mr lo st hp K => match mr with
  | (v, _, _, _, nx, _) => q_p1 st fun a st => q_ob (o_un O v a) fun r => o_fz O (fun r => K nx lo (r :: st) hp) r
def q_s15 {V P : Type} : q_SF V P := fun O _ _ mr lo st hp K => match mr with
  | (_, c, _, _, nx, _) => o_fz O (fun a => K nx lo (a :: st) hp) (o_cst O 1 c)
def q_s16 {V P : Type} : q_SF V P := fun O _ _ mr lo st hp K => match mr with
  | (_, _, _, _, nx, _) => q_p1 st fun a st => q_gd (!Nat.beq (o_ty O a) 1) (K nx lo (a :: a :: st) hp)
def q_s17 {V P : Type} : q_SF V P := fun O _ _ mr lo st hp K => match mr with
  | (_, _, _, _, nx, _) => q_p1 st fun a st => q_p1 st fun b st => q_gd (!Nat.beq (o_ty O a) 1 && !Nat.beq (o_ty O b) 1) (K nx lo (a :: b :: a :: b :: st) hp)
noncomputable def q_s18 {V P : Type} : q_SF V P := fun O _ _ mr lo st hp K => match mr with
  | (v, c, x, _, _, tb) => q_p1 st fun a st => q_ob (o_sw O c v a) fun o => match o with
    | none => K x lo st hp
    | some j => q_ob (q_nth tb j) fun t => K t lo st hp
def q_s19 {V P : Type} : q_SF V P := fun O _ fr mr lo st hp K => match mr with
  | (_, _, _, _, nx, _) => q_p1 st fun n st => q_p1 st fun dp st => q_p1 st fun d st => q_p1 st fun sp st => q_p1 st fun s st => q_gd (Nat.blt 0 fr && Nat.ble (q_cats (o_ty O) st) 8) (q_ob (o_ix O n) fun n => q_ob (o_ix O dp) fun dp => q_ob (o_ix O sp) fun sp => q_ob (o_rf O d) fun hd => q_ob (o_rf O s) fun hs => o_cpy O hp hs sp hd dp n fun hp => K nx lo st hp)
def q_s20 {V P : Type} : q_SF V P := fun O _ _ mr lo st hp K => match mr with
  | (_, _, x, _, nx, _) => q_gd (Nat.blt x 7) (o_fz O (fun a => o_new O hp x 0 fun hp => K nx lo (a :: st) hp) (o_mk O (o_len O hp)))
def q_s21 {V P : Type} : q_SF V P := fun O _ _ mr lo st hp K => match mr with
  | (v, _, _, _, nx, _) => q_p1 st fun n st => q_ob (o_ix O n) fun N => q_gd (Nat.ble N 1000 && (Nat.beq v 10 || Nat.beq v 11 || Nat.beq v 12)) (o_fz O (fun a => o_new O hp v N fun hp => K nx lo (a :: st) hp) (o_mk O (o_len O hp)))
def q_s22 {V P : Type} : q_SF V P := fun O _ _ mr lo st hp K => match mr with
  | (v, _, _, _, nx, _) => q_p1 st fun n st => q_ob (o_ix O n) fun N => q_gd (Nat.ble N 1000 && (Nat.beq v 13 || Nat.beq v 14)) (o_fz O (fun a => o_new O hp v N fun hp => K nx lo (a :: st) hp) (o_mk O (o_len O hp)))
def q_s23 {V P : Type} : q_SF V P := fun O _ fr mr lo st hp K => match mr with
  | (_, _, _, _, nx, _) => q_p1 st fun r st => q_ob (o_rf O r) fun _ => q_gd (Nat.blt 0 fr && Nat.ble (q_cats (o_ty O) st) 8) (K nx lo st hp)
def q_s24 {V P : Type} : q_SF V P := fun O _ _ mr lo st hp K => match mr with
  | (_, _, x, _, nx, _) => o_fz O (fun a => K nx lo (a :: st) hp) (o_cst O 2 (Int.ofNat x))
/-- Math.abs; Math.max and min: calls that keep no cell -/
def q_s25 {V P : Type} : q_SF V P := fun O _ fr mr lo st hp K => match mr with
  | (_, _, _, _, nx, _) => q_p1 st fun a st => q_gd (Nat.blt 0 fr && Nat.ble (q_cats (o_ty O) st) 8) (q_ob (o_un O 7 a) fun r => o_fz O (fun r => K nx lo (r :: st) hp) r)
def q_s26 {V P : Type} : q_SF V P := fun O _ fr mr lo st hp K => match mr with
  | (v, _, _, _, nx, _) => q_p1 st fun b st => q_p1 st fun a st => q_gd (Nat.blt 0 fr && Nat.ble (q_cats (o_ty O) st) 8) (q_ob (o_bin O v a b) fun r => o_fz O (fun r => K nx lo (r :: st) hp) r)
def q_sX {V P : Type} : q_SF V P := fun _ _ _ _ _ _ _ _ => none
noncomputable def q_d {V P : Type} (op : Nat) : q_SF V P := bif Nat.blt op (nat_lit 25) then (bif Nat.blt op (nat_lit 12) then (bif Nat.blt op (nat_lit 6) then (bif Nat.blt op (nat_lit 3) then (bif Nat.blt op (nat_lit 1) then q_s0 else (bif Nat.blt op (nat_lit 2) then q_s1 else q_s2)) else (bif Nat.blt op (nat_lit 4) then q_s3 else (bif Nat.blt op (nat_lit 5) then q_s4 else q_s5))) else (bif Nat.blt op (nat_lit 9) then (bif Nat.blt op (nat_lit 7) then q_s6 else (bif Nat.blt op (nat_lit 8) then q_s7 else q_s8)) else (bif Nat.blt op (nat_lit 10) then q_s9 else (bif Nat.blt op (nat_lit 11) then q_s10 else q_s11)))) else (bif Nat.blt op (nat_lit 18) then (bif Nat.blt op (nat_lit 15) then (bif Nat.blt op (nat_lit 13) then q_s12 else (bif Nat.blt op (nat_lit 14) then q_s13 else q_s14)) else (bif Nat.blt op (nat_lit 16) then q_s15 else (bif Nat.blt op (nat_lit 17) then q_s16 else q_s17))) else (bif Nat.blt op (nat_lit 21) then (bif Nat.blt op (nat_lit 19) then q_s18 else (bif Nat.blt op (nat_lit 20) then q_s19 else q_s20)) else (bif Nat.blt op (nat_lit 23) then (bif Nat.blt op (nat_lit 22) then q_s21 else q_s22) else (bif Nat.blt op (nat_lit 24) then q_s23 else q_s24))))) else (bif Nat.blt op (nat_lit 27) then (bif Nat.blt op (nat_lit 26) then q_s25 else q_s26) else (bif Nat.blt op (nat_lit 31) then (bif Nat.blt op (nat_lit 28) then q_s2 else (bif Nat.blt op (nat_lit 30) then q_s14 else q_s6)) else q_sX))
noncomputable def q_step {V P : Type} (O : q_O V P) (cal : Nat → List V → P → Option (q_R V P)) (fr : Nat) (mi : q_MI) (lo : List (Option V)) (st : List V) (hp : P) (K : q_K V P) : Option (q_R V P) := match mi with
  | (op, mr) => q_d op O cal fr mr lo st hp K
noncomputable def q_steps {V P : Type} (O : q_O V P) (ins : Nat → Option q_MI) (cal : Nat → List V → P → Option (q_R V P)) (fr : Nat) (n : Nat) : q_K V P :=
  Nat.rec (motive := fun _ => q_K V P) (fun _ _ _ _ => none) (fun _ ih pc lo st hp => q_ob (ins pc) fun mi => q_step O cal fr mi lo st hp ih) n
/-- method k, with d frames in all, fu steps in each -/
noncomputable def q_run {V P : Type} (O : q_O V P) (I : Nat → Nat × (Nat → Option q_MI)) (fu : Nat) (d : Nat) : Nat → List V → P → Option (q_R V P) :=
  Nat.rec (motive := fun _ => Nat → List V → P → Option (q_R V P)) (fun _ _ _ => none) (fun d ih k as hp => match I k with
    | (mx, ins) => q_gd (Nat.ble (q_cats (o_ty O) as) mx) (q_frc (q_fill mx (q_ent (o_ty O) as)) fun lo => q_steps O ins ih d fu 0 lo [] hp)) d
-- laws of the small words
theorem q_nth_eq {A : Type} : ∀ (l : List A) (i : Nat), q_nth l i = l[i]?
  | [], i => rfl
  | a :: l, 0 => rfl
  | a :: l, i + 1 => by rw [List.getElem?_cons_succ]; exact q_nth_eq l i
theorem q_set_eq {A B : Type} : ∀ (l : List A) (i : Nat) (v : A) (k : List A → B), q_set l i v k = k (l.set i v)
  | [], i, v, k => rfl
  | a :: l, 0, v, k => rfl
  | a :: l, i + 1, v, k => by rw [List.set_cons_succ]; exact q_set_eq l i v _
theorem q_frc_eq {A B : Type} : ∀ (l : List A) (k : List A → B), q_frc l k = k l
  | [], k => rfl
  | a :: l, k => q_frc_eq l _
theorem q_pop_some {A B : Type} {r : B} : ∀ (n : Nat) (st acc : List A) (k : List A → List A → Option B), q_pop n st acc k = some r → ∃ as rest, st = as.reverse ++ rest ∧ as.length = n ∧ k (as ++ acc) rest = some r
  | 0, st, acc, k, h => ⟨[], st, by simp, rfl, by simpa [q_pop] using h⟩
  | n + 1, [], acc, k, h => by simp [q_pop] at h
  | n + 1, a :: st, acc, k, h => by
    simp only [q_pop] at h
    obtain ⟨as, rest, h1, h2, h3⟩ := q_pop_some n st (a :: acc) k h
    refine ⟨as ++ [a], rest, by simp [h1], by simp [h2], by simpa using h3⟩
theorem q_p1_some {V B : Type} {st : List V} {f : V → List V → Option B} {r : B} (h : q_p1 st f = some r) : ∃ a st', st = a :: st' ∧ f a st' = some r := by
  cases st with
  | nil => simp [q_p1] at h
  | cons a t => exact ⟨a, t, rfl, h⟩
theorem q_ob_some {A B : Type} {o : Option A} {f : A → Option B} {r : B} (h : q_ob o f = some r) : ∃ a, o = some a ∧ f a = some r := by
  cases o with
  | none => simp [q_ob] at h
  | some a => exact ⟨a, rfl, h⟩
theorem q_gd_some {B : Type} {b : Bool} {o : Option B} {r : B} (h : q_gd b o = some r) : b = true ∧ o = some r := by
  cases b with
  | false => simp [q_gd] at h
  | true => exact ⟨rfl, h⟩
theorem q_nil_true {V : Type} {st : List V} (h : q_nil st = true) : st = [] := by
  cases st with
  | nil => rfl
  | cons a t => simp [q_nil] at h
theorem q_steps_succ {V P : Type} (O : q_O V P) (ins : Nat → Option q_MI) (cal : Nat → List V → P → Option (q_R V P)) (fr n pc : Nat) (lo : List (Option V)) (st : List V) (hp : P) : q_steps O ins cal fr (n + 1) pc lo st hp = q_ob (ins pc) fun mi => q_step O cal fr mi lo st hp (q_steps O ins cal fr n) := rfl
theorem q_run_succ {V P : Type} (O : q_O V P) (I : Nat → Nat × (Nat → Option q_MI)) (fu d k : Nat) (as : List V) (hp : P) : q_run O I fu (d + 1) k as hp = q_gd (Nat.ble (q_cats (o_ty O) as) (I k).1) (q_frc (q_fill (I k).1 (q_ent (o_ty O) as)) fun lo => q_steps O (I k).2 (q_run O I fu d) d fu 0 lo [] hp) := rfl

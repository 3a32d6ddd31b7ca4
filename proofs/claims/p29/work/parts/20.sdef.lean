def s_ob {A : Type} (o : Option A) (f : A → Bool) : Bool := match o with
  | some a => f a
  | none => false
def s_mx (a b : Int) : Int := bif i_ble a b then b else a
def s_mn (a b : Int) : Int := bif i_ble a b then a else b
noncomputable def s_rg (env : List s_R) (j : Nat) : Option (Int × Int) := match q_nth env j with
  | some (_, a, b, _) => some (a, b)
  | none => none
noncomputable def s_xi (env : List s_R) (x : s_X) : Option (Int × Int) := match x with
  | (f, j, z, k) => match f with
    | 0 => some (z, z)
    | 1 => s_rg env j
    | 2 => (match s_rg env j with
      | some (a, b) => some (a + z, b + z)
      | none => none)
    | 3 => (match s_rg env j with
      | some (a, b) => (match s_rg env k with
        | some (c, d) => some (a - d, b - c)
        | none => none)
      | none => none)
    | _ => none
noncomputable def s_xk (env : List s_R) (x : s_X) (K : Int → Int → Bool) : Bool := match s_xi env x with
  | some (a, b) => i_fZ a fun a => i_fZ b fun b => K a b
  | none => false
noncomputable def s_rv (env : List s_R) (j : Nat) (lo hi : Int) (K : List s_R → Bool) : Bool := match q_nth env j with
  | some (f, a, b, t) => bif i_blt hi a || i_blt b lo then true else bif i_ble lo a && i_ble b hi then K env else i_fZ (s_mx a lo) fun a' => i_fZ (s_mn b hi) fun b' => q_set env j (f, a', b', t) K
  | none => false
/-- what is left of the ranges if expression x lies in lo..hi -/
noncomputable def s_rx (env : List s_R) (x : s_X) (lo hi : Int) (K : List s_R → Bool) : Bool := match x with
  | (f, j, z, k) => match f with
    | 0 => bif i_ble lo z && i_ble z hi then K env else true
    | 1 => s_rv env j lo hi K
    | 2 => s_rv env j (lo - z) (hi - z) K
    | 3 => (match s_rg env j with
      | some (a, b) => (match s_rg env k with
        | some (c, d) => s_rv env j (lo + c) (hi + d) fun env => s_rv env k (a - hi) (b - lo) K
        | none => false)
      | none => false)
    | _ => false
noncomputable def s_le (X Y : s_X) (env : List s_R) (K : List s_R → Bool) : Bool := s_xk env X fun a _ => s_xk env Y fun _ d => s_rx env X a d fun env => s_rx env Y a d K
noncomputable def s_lt (X Y : s_X) (env : List s_R) (K : List s_R → Bool) : Bool := s_xk env X fun a _ => s_xk env Y fun _ d => s_rx env X a (d - 1) fun env => s_rx env Y (a + 1) d K
noncomputable def s_eq (X Y : s_X) (env : List s_R) (K : List s_R → Bool) : Bool := s_xk env X fun a b => s_xk env Y fun c d => s_rx env X c d fun env => s_rx env Y a b K
noncomputable def s_ne (X Y : s_X) (env : List s_R) (K : List s_R → Bool) : Bool := s_xk env X fun a b => s_xk env Y fun c d => bif i_beq c d then (bif i_beq a c then (bif i_beq b c then true else s_rx env X (a + 1) b K) else bif i_beq b c then s_rx env X a (b - 1) K else K env) else K env
noncomputable def s_cb (v : Nat) (X Y : s_X) (env : List s_R) (Kt Kf : List s_R → Bool) : Bool := match v with
  | 0 => s_eq X Y env Kt && s_ne X Y env Kf
  | 1 => s_ne X Y env Kt && s_eq X Y env Kf
  | 2 => s_lt X Y env Kt && s_le Y X env Kf
  | 3 => s_le Y X env Kt && s_lt X Y env Kf
  | 4 => s_lt Y X env Kt && s_le X Y env Kf
  | 5 => s_le X Y env Kt && s_lt Y X env Kf
  | _ => false
def s_sg : List s_G → Nat → Option s_Q
  | [], _ => none
  | (a, b, q) :: L, i => bif Nat.ble a i && Nat.ble i b then some q else s_sg L i
def s_al : List s_G → Nat → Nat → (s_Q → Bool) → Bool
  | [], _, _, _ => true
  | (c, d, q) :: L, a, b, P => bif Nat.ble a d && Nat.ble c b then P q && s_al L a b P else s_al L a b P
/-- the range that holds those of all places from a to b -/
def s_hl : List s_G → Nat → Nat → Option s_Q
  | [], _, _ => none
  | (c, d, q) :: L, a, b => bif Nat.ble a d && Nat.ble c b then (match s_hl L a b with
      | some r => some (q.1, s_mn q.2.1 r.2.1, s_mx q.2.2 r.2.2)
      | none => some q) else s_hl L a b
def s_sub (q h : s_Q) : Bool := Nat.beq q.1 h.1 && (Nat.ble 10 q.1 || (i_ble h.2.1 q.2.1 && i_ble q.2.2 h.2.2))
noncomputable def s_td (t : Nat) : Option s_D := q_nth s_tds t
def s_xe (x y : s_X) : Bool := match x, y with
  | (f, j, z, k), (f', j', z', k') => Nat.beq f f' && Nat.beq j j' && i_beq z z' && Nat.beq k k'
def s_cv (x : s_X) : Bool := Nat.blt x.1 2
def s_mg : List s_M → Nat → s_X → Nat → Option s_S
  | [], _, _, _ => none
  | (t', e', p', s) :: mm, t, e, p => bif Nat.beq t' t && Nat.beq p' p && s_xe e' e then some s else s_mg mm t e p
def s_kl (f : s_M → Bool) : List s_M → (List s_M → Bool) → Bool
  | [], K => K []
  | m :: l, K => bif f m then s_kl f l K else s_kl f l fun l => K (m :: l)
def s_x0 : s_X := (0, 0, 0, 0)
noncomputable def s_psh (env : List s_R) (lo hi : Int) (K : List s_R → s_X → Bool) : Bool := i_fZ lo fun lo => i_fZ hi fun hi => i_fN env.length fun n => q_app env (0, lo, hi, 0, 0, 0) fun env => K env (1, n, 0, 0)
/-- any value of a range -/
noncomputable def s_fr (env : List s_R) (q : s_Q) (K : List s_R → s_S → Bool) : Bool := bif Nat.ble 10 q.1 then (match s_td (q.1 - 10) with
    | some D => (match D.2.2.2 with
      | some c => K env (q.1, (0, 0, .ofNat c, 0), s_x0)
      | none => s_psh env 0 1000 fun env x => K env (q.1, x, s_x0))
    | none => false) else (bif Nat.blt q.1 2 then s_psh env q.2.1 q.2.2 fun env x => K env (q.1, x, s_x0) else false)
noncomputable def s_rd (env : List s_R) (mm : List s_M) (t : Nat) (e : s_X) (p : Nat) (K : List s_R → List s_M → s_S → Bool) : Bool := match s_mg mm t e p with
  | some s => K env mm s
  | none => s_ob (s_td t) fun D => s_ob (s_sg D.2.2.1 p) fun q => Nat.blt p D.2.1 && s_fr env q fun env s => K env (bif s_cv e then (t, e, p, s) :: mm else mm) s
noncomputable def s_fit (env : List s_R) (s : s_S) (q : s_Q) : Bool := Nat.beq s.1 q.1 && (Nat.ble 10 q.1 || (Nat.blt q.1 2 && s_xk env s.2.1 fun a b => i_ble q.2.1 a && i_ble b q.2.2))
def s_in : List Nat → Nat → Bool
  | [], _ => false
  | a :: l, t => Nat.beq a t || s_in l t
noncomputable def s_wr (mask : List Nat) (env : List s_R) (mm : List s_M) (t : Nat) (e : s_X) (p : Nat) (s : s_S) (K : List s_M → Bool) : Bool := s_ob (s_td t) fun D => s_ob (s_sg D.2.2.1 p) fun q => Nat.blt p D.2.1 && s_fit env s q && s_in mask t && s_kl (fun m => Nat.beq m.1 t && Nat.beq m.2.2.1 p) mm fun mm => K (bif s_cv e then (t, e, p, s) :: mm else mm)
/-- place by place: the ranges of n places of one type from a on lie in those of another from b on -/
def s_pw (A B : List s_G) : Nat → Nat → Nat → Bool
  | _, _, 0 => true
  | a, b, n + 1 => s_ob (s_sg A a) (fun q => s_ob (s_sg B b) fun h => s_sub q h) && s_pw A B (a + 1) (b + 1) n
def s_i32 (a b : Int) : Bool := i_ble (-2147483648) a && i_ble b 2147483647
def s_i64 (a b : Int) : Bool := i_ble (-9223372036854775808) a && i_ble b 9223372036854775807
def s_fitk (kd : Nat) (a b : Int) : Bool := match kd with
  | 0 => s_i32 a b
  | _ => s_i64 a b
noncomputable def s_psk (kd : Nat) (env : List s_R) (a b : Int) (K : List s_R → s_S → Bool) : Bool := bif s_fitk kd a b then (bif i_beq a b then i_fZ a fun a => K env (kd, (0, 0, a, 0), s_x0) else s_psh env a b fun env x => K env (kd, x, s_x0)) else match kd with
  | 0 => s_psh env (-2147483648) 2147483647 fun env x => K env (0, x, s_x0)
  | _ => s_psh env (-9223372036854775808) 9223372036854775807 fun env x => K env (kd, x, s_x0)
/-- variable j of x, and what is added -/
def s_va (x : s_X) : Option (Nat × Int) := match x with
  | (f, j, z, _) => match f with
    | 1 => some (j, 0)
    | 2 => some (j, z)
    | _ => none
def s_mkva (j : Nat) (z : Int) : s_X := bif i_beq z 0 then (1, j, 0, 0) else (2, j, z, 0)
/-- x and z, as an expression if it is one and does not pass the kind's bounds; else a range -/
noncomputable def s_adc (kd : Nat) (env : List s_R) (x : s_X) (a b z : Int) (K : List s_R → s_S → Bool) : Bool := match s_va x with
  | some (j, y) => bif s_fitk kd (a + z) (b + z) then i_fZ (y + z) fun w => K env (kd, s_mkva j w, s_x0) else s_psk kd env (a + z) (b + z) K
  | none => s_psk kd env (a + z) (b + z) K
noncomputable def s_add (kd : Nat) (env : List s_R) (x y : s_X) (K : List s_R → s_S → Bool) : Bool := s_xk env x fun a b => s_xk env y fun c d => bif i_beq c d then s_adc kd env x a b c K else bif i_beq a b then s_adc kd env y c d a K else s_psk kd env (a + c) (b + d) K
noncomputable def s_sbd (kd : Nat) (env : List s_R) (x y : s_X) (a b : Int) (K : List s_R → s_S → Bool) : Bool := match x, y with
  | (f, j, _, _), (f', k, _, _) => bif Nat.beq f 1 && Nat.beq f' 1 && s_fitk kd a b then K env (kd, (3, j, 0, k), s_x0) else s_psk kd env a b K
noncomputable def s_sbt (kd : Nat) (env : List s_R) (x y : s_X) (K : List s_R → s_S → Bool) : Bool := s_xk env x fun a b => s_xk env y fun c d => bif i_beq c d then s_adc kd env x a b (-c) K else s_sbd kd env x y (a - d) (b - c) K
def s_mn4 (a b c d : Int) : Int := s_mn (s_mn a b) (s_mn c d)
def s_mx4 (a b c d : Int) : Int := s_mx (s_mx a b) (s_mx c d)
noncomputable def s_full (kd : Nat) (env : List s_R) (K : List s_R → s_S → Bool) : Bool := match kd with
  | 0 => s_psh env (-2147483648) 2147483647 fun env x => K env (0, x, s_x0)
  | _ => s_psh env (-9223372036854775808) 9223372036854775807 fun env x => K env (kd, x, s_x0)
def s_nz (c d : Int) : Bool := i_blt 0 c || i_blt d 0
/-- both are numbers: the number -/
noncomputable def s_cc (v kd : Nat) (env : List s_R) (a c : Int) (K : List s_R → s_S → Bool) : Bool := match i_bin v (kd, a, a) (kd, c, c) with
  | some (u, r, r') => Nat.beq u kd && i_beq r r' && i_fZ r fun r => K env (kd, (0, 0, r, 0), s_x0)
  | none => false
noncomputable def s_mul (v kd : Nat) (env : List s_R) (x y : s_X) (K : List s_R → s_S → Bool) : Bool := s_xk env x fun a b => s_xk env y fun c d => bif i_beq a b && i_beq c d then s_cc v kd env a c K else s_psk kd env (s_mn4 (a * c) (a * d) (b * c) (b * d)) (s_mx4 (a * c) (a * d) (b * c) (b * d)) K
noncomputable def s_div (v kd : Nat) (env : List s_R) (x y : s_X) (K : List s_R → s_S → Bool) : Bool := s_xk env x fun a b => s_xk env y fun c d => s_nz c d && (bif i_beq a b && i_beq c d then s_cc v kd env a c K else s_full kd env K)
noncomputable def s_rem (v kd : Nat) (env : List s_R) (x y : s_X) (K : List s_R → s_S → Bool) : Bool := s_xk env x fun a b => s_xk env y fun c d => s_nz c d && (bif i_beq a b && i_beq c d then s_cc v kd env a c K else bif i_blt 0 c then (bif i_ble 0 a then s_psk kd env 0 (s_mn b (d - 1)) K else s_psk kd env (1 - d) (d - 1) K) else s_full kd env K)
noncomputable def s_oth (v kd : Nat) (env : List s_R) (x y : s_X) (K : List s_R → s_S → Bool) : Bool := s_xk env x fun a b => s_xk env y fun c d => bif i_beq a b && i_beq c d then s_cc v kd env a c K else s_full kd env K
noncomputable def s_bin (v : Nat) (env : List s_R) (X Y : s_S) (K : List s_R → s_S → Bool) : Bool := match X, Y with
  | (k, x, _), (k', y, _) => match k, k' with
    | 0, 0 => (match v with
      | 0 => s_add 0 env x y K
      | 1 => s_sbt 0 env x y K
      | 2 => s_mul 2 0 env x y K
      | 3 => s_div 3 0 env x y K
      | 4 => s_rem 4 0 env x y K
      | 5 => s_oth 5 0 env x y K
      | 6 => s_oth 6 0 env x y K
      | 7 => s_oth 7 0 env x y K
      | 8 => s_oth 8 0 env x y K
      | 9 => s_oth 9 0 env x y K
      | 10 => s_oth 10 0 env x y K
      | _ => false)
    | 1, 1 => (match v with
      | 11 => s_add 1 env x y K
      | 12 => s_sbt 1 env x y K
      | 13 => s_mul 13 1 env x y K
      | 14 => s_div 14 1 env x y K
      | 15 => s_rem 15 1 env x y K
      | 16 => s_oth 16 1 env x y K
      | 17 => s_oth 17 1 env x y K
      | 19 => K env (5, x, y)
      | _ => false)
    | 1, 0 => (match v with
      | 18 => s_full 1 env K
      | _ => false)
    | _, _ => false
/-- of a number: the number -/
noncomputable def s_uc (v : Nat) (env : List s_R) (a : Int) (K : List s_R → s_S → Bool) : Bool := match i_un v (0, a, a) with
  | some (u, r, r') => Nat.beq u 0 && i_beq r r' && i_fZ r fun r => K env (0, (0, 0, r, 0), s_x0)
  | none => false
noncomputable def s_un (v : Nat) (env : List s_R) (X : s_S) (K : List s_R → s_S → Bool) : Bool := match X with
  | (k, x, _) => match k with
    | 0 => (match v with
      | 0 => s_full 0 env K
      | 1 => s_xk env x fun a b => bif i_beq a b then s_uc 1 env a K else s_full 0 env K
      | 2 => s_full 0 env K
      | 3 => s_xk env x fun a b => i_ble 0 a && i_ble b 65535 && K env (0, x, s_x0)
      | 4 => K env (1, x, s_x0)
      | 6 => s_xk env x fun a b => i_ble 0 a && i_ble b 65535 && K env (0, x, s_x0)
      | _ => false)
    | 1 => (match v with
      | 5 => s_xk env x fun a b => bif s_i32 a b then K env (0, x, s_x0) else s_full 0 env K
      | _ => false)
    | _ => false

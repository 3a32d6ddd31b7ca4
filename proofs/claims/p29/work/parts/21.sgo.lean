/-- a pattern: kind; 0 a range, 1 what variable j was at the start; j; least; most -/
abbrev s_P : Type := Nat × Nat × Nat × Int × Int
/-- an end: ranges of the start's variables; what is answered; places (type, cell, place, pattern) -/
abbrev s_O : Type := List (Int × Int) × Option s_P × List (Nat × Nat × Nat × s_P)
/-- what is known of a method: its number, frames, arguments, places at the start (type, cell, place, range), types that it may write, ends -/
abbrev s_U : Type := Nat × Nat × List s_Q × List (Nat × Nat × Nat × s_Q) × List Nat × List s_O
/-- a state at a pc: ranges, locals, stack, places; a bound of the steps that are left: a number and multiples of variables -/
abbrev s_C : Type := Nat × List s_R × List (Option s_S) × List s_S × List s_M × Int × List (Int × Nat)
/-- where a run is split by a variable: pc; 0 a local, 1 a place, 2 the stack's top; which; cuts -/
abbrev s_Y : Type := Nat × Nat × Nat × Nat × Nat × List Int
abbrev s_I : Type := s_U × List s_C × List s_Y × Int
abbrev s_KK : Type := Nat → List s_R → List (Option s_S) → List s_S → List s_M → Bool
/-- 0 int, 1 long, 2 other -/
def s_k2 (kd : Nat) : Nat := match kd with
  | 0 => 0
  | 1 => 1
  | 5 => 0
  | _ => 2
def s_cats : List s_S → Nat
  | [] => 0
  | a :: l => (bif Nat.beq (s_k2 a.1) 1 then 2 else 1) + s_cats l
def s_p1 (st : List s_S) (f : s_S → List s_S → Bool) : Bool := match st with
  | a :: r => f a r
  | [] => false
def s_pop : Nat → List s_S → List s_S → (List s_S → List s_S → Bool) → Bool
  | 0, st, acc, k => k acc st
  | _ + 1, [], _, _ => false
  | n + 1, a :: st, acc, k => s_pop n st (a :: acc) k
noncomputable def s_st2 (lo : List (Option s_S)) (x : Nat) (v : s_S) (k : List (Option s_S) → Bool) : Bool := q_set lo x (some v) fun lo => bif Nat.beq (s_k2 v.1) 1 then q_set lo (x + 1) none k else k lo
noncomputable def s_sto (lo : List (Option s_S)) (x : Nat) (v : s_S) (k : List (Option s_S) → Bool) : Bool := match x with
  | 0 => s_st2 lo 0 v k
  | x' + 1 => match q_nth lo x' with
    | some (some w) => bif Nat.beq (s_k2 w.1) 1 then q_set lo x' none fun lo => s_st2 lo (x' + 1) v k else s_st2 lo (x' + 1) v k
    | _ => bif Nat.blt x' lo.length then s_st2 lo (x' + 1) v k else false
/-- the arguments fit what is known of a method -/
noncomputable def s_am (env : List s_R) : List s_Q → List s_S → Bool
  | [], [] => true
  | q :: qs, s :: ss => Nat.beq s.1 q.1 && !Nat.beq q.1 5 && (s_xk env s.2.1 fun a b => i_ble q.2.1 a && i_ble b q.2.2) && s_am env qs ss
  | _, _ => false
noncomputable def s_pm (env : List s_R) (mm : List s_M) : List (Nat × Nat × Nat × s_Q) → Bool
  | [] => true
  | (t, c, p, q) :: l => (match s_mg mm t (0, 0, .ofNat c, 0) p with
    | some s => Nat.beq s.1 q.1 && !Nat.beq q.1 5 && s_xk env s.2.1 fun a b => i_ble q.2.1 a && i_ble b q.2.2
    | none => false) && s_pm env mm l
def s_th1 : List s_S → List s_X
  | [] => []
  | s :: l => s.2.1 :: s_th1 l
def s_th2 (mm : List s_M) : List (Nat × Nat × Nat × s_Q) → List s_X
  | [] => []
  | (t, c, p, _) :: l => (match s_mg mm t (0, 0, .ofNat c, 0) p with
    | some s => s.2.1
    | none => s_x0) :: s_th2 mm l
noncomputable def s_rl : List s_X → List (Int × Int) → List s_R → (List s_R → Bool) → Bool
  | [], [], env, K => K env
  | x :: th, (a, b) :: rs, env, K => s_rx env x a b fun env => s_rl th rs env K
  | _, _, _, _ => false
/-- a value of a pattern -/
noncomputable def s_pv (th : List s_X) (env : List s_R) (P : s_P) (K : List s_R → s_S → Bool) : Bool := match P with
  | (kd, f, j, lo, hi) => match f with
    | 1 => s_ob (q_nth th j) fun x => K env (kd, x, s_x0)
    | _ => bif i_beq lo hi then K env (kd, (0, 0, lo, 0), s_x0) else s_psh env lo hi fun env x => K env (kd, x, s_x0)
noncomputable def s_pms (th : List s_X) : List (Nat × Nat × Nat × s_P) → List s_R → List s_M → (List s_R → List s_M → Bool) → Bool
  | [], env, mm, K => K env mm
  | (t, c, p, P) :: l, env, mm, K => s_pv th env P fun env s => s_pms th l env ((t, (0, 0, .ofNat c, 0), p, s) :: mm) K
noncomputable def s_end (th : List s_X) (mask : List Nat) (nx : Nat) (env : List s_R) (lo : List (Option s_S)) (st : List s_S) (mm : List s_M) (K : s_KK) (o : s_O) : Bool := match o with
  | (rs, ret, ms) => s_rl th rs env fun env => s_kl (fun m => s_in mask m.1) mm fun mm => s_pms th ms env mm fun env mm => match ret with
    | none => K nx env lo st mm
    | some P => s_pv th env P fun env s => K nx env lo (s :: st) mm
noncomputable def s_ends (f : s_O → Bool) : List s_O → Bool
  | [] => true
  | o :: l => f o && s_ends f l
def s_all : List Nat → (Nat → Bool) → Bool
  | [], _ => true
  | a :: l, f => f a && s_all l f
noncomputable def s_call (dp : Nat) (mask : List Nat) (nx : Nat) (env : List s_R) (lo : List (Option s_S)) (as st : List s_S) (mm : List s_M) (K : s_KK) : List s_U → Bool
  | [] => false
  | (_, dq, qs, ps, wm, os) :: l => bif s_am env qs as && s_pm env mm ps then Nat.blt dq dp && s_all wm (fun t => s_in mask t) && s_ends (s_end (s_th1 as ++ s_th2 mm ps) wm nx env lo st mm K) os else s_call dp mask nx env lo as st mm K l
/-- what a field or an answer of a kind asks -/
noncomputable def s_fv (env : List s_R) (v : Nat) (a : s_S) : Bool := match v with
  | 0 => Nat.beq a.1 0
  | 1 => Nat.beq a.1 1
  | 2 => Nat.beq a.1 0 && s_xk env a.2.1 fun a b => i_ble 0 a && i_ble b 65535
  | 3 => Nat.beq a.1 0 && s_xk env a.2.1 fun a b => i_ble 0 a && i_ble b 1
  | 4 => Nat.ble 10 a.1
  | 5 => Nat.beq a.1 0 && s_xk env a.2.1 fun a b => i_ble 0 a && i_ble b 1
  | _ => false
/-- what an array of a tag keeps as it is -/
noncomputable def s_kp (env : List s_R) (v : Nat) (a : s_S) : Bool := match v with
  | 10 => Nat.beq a.1 0
  | 11 => Nat.beq a.1 1
  | 12 => Nat.beq a.1 0 && s_xk env a.2.1 fun a b => i_ble 0 a && i_ble b 65535
  | _ => false
noncomputable def s_tg (kd : Nat) (f : Nat → Nat → s_D → Bool) : Bool := bif Nat.ble 10 kd then s_ob (s_td (kd - 10)) fun D => f (kd - 10) D.1 D else false
/-- a text constant; its bytes -/
def s_tx (a : s_S) (f : Nat → List Int → Bool) : Bool := Nat.beq a.1 4 && (match a.2.1 with
  | (0, _, .ofNat n, _) => s_ob (q_txs n) (f n)
  | _ => false)
def s_tb (a : s_S) (f : List Int → Bool) : Bool := Nat.beq a.1 4 && (match a.2.1 with
  | (0, _, .ofNat n, _) => s_ob (q_txs (n - 1000)) f
  | _ => false)
/-- what a call asks of its receiver -/
noncomputable def s_rcv (v : Nat) (tb : List Nat) (as : List s_S) : Bool := match v with
  | 0 => (match as with
    | r :: _ => s_tg r.1 fun _ tag _ => (match tb with
      | _ :: ci :: _ => Nat.beq tag ci
      | _ => false)
    | [] => false)
  | 1 => true
  | 4 => (match as with
    | r :: _ => s_tx r fun _ _ => true
    | [] => false)
  | _ => (match as with
    | r :: _ => Nat.ble 10 r.1
    | [] => false)
/-- an index into n places -/
noncomputable def s_ix (env : List s_R) (i : s_S) (n : Nat) (K : Nat → Nat → Bool) : Bool := Nat.beq i.1 0 && s_xk env i.2.1 fun a b => match a, b with
  | .ofNat a, .ofNat b => Nat.blt b n && K a b
  | _, _ => false
noncomputable def s_ald (env : List s_R) (mm : List s_M) (t : Nat) (D : s_D) (e : s_X) (i : s_S) (a b : Nat) (K : List s_R → List s_M → s_S → Bool) : Bool := bif Nat.beq a b then s_rd env mm t e a K else s_ob (s_hl D.2.2.1 a b) fun h => s_al D.2.2.1 a b (fun q => s_sub q h) && (bif Nat.ble 10 h.1 then s_fr env h fun env s => K env mm s else Nat.blt h.1 2 && (match s_va i.2.1 with
    | some (j, z) => i_fZ h.2.1 fun lo => i_fZ h.2.2 fun hi => i_fN env.length fun n => q_app env (1, lo, hi, t, j, z) fun env => K env mm (h.1, (1, n, 0, 0), s_x0)
    | none => s_psh env h.2.1 h.2.2 fun env x => K env mm (h.1, x, s_x0)))
/-- the value is one of a place that goes along with the index -/
noncomputable def s_dep (env : List s_R) (D : s_D) (i s : s_S) : Bool := match s.2.1 with
  | (1, j, _, _) => (match q_nth env j with
    | some (1, _, _, ts, jd, z) => (match s_va i.2.1 with
      | some (ji, zi) => Nat.beq ji jd && (match s_td ts with
        | some E => (match s_rg env jd with
          | some (lo, hi) => (match lo + z, lo + zi with
            | .ofNat a, .ofNat b => Nat.beq s.1 0 && s_al E.2.2.1 a (a + (hi - lo).toNat) (fun q => Nat.beq q.1 0) && s_pw E.2.2.1 D.2.2.1 a b ((hi - lo).toNat + 1)
            | _, _ => false)
          | none => false)
        | none => false)
      | none => false)
    | _ => false)
  | _ => false
noncomputable def s_ast (mask : List Nat) (env : List s_R) (mm : List s_M) (t : Nat) (D : s_D) (e : s_X) (i s : s_S) (a b : Nat) (K : List s_M → Bool) : Bool := bif Nat.beq a b then s_wr mask env mm t e a s K else s_in mask t && (s_al D.2.2.1 a b (fun q => s_fit env s q) || s_dep env D i s) && s_kl (fun m => Nat.beq m.1 t && Nat.ble a m.2.2.1 && Nat.ble m.2.2.1 b) mm K
noncomputable def s_sws (env : List s_R) (x : s_X) (lo : List (Option s_S)) (st : List s_S) (mm : List s_M) (K : s_KK) : Int → List Nat → Bool
  | _, [] => true
  | c, t :: tb => s_rx env x c c (fun env => K t env lo st mm) && i_fZ (c + 1) fun c => s_sws env x lo st mm K c tb
/-- one operation; dp: frames in all; sm: what is known of the methods -/
noncomputable def s_step (sm : Nat → List s_U) (dp : Nat) (mask : List Nat) (mi : q_MI) (env : List s_R) (lo : List (Option s_S)) (st : List s_S) (mm : List s_M) (K : s_KK) : Bool := match mi with
  | (op, v, c, x, y, nx, tb) => match op with
    | 0 => s_ob (q_nth lo x) fun oa => s_ob oa fun a => Nat.beq (s_k2 a.1) y && K nx env lo (a :: st) mm
    | 1 => s_p1 st fun r st => s_tg r.1 fun t tag _ => Nat.beq tag x && s_rd env mm t r.2.1 y fun env mm s => K nx env lo (s :: st) mm
    | 2 => i_fZ c fun c => s_i32 c c && K nx env lo ((0, (0, 0, c, 0), s_x0) :: st) mm
    | 3 => s_pop y st [] fun as st => Nat.ble (s_cats st) 8 && s_rcv v tb as && s_call dp mask nx env lo as st mm K (sm x)
    | 5 => s_p1 st fun i st => s_p1 st fun r st => s_tg r.1 fun t tag D => Nat.beq tag v && s_ix env i D.2.1 fun a b => s_ald env mm t D r.2.1 i a b fun env mm s => K nx env lo (s :: st) mm
    | 6 => s_p1 st fun b st => s_p1 st fun a st => s_bin v env a b fun env r => K nx env lo (r :: st) mm
    | 7 => K x env lo st mm
    | 8 => s_p1 st fun a st => bif Nat.beq a.1 5 then s_cb v a.2.1 a.2.2 env (fun env => K x env lo st mm) (fun env => K nx env lo st mm) else Nat.beq a.1 0 && s_cb v a.2.1 s_x0 env (fun env => K x env lo st mm) (fun env => K nx env lo st mm)
    | 9 => s_p1 st fun b st => s_p1 st fun a st => Nat.beq a.1 0 && Nat.beq b.1 0 && s_cb v a.2.1 b.2.1 env (fun env => K x env lo st mm) (fun env => K nx env lo st mm)
    | 10 => s_p1 st fun a st => s_p1 st fun r st => s_tg r.1 fun t tag _ => Nat.beq tag x && s_fv env (v % 10) a && s_wr mask env mm t r.2.1 y a fun mm => K nx env lo st mm
    | 11 => s_p1 st fun a st => Nat.beq (s_k2 a.1) y && s_sto lo x a fun lo => K nx env lo st mm
    | 12 => s_p1 st fun a st => s_p1 st fun i st => s_p1 st fun r st => s_tg r.1 fun t tag D => Nat.beq tag v && s_ix env i D.2.1 fun p q => s_kp env v a && s_ast mask env mm t D r.2.1 i a p q fun mm => K nx env lo st mm
    | 13 => s_ob (q_nth lo x) fun oa => s_ob oa fun a => Nat.beq a.1 0 && s_i32 c c && s_bin 0 env a (0, (0, 0, c, 0), s_x0) fun env r => s_sto lo x r fun lo => K nx env lo st mm
    | 14 => s_p1 st fun a st => s_un v env a fun env r => K nx env lo (r :: st) mm
    | 15 => i_fZ c fun c => s_i64 c c && K nx env lo ((1, (0, 0, c, 0), s_x0) :: st) mm
    | 16 => s_p1 st fun a st => !Nat.beq (s_k2 a.1) 1 && K nx env lo (a :: a :: st) mm
    | 17 => s_p1 st fun a st => s_p1 st fun b st => !Nat.beq (s_k2 a.1) 1 && !Nat.beq (s_k2 b.1) 1 && K nx env lo (a :: b :: a :: b :: st) mm
    | 18 => s_p1 st fun a st => Nat.beq a.1 0 && Nat.beq tb.length v && s_rx env a.2.1 (-2147483648) (c - 1) (fun env => K x env lo st mm) && s_rx env a.2.1 (c + .ofNat v) 2147483647 (fun env => K x env lo st mm) && s_sws env a.2.1 lo st mm K c tb
    | 19 => s_p1 st fun n st => s_p1 st fun dq st => s_p1 st fun d st => s_p1 st fun sq st => s_p1 st fun s st => Nat.blt 1 dp && Nat.ble (s_cats st) 8 && s_tg d.1 fun td tagd Dd => s_tg s.1 fun _ tags Ds => Nat.beq tagd tags && (Nat.beq tagd 10 || Nat.beq tagd 11) && s_ix env n 100000 fun _ n2 => s_ix env dq 100000 fun _ d2 => s_ix env sq 100000 fun _ s2 => Nat.ble (s2 + n2) Ds.2.1 && Nat.ble (d2 + n2) Dd.2.1 && s_in mask td && s_al Ds.2.2.1 0 Ds.2.1 (fun q => s_al Dd.2.2.1 0 Dd.2.1 fun h => s_sub q h) && s_kl (fun m => Nat.beq m.1 td) mm fun mm => K nx env lo st mm
    | 25 => s_p1 st fun a st => Nat.blt 1 dp && Nat.ble (s_cats st) 8 && Nat.beq a.1 0 && s_full 0 env fun env r => K nx env lo (r :: st) mm
    | 26 => s_p1 st fun b st => s_p1 st fun a st => Nat.blt 1 dp && Nat.ble (s_cats st) 8 && Nat.beq a.1 0 && Nat.beq b.1 0 && (Nat.beq v 20 || Nat.beq v 21) && s_oth v 0 env a.2.1 b.2.1 fun env r => K nx env lo (r :: st) mm
    | 27 => i_fZ c fun c => s_i32 c c && K nx env lo ((0, (0, 0, c, 0), s_x0) :: st) mm
    | 28 => s_p1 st fun a st => s_tx a fun n _ => match v with
      | 8 => K nx env lo ((4, (0, 0, .ofNat (n + 1000), 0), s_x0) :: st) mm
      | 9 => K nx env lo ((0, s_x0, s_x0) :: st) mm
      | _ => false
    | 29 => s_p1 st fun a st => Nat.beq v 10 && s_tb a fun l => K nx env lo ((0, (0, 0, .ofNat l.length, 0), s_x0) :: st) mm
    | 30 => s_p1 st fun i st => s_p1 st fun a st => Nat.beq v 22 && s_tb a fun l => s_ix env i l.length fun _ _ => s_psk 0 env 46 119 fun env r => K nx env lo (r :: st) mm
    | 24 => Nat.blt x 4294967296 && K nx env lo ((4, (0, 0, .ofNat x, 0), s_x0) :: st) mm
    | _ => false
/-- a value as a pattern of a state has it; th: what the pattern's variables from p on are -/
noncomputable def s_m1 (p : Nat) (cenv env : List s_R) (P A : s_S) (th : List s_X) (K : List s_X → Bool) : Bool := match P with
  | (kd, (f, j, z, _), _) => Nat.beq A.1 kd && !Nat.beq kd 5 && (match f with
    | 0 => (bif Nat.ble 10 kd then s_xe A.2.1 (0, 0, z, 0) else s_xk env A.2.1 fun a b => i_beq a z && i_beq b z) && K th
    | 1 => (bif Nat.blt j p then s_xe A.2.1 (1, j, 0, 0) && K th else (match q_nth th (j - p) with
      | some e => s_xe A.2.1 e && K th
      | none => Nat.beq (j - p) th.length && (match s_rg cenv j with
        | some (c, d) => s_xk env A.2.1 fun a b => i_ble c a && i_ble b d && q_app th A.2.1 K
        | none => false)))
    | _ => false)
noncomputable def s_ml (p : Nat) (cenv env : List s_R) : List (Option s_S) → List (Option s_S) → List s_X → (List s_X → Bool) → Bool
  | [], [], th, K => K th
  | none :: P, _ :: A, th, K => s_ml p cenv env P A th K
  | some a :: P, some b :: A, th, K => s_m1 p cenv env a b th fun th => s_ml p cenv env P A th K
  | _, _, _, _ => false
noncomputable def s_ms (p : Nat) (cenv env : List s_R) : List s_S → List s_S → List s_X → (List s_X → Bool) → Bool
  | [], [], th, K => K th
  | a :: P, b :: A, th, K => s_m1 p cenv env a b th fun th => s_ms p cenv env P A th K
  | _, _, _, _ => false
/-- the pattern's expression of a cell, as the state has it -/
noncomputable def s_me (p : Nat) (th : List s_X) (x : s_X) (K : s_X → Bool) : Bool := match x with
  | (f, j, z, _) => match f with
    | 0 => K (0, 0, z, 0)
    | 1 => bif Nat.blt j p then K (1, j, 0, 0) else s_ob (q_nth th (j - p)) K
    | _ => false
noncomputable def s_mw (p : Nat) (cenv env : List s_R) (mm : List s_M) : List s_M → List s_X → (List s_X → Bool) → Bool
  | [], th, K => K th
  | (t, x, pl, s) :: P, th, K => s_me p th x fun e => s_ob (s_mg mm t e pl) fun a => s_m1 p cenv env s a th fun th => s_mw p cenv env mm P th K
/-- the first p ranges lie in the pattern's -/
noncomputable def s_m0 (p : Nat) (cenv env : List s_R) : Bool := Nat.rec (motive := fun _ => Bool) true (fun j ih => ih && (match s_rg cenv j with
  | some (c, d) => (match s_rg env j with
    | some (a, b) => i_ble c a && i_ble b d
    | none => false)
  | none => false)) p
def s_m9 : List s_R → Bool
  | [] => true
  | (f, _) :: l => Nat.beq f 0 && s_m9 l
/-- bounds of a sum of multiples of expressions -/
noncomputable def s_lb (env : List s_R) : List (Int × s_X) → Option Int
  | [] => some 0
  | (w, x) :: l => match s_xi env x with
    | some (a, b) => (match s_lb env l with
      | some r => some ((bif i_ble 0 w then w * a else w * b) + r)
      | none => none)
    | none => none
def s_wn : List (Int × s_X) → List (Int × s_X)
  | [] => []
  | (w, x) :: l => (-w, x) :: s_wn l
def s_wv : List (Int × Nat) → List (Int × s_X)
  | [] => []
  | (w, j) :: l => (w, (1, j, 0, 0)) :: s_wv l
noncomputable def s_wt (p : Nat) (th : List s_X) : List (Int × Nat) → List (Int × s_X)
  | [] => []
  | (w, j) :: l => (w, bif Nat.blt j p then (1, j, 0, 0) else (match q_nth th (j - p) with
    | some e => e
    | none => (9, 0, 0, 0))) :: s_wt p th l
/-- a lower bound of the first sum less the second: what is alike ahead goes away -/
noncomputable def s_rk (env : List s_R) : List (Int × s_X) → List (Int × s_X) → Option Int
  | (w, x) :: A, (w', x') :: B => (match s_va x with
    | some (j, y) => (match s_va x' with
      | some (j', y') => bif Nat.beq j j' && i_beq w w' then (match s_rk env A B with
        | some r => some (w * (y - y') + r)
        | none => none) else s_lb env (((w, x) :: A) ++ s_wn ((w', x') :: B))
      | none => s_lb env (((w, x) :: A) ++ s_wn ((w', x') :: B)))
    | none => s_lb env (((w, x) :: A) ++ s_wn ((w', x') :: B)))
  | A, B => s_lb env (A ++ s_wn B)
/-- the state is one of a cut's, with steps enough -/
noncomputable def s_cm (p : Nat) (a0 : Int) (W0 : List (Int × Nat)) (t : Nat) (env : List s_R) (lo : List (Option s_S)) (st : List s_S) (mm : List s_M) (C : s_C) : Bool := match C with
  | (_, cenv, clo, cst, cmm, a, W) => s_m0 p cenv env && s_ml p cenv env clo lo [] fun th => s_ms p cenv env cst st th fun th => s_mw p cenv env mm cmm th fun th => Nat.beq (p + th.length) cenv.length && (match s_rk env (s_wv W0) (s_wt p th W) with
    | some r => i_ble (a + .ofNat t) (a0 + r)
    | none => false)
noncomputable def s_cms (f : s_C → Bool) (pc : Nat) : List s_C → Bool
  | [] => false
  | C :: l => (Nat.beq C.1 pc && f C) || s_cms f pc l
def s_cpc (pc : Nat) : List s_C → Bool
  | [] => false
  | C :: l => Nat.beq C.1 pc || s_cpc pc l
/-- own end -/
noncomputable def s_pk (p : Nat) (env : List s_R) (P : s_P) (s : s_S) : Bool := match P with
  | (kd, f, j, lo, hi) => Nat.beq s.1 kd && !Nat.beq kd 5 && (match f with
    | 1 => Nat.blt j p && s_xe s.2.1 (1, j, 0, 0)
    | _ => s_xk env s.2.1 fun a b => i_ble lo a && i_ble b hi)
noncomputable def s_rs (env : List s_R) : List (Int × Int) → Nat → Bool
  | [], _ => true
  | (lo, hi) :: l, j => (s_xk env (1, j, 0, 0) fun a b => i_ble lo a && i_ble b hi) && s_rs env l (j + 1)
noncomputable def s_pks (n : Nat) (env : List s_R) (mm : List s_M) : List (Nat × Nat × Nat × s_P) → Bool
  | [] => true
  | (t, c, p, P) :: l => (match s_mg mm t (0, 0, .ofNat c, 0) p with
    | some s => s_pk n env P s
    | none => false) && s_pks n env mm l
noncomputable def s_rr (p : Nat) (env : List s_R) (ret : Option s_P) (r : Option s_S) : Bool := match ret, r with
  | none, none => true
  | some P, some s => s_pk p env P s
  | _, _ => false
noncomputable def s_rt (p : Nat) (env : List s_R) (mm : List s_M) (r : Option s_S) : List s_O → Bool
  | [] => false
  | (rs, ret, ms) :: l => (Nat.beq rs.length p && s_rs env rs 0 && s_pks p env mm ms && s_rr p env ret r) || s_rt p env mm r l
noncomputable def s_ret (p : Nat) (os : List s_O) (v : Nat) (env : List s_R) (st : List s_S) (mm : List s_M) : Bool := bif Nat.beq v 4 then (match st with
    | [] => s_rt p env mm none os
    | _ => false) else (match st with
    | [a] => s_fv env v a && s_rt p env mm (some a) os
    | _ => false)
/-- the runs of a variable's parts -/
noncomputable def s_cut (env : List s_R) (j : Nat) (a b : Int) (K : List s_R → Bool) : Int → List Int → Bool
  | lo, [] => s_rv env j lo b K
  | lo, c :: cs => bif i_ble c a then s_cut env j a b K lo cs else bif i_blt b c then s_rv env j lo b K else s_rv env j lo (c - 1) K && s_cut env j a b K c cs
noncomputable def s_cutx (env : List s_R) (cs : List Int) (K : List s_R → Bool) (s : s_S) : Bool := match s.2.1 with
  | (1, j, _, _) => (match s_rg env j with
    | some (a, b) => s_cut env j a b K a cs
    | none => K env)
  | _ => K env
noncomputable def s_spl (pc : Nat) (env : List s_R) (lo : List (Option s_S)) (st : List s_S) (mm : List s_M) (K : List s_R → Bool) : List s_Y → Bool
  | [] => K env
  | (q, f, a, b, c, cs) :: l => bif Nat.beq q pc then (match f with
    | 0 => (match q_nth lo a with
      | some (some s) => s_cutx env cs K s
      | _ => K env)
    | 1 => (match s_mg mm a (0, 0, .ofNat b, 0) c with
      | some s => s_cutx env cs K s
      | none => K env)
    | _ => (match st with
      | s :: _ => s_cutx env cs K s
      | [] => K env)) else s_spl pc env lo st mm K l
noncomputable def s_go (sm : Nat → List s_U) (ins : Nat → Option q_MI) (dp p : Nat) (mask : List Nat) (os : List s_O) (cuts : List s_C) (spl : List s_Y) (a0 : Int) (W0 : List (Int × Nat)) (n : Nat) : Nat → s_KK :=
  Nat.rec (motive := fun _ => Nat → s_KK) (fun _ _ _ _ _ _ => false) (fun _ ih t pc env lo st mm => bif Nat.blt 0 t && s_cpc pc cuts then s_cms (s_cm p a0 W0 t env lo st mm) pc cuts else s_ob (ins pc) fun mi => s_spl pc env lo st mm (fun env => bif Nat.beq mi.1 4 then (match s_lb env (s_wv W0) with
    | some r => i_ble (.ofNat (t + 1)) (a0 + r)
    | none => false) && s_ret p os mi.2.1 env st mm else s_step sm dp mask mi env lo st mm fun pc env lo st mm => ih (t + 1) pc env lo st mm) spl) n
-- the start of a method
def s_env1 : List s_Q → List s_R
  | [] => []
  | q :: l => (0, q.2.1, q.2.2, 0, 0, 0) :: s_env1 l
def s_env2 : List (Nat × Nat × Nat × s_Q) → List s_R
  | [] => []
  | (_, _, _, q) :: l => (0, q.2.1, q.2.2, 0, 0, 0) :: s_env2 l
def s_sy (q : s_Q) (i : Nat) : s_S := (q.1, bif i_beq q.2.1 q.2.2 then (0, 0, q.2.1, 0) else (1, i, 0, 0), s_x0)
def s_lo1 : List s_Q → Nat → List (Option s_S)
  | [], _ => []
  | q :: l, i => bif Nat.beq (s_k2 q.1) 1 then some (s_sy q i) :: none :: s_lo1 l (i + 1) else some (s_sy q i) :: s_lo1 l (i + 1)
def s_mm1 : List (Nat × Nat × Nat × s_Q) → Nat → List s_M
  | [], _ => []
  | (t, c, p, q) :: l, i => (t, (0, 0, .ofNat c, 0), p, s_sy q i) :: s_mm1 l (i + 1)
/-- the second expression of a state's values is not used -/
def s_z0 : s_X → Bool
  | (f, j, z, k) => Nat.beq f 0 && Nat.beq j 0 && i_beq z 0 && Nat.beq k 0
def s_zl : List (Option s_S) → Bool
  | [] => true
  | none :: l => s_zl l
  | some s :: l => s_z0 s.2.2 && s_zl l
def s_zs : List s_S → Bool
  | [] => true
  | s :: l => s_z0 s.2.2 && s_zs l
def s_zm : List s_M → Bool
  | [] => true
  | m :: l => s_z0 m.2.2.2.2.2 && s_zm l
noncomputable def s_cks (sm : Nat → List s_U) (ins : Nat → Option q_MI) (dp p : Nat) (mask : List Nat) (os : List s_O) (cuts : List s_C) (spl : List s_Y) : List s_C → Bool
  | [] => true
  | (pc, env, lo, st, mm, a, W) :: l => s_m9 env && s_zl lo && s_zs st && s_zm mm && Nat.ble p env.length && (match s_lb env (s_wv W) with
    | some r => i_ble 0 (a + r)
    | none => false) && s_go sm ins dp p mask os cuts spl a W 3000 0 pc env lo st mm && s_cks sm ins dp p mask os cuts spl l
noncomputable def s_ck (sm : Nat → List s_U) (i : s_I) : Bool := match i with
  | ((k, dp, qs, ps, mask, os), cuts, spl, a0) => match q_I k with
    | (mx, ins) => Nat.blt k q_nm && Nat.blt 0 dp && Nat.ble (s_lo1 qs 0).length mx && i_ble a0 1000000 && s_go sm ins dp (qs.length + ps.length) mask os cuts spl a0 [] 3000 0 0 (s_env1 qs ++ s_env2 ps) (q_fill mx (s_lo1 qs 0)) [] (s_mm1 ps qs.length) && s_cks sm ins dp (qs.length + ps.length) mask os cuts spl cuts

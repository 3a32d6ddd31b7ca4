theorem a_ty (v : Value) : q_ty v = (a_of v).1 := by cases v <;> rfl
def a_st1 (lo : List (Option a_V)) (x : Nat) : List (Option a_V) := match x with
  | 0 => lo
  | y + 1 => (match lo[y]? with
    | some (some (1, _)) => lo.set y none
    | _ => lo)
def a_st (lo : List (Option a_V)) (x : Nat) (a : a_V) : List (Option a_V) := bif Nat.beq a.1 1 then ((a_st1 lo x).set x (some a)).set (x + 1) none else (a_st1 lo x).set x (some a)
theorem a_lr_set {cl : List (Option Value)} {lo : List (Option a_V)} {v : Value} {a : a_V} {x : Nat} (h : a_lr cl lo) (hv : a_of v = a) : a_lr (cl.set x (some v)) (lo.set x (some a)) := by
  refine ⟨by rw [List.length_set, List.length_set]; exact h.1, fun i b hb => ?_⟩
  rw [List.getElem?_set] at hb ⊢
  have e := h.1
  split at hb
  · rename_i e1
    rw [if_pos e1]
    split at hb
    · cases hb
      exact ⟨v, by rw [if_pos (by omega)], hv⟩
    · cases hb
  · rename_i e1
    rw [if_neg e1]
    exact h.2 i b hb
theorem a_lr_none {cl : List (Option Value)} {lo : List (Option a_V)} {x : Nat} (h : a_lr cl lo) : a_lr (cl.set x none) (lo.set x none) := by
  refine ⟨by rw [List.length_set, List.length_set]; exact h.1, fun i b hb => ?_⟩
  rw [List.getElem?_set] at hb ⊢
  split at hb
  · split at hb <;> cases hb
  · rename_i e1
    rw [if_neg e1]
    exact h.2 i b hb
theorem a_lr_none2 {cl : List (Option Value)} {lo : List (Option a_V)} {x : Nat} (h : a_lr cl lo) (hx : ∀ a, lo[x]? ≠ some (some a)) : a_lr (cl.set x none) lo := by
  refine ⟨by rw [List.length_set]; exact h.1, fun i b hb => ?_⟩
  rw [List.getElem?_set]
  have e1 : ¬ x = i := fun e => by subst e; exact hx b hb
  rw [if_neg e1]
  exact h.2 i b hb
theorem a_st2_ok {B : Type} {cl : List (Option Value)} {lo : List (Option a_V)} {v : Value} {a : a_V} {x : Nat} {kk : List (Option Value) → Option B} {r : B} (hs : q_st2 q_ty cl x v kk = some r) (h : a_lr cl lo) (hv : a_of v = a) : ∃ cl', kk cl' = some r ∧ a_lr cl' (bif Nat.beq a.1 1 then (lo.set x (some a)).set (x + 1) none else lo.set x (some a)) := by
  unfold q_st2 at hs
  rw [q_set_eq, a_ty, hv] at hs
  cases hc : Nat.beq a.1 1 with
  | true =>
    rw [hc, cond_true, q_set_eq] at hs
    exact ⟨_, hs, a_lr_none (a_lr_set h hv)⟩
  | false =>
    rw [hc, cond_false] at hs
    exact ⟨_, hs, a_lr_set h hv⟩
theorem a_st_ok {B : Type} {cl : List (Option Value)} {lo : List (Option a_V)} {v : Value} {a : a_V} {x : Nat} {kk : List (Option Value) → Option B} {r : B} (hs : q_st q_ty cl x v kk = some r) (h : a_lr cl lo) (hv : a_of v = a) : ∃ cl', kk cl' = some r ∧ a_lr cl' (a_st lo x a) := by
  unfold a_st
  cases x with
  | zero => exact a_st2_ok hs h hv
  | succ y =>
    unfold q_st at hs
    dsimp only at hs
    rw [q_nth_eq] at hs
    have hA : a_lr cl (a_st1 lo (y + 1)) → q_st2 q_ty cl (y + 1) v kk = some r → ∃ cl', kk cl' = some r ∧ a_lr cl' (bif Nat.beq a.1 1 then ((a_st1 lo (y + 1)).set (y + 1) (some a)).set (y + 1 + 1) none else (a_st1 lo (y + 1)).set (y + 1) (some a)) := fun g1 g2 => a_st2_ok g2 g1 hv
    have key : (∃ a', lo[y]? = some (some a')) ∨ ∀ a', lo[y]? ≠ some (some a') := by
      cases e : lo[y]? with
      | none => exact Or.inr (fun a' => by simp)
      | some o =>
        cases o with
        | none => exact Or.inr (fun a' => by simp)
        | some a' => exact Or.inl ⟨a', rfl⟩
    rcases key with ⟨a', ha⟩ | hn
    · obtain ⟨w, hw, hw2⟩ := h.2 y a' ha
      rw [hw] at hs
      have hs : (bif Nat.beq (q_ty w) 1 then q_set cl y none fun lo => q_st2 q_ty lo (y + 1) v kk else q_st2 q_ty cl (y + 1) v kk) = some r := hs
      rw [a_ty, hw2] at hs
      obtain ⟨k1, z1⟩ := a'
      by_cases c : k1 = 1
      · subst c
        have e1 : a_st1 lo (y + 1) = lo.set y none := by
          show (match lo[y]? with
            | some (some (1, _)) => lo.set y none
            | _ => lo) = _
          rw [ha]
          rfl
        have hs : (q_set cl y none fun lo => q_st2 q_ty lo (y + 1) v kk) = some r := hs
        rw [q_set_eq] at hs
        rw [e1]
        exact a_st2_ok hs (a_lr_none h) hv
      · have e1 : a_st1 lo (y + 1) = lo := by
          show (match lo[y]? with
            | some (some (1, _)) => lo.set y none
            | _ => lo) = _
          rw [ha]
          match k1, c with
          | 0, _ => rfl
          | n + 2, _ => rfl
          | 1, c => exact absurd rfl c
        have e2 : Nat.beq k1 1 = false := by
          cases e : Nat.beq k1 1 with
          | false => rfl
          | true => exact absurd (Nat.eq_of_beq_eq_true e) c
        have hs : (bif Nat.beq k1 1 then q_set cl y none fun lo => q_st2 q_ty lo (y + 1) v kk else q_st2 q_ty cl (y + 1) v kk) = some r := hs
        rw [e2, cond_false] at hs
        rw [e1]
        exact a_st2_ok hs h hv
    · have e1 : a_st1 lo (y + 1) = lo := by
        show (match lo[y]? with
          | some (some (1, _)) => lo.set y none
          | _ => lo) = _
        split
        · rename_i z e
          exact absurd e (hn _)
        · rfl
      rw [e1]
      split at hs
      · rename_i w hw
        cases hc : Nat.beq (q_ty w) 1 with
        | true =>
          rw [hc, cond_true, q_set_eq] at hs
          exact a_st2_ok hs (a_lr_none2 h hn) hv
        | false =>
          rw [hc, cond_false] at hs
          exact a_st2_ok hs h hv
      · exact a_st2_ok hs h hv
section a_rules2
variable {ρ : Type} {π : ρ → a_F} {kd k d N M pc x y nx v : Nat} {c : Int} {tb : List Nat} {lo lo' : List (Option a_V)} {st : List a_V} {H : a_P} {F A B : ρ} {a : a_V}
theorem a_w0 (hN : N ≤ M + 1) (hI : (q_I k).2 pc = some (0, v, c, x, y, nx, tb)) (hx : lo[x]? = some (some a)) (h : a_wp π kd k d M nx lo (a :: st) H F) : a_wp π kd k d N pc lo st H F := by
  refine a_step hN hI fun n r cl cs hp hn hl hs hh hr => ?_
  obtain ⟨oa, h1, h2⟩ := q_ob_some (show q_ob (q_nth cl x) (fun oa => q_ob oa fun a => q_gd (Nat.beq (q_ty a) y) (q_steps q_CO (q_I k).2 (q_run q_CO q_I 1000000 d) d n nx cl (a :: cs) hp)) = some r from hr)
  obtain ⟨w, h3, h4⟩ := q_ob_some h2
  obtain ⟨-, h5⟩ := q_gd_some h4
  obtain ⟨w', h6, h7⟩ := hl.2 x a hx
  subst h3
  rw [q_nth_eq, h6] at h1
  cases h1
  exact h n r cl (w :: cs) hp hn hl (by rw [List.map_cons, h7, hs]) hh h5
theorem a_w1 {h0 : Int} (hN : N ≤ M + 1) (hI : (q_I k).2 pc = some (1, v, c, x, y, nx, tb)) (hg : a_get H h0 x y = a) (h : a_wp π kd k d M nx lo (a :: st) H F) : a_wp π kd k d N pc lo ((2, h0) :: st) H F := by
  refine a_step hN hI fun n r cl cs hp hn hl hs hh hr => ?_
  obtain ⟨w, cs', rfl, e1, e2⟩ := a_map1 hs
  obtain ⟨g, h1, h2⟩ := q_ob_some (show q_ob (o_rf q_CO w) (fun g => q_ob (o_get q_CO hp g x y) fun a => q_steps q_CO (q_I k).2 (q_run q_CO q_I 1000000 d) d n nx cl (a :: cs') hp) = some r from hr)
  obtain ⟨u, h3, h4⟩ := q_ob_some h2
  obtain ⟨rfl, h5⟩ := a_of_ref e1 h1
  have h6 := a_cget hh h3
  rw [h5, hg] at h6
  exact h n r cl (u :: cs') hp hn hl (by rw [List.map_cons, h6, e2]) hh h4
theorem a_cst0 (c : Int) : a_of (q_cst 0 c) = (0, a_w c) := congrArg (Prod.mk 0) (Int32.toInt_ofInt (n := c))
theorem a_cst1 (c : Int) : a_of (q_cst 1 c) = (1, a_wl c) := congrArg (Prod.mk 1) (Int64.toInt_ofInt (n := c))
theorem a_w2 {z : Int} (hN : N ≤ M + 1) (hI : (q_I k).2 pc = some (2, v, c, x, y, nx, tb)) (hc : a_w c = z) (h : a_wp π kd k d M nx lo ((0, z) :: st) H F) : a_wp π kd k d N pc lo st H F := by
  refine a_step hN hI fun n r cl cs hp hn hl hs hh hr => ?_
  have hr : q_steps q_CO (q_I k).2 (q_run q_CO q_I 1000000 d) d n nx cl (q_cst 0 c :: cs) hp = some r := hr
  exact h n r cl _ hp hn hl (by rw [List.map_cons, a_cst0, hc, hs]) hh hr
theorem a_w27 {z : Int} (hN : N ≤ M + 1) (hI : (q_I k).2 pc = some (27, v, c, x, y, nx, tb)) (hc : a_w c = z) (h : a_wp π kd k d M nx lo ((0, z) :: st) H F) : a_wp π kd k d N pc lo st H F := by
  refine a_step hN hI fun n r cl cs hp hn hl hs hh hr => ?_
  have hr : q_steps q_CO (q_I k).2 (q_run q_CO q_I 1000000 d) d n nx cl (q_cst 0 c :: cs) hp = some r := hr
  exact h n r cl _ hp hn hl (by rw [List.map_cons, a_cst0, hc, hs]) hh hr
theorem a_w15 {z : Int} (hN : N ≤ M + 1) (hI : (q_I k).2 pc = some (15, v, c, x, y, nx, tb)) (hc : a_wl c = z) (h : a_wp π kd k d M nx lo ((1, z) :: st) H F) : a_wp π kd k d N pc lo st H F := by
  refine a_step hN hI fun n r cl cs hp hn hl hs hh hr => ?_
  have hr : q_steps q_CO (q_I k).2 (q_run q_CO q_I 1000000 d) d n nx cl (q_cst 1 c :: cs) hp = some r := hr
  exact h n r cl _ hp hn hl (by rw [List.map_cons, a_cst1, hc, hs]) hh hr
theorem a_w24 {z : Int} (hN : N ≤ M + 1) (hI : (q_I k).2 pc = some (24, v, c, x, y, nx, tb)) (hc : a_of (q_cst 2 (Int.ofNat x)) = (2, z)) (h : a_wp π kd k d M nx lo ((2, z) :: st) H F) : a_wp π kd k d N pc lo st H F := by
  refine a_step hN hI fun n r cl cs hp hn hl hs hh hr => ?_
  have hr : q_steps q_CO (q_I k).2 (q_run q_CO q_I 1000000 d) d n nx cl (q_cst 2 (Int.ofNat x) :: cs) hp = some r := hr
  exact h n r cl _ hp hn hl (by rw [List.map_cons, hc, hs]) hh hr
/-- a call: the arguments lie on the stack, the last one on top -/
theorem a_call {σ : Type} {π2 : σ → a_F} {kj : Nat} {args st0 : List a_V} {G : σ} (hN : N ≤ M + 1) (hI : (q_I k).2 pc = some (3, v, c, x, y, nx, tb)) (hS : a_mt π2 kj x args H G) (ht : args.reverse ++ st = st0) (hy : args.length = y) (h : ∀ (n : Nat) (r : q_R Value q_H) (cl : List (Option Value)) (cs : List Value) (q : q_R Value q_H), n ≤ M → a_lr cl lo → cs.map a_of = st → a_rr π2 kj q G → q_ret q nx cl cs (q_steps q_CO (q_I k).2 (q_run q_CO q_I 1000000 d) d n) = some r → a_rr π kd r F) : a_wp π kd k d N pc lo st0 H F := by
  refine a_step hN hI fun n r cl cs hp hn hl hs hh hr => ?_
  obtain ⟨as, rest, h1, h2, h3⟩ := q_pop_some y cs [] _ (show q_pop y cs [] (fun as st => q_gd (Nat.ble (q_cats q_ty st) 8) (q_gd (q_rcv q_CO v tb as hp) (q_ob (q_run q_CO q_I 1000000 d x as hp) fun r => q_ret r nx cl st (q_steps q_CO (q_I k).2 (q_run q_CO q_I 1000000 d) d n)))) = some r from hr)
  rw [List.append_nil] at h3
  obtain ⟨-, h3⟩ := q_gd_some h3
  obtain ⟨-, h3⟩ := q_gd_some h3
  obtain ⟨q, h4, h5⟩ := q_ob_some h3
  rw [h1, List.map_append, List.map_reverse, ← ht] at hs
  have hlen : (as.map a_of).reverse.length = args.reverse.length := by simp [h2, hy]
  obtain ⟨e1, e2⟩ := List.append_inj hs hlen
  have e3 := List.reverse_inj.mp e1
  exact h n r cl rest q hn hl e2 (hS d as hp q e3 hh h4) h5
/-- of a method that writes nothing -/
theorem a_w3p {π2 : Int → a_F} {kj : Nat} {args st0 : List a_V} {g : Int} (hN : N ≤ M + 1) (hI : (q_I k).2 pc = some (3, v, c, x, y, nx, tb)) (hS : a_mt π2 kj x args H g) (hp2 : π2 g = (g, H)) (hk : a_rk kj g = some (kj, g)) (ht : args.reverse ++ st = st0) (hy : args.length = y) (h : a_wp π kd k d M nx lo ((kj, g) :: st) H F) : a_wp π kd k d N pc lo st0 H F := by
  refine a_call hN hI hS ht hy fun n r cl cs q hn hl hs hq hr => ?_
  obtain ⟨h1, h2⟩ := hq
  rw [hp2] at h1 h2
  rw [hk] at h1
  obtain ⟨o, hp⟩ := q
  cases o with
  | none => cases h1
  | some w =>
    have h1 : some (a_of w) = some (kj, g) := h1
    rw [Option.some.injEq] at h1
    exact h n r cl (w :: cs) hp hn hl (by rw [List.map_cons, h1, hs]) h2 hr
/-- of a method that answers and writes -/
theorem a_w3i {kj : Nat} {args st0 : List a_V} {G : a_F} {f : a_F → ρ} (hN : N ≤ M + 1) (hI : (q_I k).2 pc = some (3, v, c, x, y, nx, tb)) (hS : a_mt id kj x args H G) (hk : ∀ z, a_rk kj z = some (kj, z)) (ht : args.reverse ++ st = st0) (hy : args.length = y) (h : ∀ g : a_F, a_wp π kd k d M nx lo ((kj, g.1) :: st) g.2 (f g)) : a_wp π kd k d N pc lo st0 H (a_bd G f) := by
  refine a_call hN hI hS ht hy fun n r cl cs q hn hl hs hq hr => ?_
  obtain ⟨h1, h2⟩ := hq
  have h1 : q.1.map a_of = a_rk kj G.1 := h1
  rw [hk] at h1
  obtain ⟨o, hp⟩ := q
  cases o with
  | none => cases h1
  | some w =>
    have h1 : some (a_of w) = some (kj, G.1) := h1
    rw [Option.some.injEq] at h1
    exact h G n r cl (w :: cs) hp hn hl (by rw [List.map_cons, h1, hs]) h2 hr
/-- of a method that only writes -/
def a_pv (H : a_P) : a_F := (0, H)
theorem a_w3v {args st0 : List a_V} {G : a_P} {f : a_P → ρ} (hN : N ≤ M + 1) (hI : (q_I k).2 pc = some (3, v, c, x, y, nx, tb)) (hS : a_mt a_pv 9 x args H G) (ht : args.reverse ++ st = st0) (hy : args.length = y) (h : ∀ g : a_P, a_wp π kd k d M nx lo st g (f g)) : a_wp π kd k d N pc lo st0 H (a_bd G f) := by
  refine a_call hN hI hS ht hy fun n r cl cs q hn hl hs hq hr => ?_
  obtain ⟨h1, h2⟩ := hq
  obtain ⟨o, hp⟩ := q
  cases o with
  | some w => cases h1
  | none => exact h G n r cl cs hp hn hl hs h2 hr
theorem a_w4 {z : Int} {kk : Nat} (hN : N ≤ M + 1) (hI : (q_I k).2 pc = some (4, v, c, x, y, nx, tb)) (hv : Nat.beq v 4 = false) (hk : a_rk kd z = some (kk, z)) (hF : π F = (z, H)) : a_wp π kd k d N pc lo ((kk, z) :: st) H F := by
  refine a_step hN hI fun n r cl cs hp hn hl hs hh hr => ?_
  obtain ⟨w, cs', rfl, e1, e2⟩ := a_map1 hs
  have hr : (bif Nat.beq v 4 then q_gd (q_nil (w :: cs')) (some (none, hp)) else q_gd (q_nil cs' && o_fit q_CO v w) (some (some w, hp))) = some r := hr
  rw [hv, cond_false] at hr
  obtain ⟨-, hr⟩ := q_gd_some hr
  cases hr
  unfold a_rr
  rw [hF]
  exact ⟨by rw [hk, ← e1]; rfl, hh⟩
theorem a_w4v (hN : N ≤ M + 1) (hI : (q_I k).2 pc = some (4, 4, c, x, y, nx, tb)) (hk : Nat.beq kd 9 = true) (hF : (π F).2 = H) : a_wp π kd k d N pc lo st H F := by
  refine a_step hN hI fun n r cl cs hp hn hl hs hh hr => ?_
  obtain ⟨-, hr⟩ := q_gd_some (show q_gd (q_nil cs) (some ((none : Option Value), hp)) = some r from hr)
  cases hr
  unfold a_rr
  rw [hF]
  exact ⟨by unfold a_rk; rw [hk]; rfl, hh⟩
theorem a_arr {n : Nat} {r : q_R Value q_H} {cl : List (Option Value)} {cs : List Value} {hp : q_H} {i h0 : Int} (hs : cs.map a_of = (0, i) :: (2, h0) :: st) (hr : q_step q_CO (q_run q_CO q_I 1000000 d) d (5, v, c, x, y, nx, tb) cl cs hp (q_steps q_CO (q_I k).2 (q_run q_CO q_I 1000000 d) d n) = some r) (hh : a_hr hp H) : ∃ (u : Value) (cs' : List Value) (j g : Nat), (j : Int) = i ∧ (g : Int) = h0 ∧ a_of u = a_get H g v j ∧ cs'.map a_of = st ∧ q_steps q_CO (q_I k).2 (q_run q_CO q_I 1000000 d) d n nx cl (u :: cs') hp = some r := by
  obtain ⟨w, cs', rfl, e1, e2⟩ := a_map1 hs
  obtain ⟨w2, cs', rfl, e3, e4⟩ := a_map1 e2
  obtain ⟨j, h1, h2⟩ := q_ob_some (show q_ob (o_ix q_CO w) (fun j => q_ob (o_rf q_CO w2) fun h => q_ob (o_get q_CO hp h v j) fun a => q_steps q_CO (q_I k).2 (q_run q_CO q_I 1000000 d) d n nx cl (a :: cs') hp) = some r from hr)
  obtain ⟨g, h3, h4⟩ := q_ob_some h2
  obtain ⟨u, h5, h6⟩ := q_ob_some h4
  obtain ⟨rfl, h7⟩ := a_of_ref e3 h3
  exact ⟨u, cs', j, g, a_ix e1 h1, h7, a_cget hh h5, e4, h6⟩
theorem a_w5 {i h0 : Int} {kk : Nat} (hN : N ≤ M + 1) (hI : (q_I k).2 pc = some (5, v, c, x, y, nx, tb)) (hk : ∀ j, a_get H h0 v j = (kk, H h0 (j : Int))) (h : a_wp π kd k d M nx lo ((kk, H h0 i) :: st) H F) : a_wp π kd k d N pc lo ((0, i) :: (2, h0) :: st) H F := by
  refine a_step hN hI fun n r cl cs hp hn hl hs hh hr => ?_
  obtain ⟨u, cs', j, g, rfl, rfl, e1, e2, e3⟩ := a_arr hs hr hh
  rw [hk] at e1
  exact h n r cl (u :: cs') hp hn hl (by rw [List.map_cons, e1, e2]) hh e3
theorem a_w5r {i h0 : Int} (hN : N ≤ M + 1) (hI : (q_I k).2 pc = some (5, v, c, x, y, nx, tb)) (hk : ∀ j, a_get H h0 v j = (2, a_rc h0 v (j : Int))) (h : a_wp π kd k d M nx lo ((2, a_rc h0 v i) :: st) H F) : a_wp π kd k d N pc lo ((0, i) :: (2, h0) :: st) H F := by
  refine a_step hN hI fun n r cl cs hp hn hl hs hh hr => ?_
  obtain ⟨u, cs', j, g, rfl, rfl, e1, e2, e3⟩ := a_arr hs hr hh
  rw [hk] at e1
  exact h n r cl (u :: cs') hp hn hl (by rw [List.map_cons, e1, e2]) hh e3
theorem a_w6 {ka kb : Nat} {p q : Int} (hN : N ≤ M + 1) (hI : (q_I k).2 pc = some (6, v, c, x, y, nx, tb)) (ha : a_bin v p q = a) (h : a_wp π kd k d M nx lo (a :: st) H F) : a_wp π kd k d N pc lo ((kb, q) :: (ka, p) :: st) H F := by
  refine a_step hN hI fun n r cl cs hp hn hl hs hh hr => ?_
  obtain ⟨w, cs', rfl, e1, e2⟩ := a_map1 hs
  obtain ⟨w2, cs', rfl, e3, e4⟩ := a_map1 e2
  obtain ⟨u, h1, h2⟩ := q_ob_some (show q_ob (q_bin v w2 w) (fun r => q_steps q_CO (q_I k).2 (q_run q_CO q_I 1000000 d) d n nx cl (r :: cs') hp) = some r from hr)
  exact h n r cl (u :: cs') hp hn hl (by rw [List.map_cons, a_bin_ok h1 e3 e1, ha, e4]) hh h2
theorem a_w30 {ka kb : Nat} {p q : Int} (hN : N ≤ M + 1) (hI : (q_I k).2 pc = some (30, v, c, x, y, nx, tb)) (ha : a_bin v p q = a) (h : a_wp π kd k d M nx lo (a :: st) H F) : a_wp π kd k d N pc lo ((kb, q) :: (ka, p) :: st) H F := by
  refine a_step hN hI fun n r cl cs hp hn hl hs hh hr => ?_
  obtain ⟨w, cs', rfl, e1, e2⟩ := a_map1 hs
  obtain ⟨w2, cs', rfl, e3, e4⟩ := a_map1 e2
  obtain ⟨u, h1, h2⟩ := q_ob_some (show q_ob (q_bin v w2 w) (fun r => q_steps q_CO (q_I k).2 (q_run q_CO q_I 1000000 d) d n nx cl (r :: cs') hp) = some r from hr)
  exact h n r cl (u :: cs') hp hn hl (by rw [List.map_cons, a_bin_ok h1 e3 e1, ha, e4]) hh h2
theorem a_w26 {ka kb : Nat} {p q : Int} (hN : N ≤ M + 1) (hI : (q_I k).2 pc = some (26, v, c, x, y, nx, tb)) (ha : a_bin v p q = a) (h : a_wp π kd k d M nx lo (a :: st) H F) : a_wp π kd k d N pc lo ((kb, q) :: (ka, p) :: st) H F := by
  refine a_step hN hI fun n r cl cs hp hn hl hs hh hr => ?_
  obtain ⟨w, cs', rfl, e1, e2⟩ := a_map1 hs
  obtain ⟨w2, cs', rfl, e3, e4⟩ := a_map1 e2
  obtain ⟨-, hr⟩ := q_gd_some (show q_gd (Nat.blt 0 d && Nat.ble (q_cats q_ty cs') 8) (q_ob (q_bin v w2 w) (fun r => q_steps q_CO (q_I k).2 (q_run q_CO q_I 1000000 d) d n nx cl (r :: cs') hp)) = some r from hr)
  obtain ⟨u, h1, h2⟩ := q_ob_some hr
  exact h n r cl (u :: cs') hp hn hl (by rw [List.map_cons, a_bin_ok h1 e3 e1, ha, e4]) hh h2
theorem a_w14 {ka : Nat} {p : Int} (hN : N ≤ M + 1) (hI : (q_I k).2 pc = some (14, v, c, x, y, nx, tb)) (ha : a_un v p = a) (h : a_wp π kd k d M nx lo (a :: st) H F) : a_wp π kd k d N pc lo ((ka, p) :: st) H F := by
  refine a_step hN hI fun n r cl cs hp hn hl hs hh hr => ?_
  obtain ⟨w, cs', rfl, e1, e2⟩ := a_map1 hs
  obtain ⟨u, h1, h2⟩ := q_ob_some (show q_ob (q_un v w) (fun r => q_steps q_CO (q_I k).2 (q_run q_CO q_I 1000000 d) d n nx cl (r :: cs') hp) = some r from hr)
  exact h n r cl (u :: cs') hp hn hl (by rw [List.map_cons, a_un_ok h1 e1, ha, e2]) hh h2
theorem a_w28 {ka : Nat} {p : Int} (hN : N ≤ M + 1) (hI : (q_I k).2 pc = some (28, v, c, x, y, nx, tb)) (ha : a_un v p = a) (h : a_wp π kd k d M nx lo (a :: st) H F) : a_wp π kd k d N pc lo ((ka, p) :: st) H F := by
  refine a_step hN hI fun n r cl cs hp hn hl hs hh hr => ?_
  obtain ⟨w, cs', rfl, e1, e2⟩ := a_map1 hs
  obtain ⟨u, h1, h2⟩ := q_ob_some (show q_ob (q_un v w) (fun r => q_steps q_CO (q_I k).2 (q_run q_CO q_I 1000000 d) d n nx cl (r :: cs') hp) = some r from hr)
  exact h n r cl (u :: cs') hp hn hl (by rw [List.map_cons, a_un_ok h1 e1, ha, e2]) hh h2
theorem a_w29 {ka : Nat} {p : Int} (hN : N ≤ M + 1) (hI : (q_I k).2 pc = some (29, v, c, x, y, nx, tb)) (ha : a_un v p = a) (h : a_wp π kd k d M nx lo (a :: st) H F) : a_wp π kd k d N pc lo ((ka, p) :: st) H F := by
  refine a_step hN hI fun n r cl cs hp hn hl hs hh hr => ?_
  obtain ⟨w, cs', rfl, e1, e2⟩ := a_map1 hs
  obtain ⟨u, h1, h2⟩ := q_ob_some (show q_ob (q_un v w) (fun r => q_steps q_CO (q_I k).2 (q_run q_CO q_I 1000000 d) d n nx cl (r :: cs') hp) = some r from hr)
  exact h n r cl (u :: cs') hp hn hl (by rw [List.map_cons, a_un_ok h1 e1, ha, e2]) hh h2
theorem a_w25 {ka : Nat} {p : Int} (hN : N ≤ M + 1) (hI : (q_I k).2 pc = some (25, v, c, x, y, nx, tb)) (ha : a_un 7 p = a) (h : a_wp π kd k d M nx lo (a :: st) H F) : a_wp π kd k d N pc lo ((ka, p) :: st) H F := by
  refine a_step hN hI fun n r cl cs hp hn hl hs hh hr => ?_
  obtain ⟨w, cs', rfl, e1, e2⟩ := a_map1 hs
  obtain ⟨-, hr⟩ := q_gd_some (show q_gd (Nat.blt 0 d && Nat.ble (q_cats q_ty cs') 8) (q_ob (q_un 7 w) (fun r => q_steps q_CO (q_I k).2 (q_run q_CO q_I 1000000 d) d n nx cl (r :: cs') hp)) = some r from hr)
  obtain ⟨u, h1, h2⟩ := q_ob_some hr
  exact h n r cl (u :: cs') hp hn hl (by rw [List.map_cons, a_un_ok h1 e1, ha, e2]) hh h2
theorem a_w7 (hN : N ≤ M + 1) (hI : (q_I k).2 pc = some (7, v, c, x, y, nx, tb)) (h : a_wp π kd k d M x lo st H F) : a_wp π kd k d N pc lo st H F := by
  refine a_step hN hI fun n r cl cs hp hn hl hs hh hr => ?_
  exact h n r cl cs hp hn hl hs hh hr
theorem a_w16 (hN : N ≤ M + 1) (hI : (q_I k).2 pc = some (16, v, c, x, y, nx, tb)) (h : a_wp π kd k d M nx lo (a :: a :: st) H F) : a_wp π kd k d N pc lo (a :: st) H F := by
  refine a_step hN hI fun n r cl cs hp hn hl hs hh hr => ?_
  obtain ⟨w, cs', rfl, e1, e2⟩ := a_map1 hs
  obtain ⟨-, hr⟩ := q_gd_some (show q_gd (!Nat.beq (q_ty w) 1) (q_steps q_CO (q_I k).2 (q_run q_CO q_I 1000000 d) d n nx cl (w :: w :: cs') hp) = some r from hr)
  exact h n r cl (w :: w :: cs') hp hn hl (by rw [List.map_cons, List.map_cons, e1, e2]) hh hr
theorem a_w17 {b : a_V} (hN : N ≤ M + 1) (hI : (q_I k).2 pc = some (17, v, c, x, y, nx, tb)) (h : a_wp π kd k d M nx lo (a :: b :: a :: b :: st) H F) : a_wp π kd k d N pc lo (a :: b :: st) H F := by
  refine a_step hN hI fun n r cl cs hp hn hl hs hh hr => ?_
  obtain ⟨w, cs', rfl, e1, e2⟩ := a_map1 hs
  obtain ⟨w2, cs', rfl, e3, e4⟩ := a_map1 e2
  obtain ⟨-, hr⟩ := q_gd_some (show q_gd (!Nat.beq (q_ty w) 1 && !Nat.beq (q_ty w2) 1) (q_steps q_CO (q_I k).2 (q_run q_CO q_I 1000000 d) d n nx cl (w :: w2 :: w :: w2 :: cs') hp) = some r from hr)
  exact h n r cl (w :: w2 :: w :: w2 :: cs') hp hn hl (by simp only [List.map_cons, e1, e3, e4]) hh hr
end a_rules2

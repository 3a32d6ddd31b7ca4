section q_ops
variable {p : Program} {l : Launch} {e : Env} {R : Room} {s : State} {m : MethodId} {args : Array Value} {below : List Frame} {meth : Method} {cd : Code} {Q : State → Prop} {D : va_G} {base : Nat} {sa : Nat → Nat} {n0 s0 k fr pc nx v x y : Nat} {c : Int} {tb : List Nat} {cal : Nat → List Value → q_H → Option (q_R Value q_H)} {lo : List (Option Value)} {st : List Value} {hp : q_H} {K : q_K Value q_H} {r : q_R Value q_H}
theorem g_0 (C : q_Cx p s m args meth cd R k fr n0 base sa) (hd : decode (q_mc k) pc = .ok (q_in pc 0 v c x nx tb)) (hn : nx = pc + (q_in pc 0 v c x nx tb).2) (hx : q_ex k 0 v c x y tb = true) (h : q_s0 q_CO cal fr (v, c, x, y, nx, tb) lo st hp K = some r) (kk : ∀ pc lo st hp, K pc lo st hp = some r → q_Go p l e R s m args below meth cd D base sa (q_I k).1 n0 s0 Q pc lo st hp) : q_Go p l e R s m args below meth cd D base sa (q_I k).1 n0 s0 Q pc lo st hp := by
  intro H locs cells slots ls hH hS hl h1 h2
  obtain ⟨xe, xb, xm, xo, xw, xr, xk, xn, xf, xl, xN, xs⟩ := C
  obtain ⟨oa, ha, h⟩ := q_ob_some h
  obtain ⟨a, rfl, h⟩ := q_ob_some h
  obtain ⟨ht, h⟩ := q_gd_some h
  have ht : q_ty a = y := Nat.eq_of_beq_eq_true ht
  rw [q_nth_eq] at ha
  have hls := q_lp_get hl ha
  have hk := kk _ _ _ _ h H locs cells slots ls hH hS hl h1 h2
  have hx : q_lx v x y = true := hx
  simp only [q_lx, Bool.and_eq_true, Bool.or_eq_true, decide_eq_true_eq] at hx
  obtain ⟨⟨h6, hy⟩, h4⟩ := hx
  rw [hy] at ht
  have hv : v = 0 ∨ v = 1 ∨ v = 2 ∨ v = 3 ∨ v = 4 ∨ v = 5 := by omega
  rcases hv with rfl | rfl | rfl | rfl | rfl | rfl
  · have hn : nx = pc + 1 := hn
    subst hn
    have h4 : x < 4 := by omega
    cases a <;> first | exact lv_iload_n xe xb hd (Nat.mod_eq_of_lt h4) hls hk | (simp [q_ty] at ht)
  · have hn : nx = pc + 2 := hn
    subst hn
    cases a <;> first | exact lv_iload xe xb hd hls hk | (simp [q_ty] at ht)
  · have hn : nx = pc + 1 := hn
    subst hn
    have h4 : x < 4 := by omega
    cases a <;> first | exact lv_lload_n xe xb hd (Nat.mod_eq_of_lt h4) hls hk | (simp [q_ty] at ht)
  · have hn : nx = pc + 2 := hn
    subst hn
    cases a <;> first | exact lv_lload xe xb hd hls hk | (simp [q_ty] at ht)
  · have hn : nx = pc + 1 := hn
    subst hn
    have h4 : x < 4 := by omega
    cases a <;> first | exact lv_aload_n xe xb hd (Nat.mod_eq_of_lt h4) hls hk | (simp [q_ty] at ht)
  · have hn : nx = pc + 2 := hn
    subst hn
    cases a <;> first | exact lv_aload xe xb hd hls hk | (simp [q_ty] at ht)
theorem q_ifn {A : Type} {c : Prop} [Decidable c] {a b : A} (h : (if c then none else some a) = some b) : ¬ c ∧ a = b := by
  by_cases hc : c
  · rw [if_pos hc] at h; cases h
  · rw [if_neg hc] at h; exact ⟨hc, Option.some.inj h⟩
theorem c_get_some {hp : q_H} {h t i : Nat} {a : Value} (hg : c_get hp h t i = some a) : ∃ vs : List Value, hp[h]? = some (t, vs) ∧ vs[i]? = some a := by
  obtain ⟨cl, h1, h2⟩ := q_ob_some hg
  obtain ⟨h3, h4⟩ := q_gd_some h2
  have h3 : cl.1 = t := Nat.eq_of_beq_eq_true h3
  rw [q_nth_eq] at h1 h4
  exact ⟨cl.2, by rw [h1, ← h3], h4⟩
theorem c_set_some {B : Type} {hp : q_H} {h t i : Nat} {a : Value} {kk : q_H → Option B} {r : B} (hg : c_set hp h t i a kk = some r) : ∃ vs : List Value, hp[h]? = some (t, vs) ∧ i < vs.length ∧ kk (hp.set h (t, vs.set i a)) = some r := by
  obtain ⟨cl, h1, h2⟩ := q_ob_some hg
  obtain ⟨h3, h4⟩ := q_gd_some h2
  rw [Bool.and_eq_true] at h3
  have h5 : cl.1 = t := Nat.eq_of_beq_eq_true h3.1
  have h6 : i < cl.2.length := Nat.lt_of_succ_le (Nat.le_of_ble_eq_true h3.2)
  rw [q_nth_eq] at h1
  rw [q_set_eq, q_set_eq] at h4
  exact ⟨cl.2, by rw [h1, ← h5], h6, by rw [← h5]; exact h4⟩
theorem c_tag_some {hp : q_H} {h t : Nat} (hg : c_tag hp h = some t) : ∃ vs : List Value, hp[h]? = some (t, vs) := by
  obtain ⟨cl, h1, h2⟩ := q_ob_some hg
  rw [q_nth_eq] at h1
  cases h2
  exact ⟨cl.2, h1⟩
theorem q_rf_some {r : Value} {h : Nat} (hr : q_rf r = some h) : r = .ref h := by
  cases r <;> first | (cases hr; rfl) | cases hr
theorem q_ix_some {r : Value} {j : Nat} (hr : q_ix r = some j) : ∃ i : Int32, r = .int i ∧ ¬ i < 0 ∧ i.toNatClampNeg = j := by
  cases r with
  | int i =>
    obtain ⟨h0, h1⟩ := q_ifn (show (if i < 0 then none else some i.toNatClampNeg) = some j from hr)
    exact ⟨i, rfl, h0, h1⟩
  | _ => cases hr
theorem g_1 (C : q_Cx p s m args meth cd R k fr n0 base sa) (hd : decode (q_mc k) pc = .ok (q_in pc 1 v c x nx tb)) (hn : nx = pc + (q_in pc 1 v c x nx tb).2) (hx : q_ex k 1 v c x y tb = true) (h : q_s1 q_CO cal fr (v, c, x, y, nx, tb) lo st hp K = some r) (kk : ∀ pc lo st hp, K pc lo st hp = some r → q_Go p l e R s m args below meth cd D base sa (q_I k).1 n0 s0 Q pc lo st hp) : q_Go p l e R s m args below meth cd D base sa (q_I k).1 n0 s0 Q pc lo st hp := by
  intro H locs cells slots ls hH hS hl h1 h2
  obtain ⟨xe, xb, xm, xo, xw, xr, xk, xn, xf, xl, xN, xs⟩ := C
  obtain ⟨a, st, rfl, h⟩ := q_p1_some h
  obtain ⟨ad, ha, h⟩ := q_ob_some h
  obtain ⟨w, hw, h⟩ := q_ob_some h
  have hk := kk _ _ _ _ h H locs cells slots ls hH hS hl h1 h2
  clear h
  have ha := q_rf_some (show q_rf a = some ad from ha)
  subst ha
  obtain ⟨vs, g1, g2⟩ := c_get_some (show c_get hp ad x y = some w from hw)
  have hx : (decide (x < 7) && decide (y < q_cN x) && decide ((q_cT x y).1 = q_cR x) && q_at (q_t0 tb) (.fieldLink (q_mn k).cls c.toNat (q_cR x) (q_cT x y).2.1 (q_cT x y).2.2.1)) = true := hx
  simp only [Bool.and_eq_true, decide_eq_true_eq] at hx
  obtain ⟨⟨⟨x7, yN⟩, hT⟩, hlk⟩ := hx
  have hn : nx = pc + 3 := hn
  subst hn
  obtain ⟨ws, tys, hK, hP, hR⟩ := hH
  obtain ⟨en, e1, e2⟩ := hR.2 ad _ g1
  rcases e2 with ⟨-, e2⟩ | ⟨e2, -⟩ | ⟨e2, -⟩ | ⟨e2, -⟩ | ⟨e2, -⟩ | ⟨e2, -⟩
  · subst e2
    exact va_get (D := D) xe xb xw (q_cin x x7) xo hK hP ad e1 (q_cl_at x x7) y yN (xw _ (q_at_mem hlk)) (fun _ h9 => by rw [← hT]; exact h9) (by rw [List.getElem?_map, g2]; rfl) hd hk
  all_goals (simp only at e2; omega)
theorem g_2 (C : q_Cx p s m args meth cd R k fr n0 base sa) (hd : decode (q_mc k) pc = .ok (q_in pc 2 v c x nx tb)) (hn : nx = pc + (q_in pc 2 v c x nx tb).2) (hx : q_ex k 2 v c x y tb = true) (h : q_s2 q_CO cal fr (v, c, x, y, nx, tb) lo st hp K = some r) (kk : ∀ pc lo st hp, K pc lo st hp = some r → q_Go p l e R s m args below meth cd D base sa (q_I k).1 n0 s0 Q pc lo st hp) : q_Go p l e R s m args below meth cd D base sa (q_I k).1 n0 s0 Q pc lo st hp := by
  intro H locs cells slots ls hH hS hl h1 h2
  obtain ⟨xe, xb, xm, xo, xw, xr, xk, xn, xf, xl, xN, xs⟩ := C
  have hk := kk nx lo (q_cst 0 c :: st) hp h H locs cells slots ls hH hS hl h1 h2
  have hv : v = 0 ∨ v = 1 ∨ v = 2 ∨ v = 3 ∨ 4 ≤ v := by omega
  rcases hv with rfl | rfl | rfl | rfl | hv
  · have hn : nx = pc + 1 := hn
    subst hn
    exact lv_iconst xe xb hd rfl hk
  · have hn : nx = pc + 2 := hn
    subst hn
    exact lv_bipush xe xb hd (of_decide_eq_true hx) hk
  · have hn : nx = pc + 3 := hn
    subst hn
    exact lv_sipush xe xb hd (of_decide_eq_true hx) hk
  · have hn : nx = pc + 2 := hn
    subst hn
    exact lv_ldc xe xb xo (xw _ (q_at_mem hx)) hd hk
  · obtain ⟨w, rfl⟩ : ∃ w, v = w + 4 := ⟨v - 4, by omega⟩
    have hn : nx = pc + 3 := hn
    subst hn
    exact lv_ldcw xe xb xo (xw _ (q_at_mem hx)) hd hk
theorem vp_in_of0 {i : Int32} {n : Nat} (h0 : ¬ i < 0) (h : i.toNatClampNeg < n) : vp_in i n := fun h9 => h9.elim h0 (fun h9 => absurd h (Nat.not_lt.mpr h9))
theorem g_5 (C : q_Cx p s m args meth cd R k fr n0 base sa) (hd : decode (q_mc k) pc = .ok (q_in pc 5 v c x nx tb)) (hn : nx = pc + (q_in pc 5 v c x nx tb).2) (hx : q_ex k 5 v c x y tb = true) (h : q_s5 q_CO cal fr (v, c, x, y, nx, tb) lo st hp K = some r) (kk : ∀ pc lo st hp, K pc lo st hp = some r → q_Go p l e R s m args below meth cd D base sa (q_I k).1 n0 s0 Q pc lo st hp) : q_Go p l e R s m args below meth cd D base sa (q_I k).1 n0 s0 Q pc lo st hp := by
  intro H locs cells slots ls hH hS hl h1 h2
  obtain ⟨xe, xb, xm, xo, xw, xr, xk, xn, xf, xl, xN, xs⟩ := C
  obtain ⟨iv, st, rfl, h⟩ := q_p1_some h
  obtain ⟨a, st, rfl, h⟩ := q_p1_some h
  obtain ⟨j, hj, h⟩ := q_ob_some h
  obtain ⟨ad, ha, h⟩ := q_ob_some h
  obtain ⟨w, hw, h⟩ := q_ob_some h
  have hk := kk _ _ _ _ h H locs cells slots ls hH hS hl h1 h2
  clear h
  have ha := q_rf_some (show q_rf a = some ad from ha)
  subst ha
  obtain ⟨i, rfl, i0, ij⟩ := q_ix_some (show q_ix iv = some j from hj)
  subst ij
  obtain ⟨vs, g1, g2⟩ := c_get_some (show c_get hp ad v i.toNatClampNeg = some w from hw)
  have hx : (decide (10 ≤ v) && decide (v ≤ 14)) = true := hx
  simp only [Bool.and_eq_true, decide_eq_true_eq] at hx
  have hlt : i.toNatClampNeg < vs.length := (List.getElem?_eq_some_iff.mp g2).1
  obtain ⟨ws, tys, hK, hP, hR⟩ := hH
  obtain ⟨en, e1, e2⟩ := hR.2 ad _ g1
  rcases e2 with ⟨e2, -⟩ | ⟨e2, cA, t0, f, e3, e4, e5⟩ | ⟨e2, cA, t0, f, e3, e4, e5⟩ | ⟨e2, cA, t0, f, e3, e4, e5⟩ | ⟨e2, cA, t0, f, e3, e4, e5⟩ | ⟨e2, cA, t0, f, e3, e4, e5⟩
  · simp only at e2; omega
  · simp only at e2; subst e2; subst e3
    have hn : nx = pc + 1 := hn
    subst hn
    have e6 := e5 _ _ g2
    subst e6
    exact va_iald (D := D) xe xb hK hP ad t0 e1 e4 (vp_in_of0 i0 hlt) hd hk
  · simp only at e2; subst e2; subst e3
    have hn : nx = pc + 1 := hn
    subst hn
    have e6 := e5 _ _ g2
    subst e6
    exact va_lald (D := D) xe xb hK hP ad t0 e1 e4 (vp_in_of0 i0 hlt) hd hk
  · simp only at e2; subst e2; subst e3
    have hn : nx = pc + 1 := hn
    subst hn
    have e6 := e5 _ _ g2
    subst e6
    exact va_cald (D := D) xe xb hK hP ad t0 e1 e4 (vp_in_of0 i0 hlt) hd hk
  · simp only at e2; subst e2; subst e3
    have hn : nx = pc + 1 := hn
    subst hn
    refine va_aldq (D := D) xe xb hK hP ad t0 e1 e4 (vp_in_of0 i0 hlt) hd ?_
    rw [← e5 _ _ g2]
    exact hk
  · simp only at e2; subst e2; subst e3
    have hn : nx = pc + 1 := hn
    subst hn
    refine va_aldq (D := D) xe xb hK hP ad t0 e1 e4 (vp_in_of0 i0 hlt) hd ?_
    rw [← e5 _ _ g2]
    exact hk
theorem g_6 (C : q_Cx p s m args meth cd R k fr n0 base sa) (hd : decode (q_mc k) pc = .ok (q_in pc 6 v c x nx tb)) (hn : nx = pc + (q_in pc 6 v c x nx tb).2) (hx : q_ex k 6 v c x y tb = true) (h : q_s6 q_CO cal fr (v, c, x, y, nx, tb) lo st hp K = some r) (kk : ∀ pc lo st hp, K pc lo st hp = some r → q_Go p l e R s m args below meth cd D base sa (q_I k).1 n0 s0 Q pc lo st hp) : q_Go p l e R s m args below meth cd D base sa (q_I k).1 n0 s0 Q pc lo st hp := by
  intro H locs cells slots ls hH hS hl h1 h2
  obtain ⟨xe, xb, xm, xo, xw, xr, xk, xn, xf, xl, xN, xs⟩ := C
  obtain ⟨bv, st, rfl, h⟩ := q_p1_some h
  obtain ⟨av, st, rfl, h⟩ := q_p1_some h
  obtain ⟨w, hw, h⟩ := q_ob_some h
  have hk := kk nx lo (w :: st) hp h H locs cells slots ls hH hS hl h1 h2
  have hx : v < 20 := of_decide_eq_true hx
  have hn : nx = pc + 1 := hn
  subst hn
  have hw : q_bin v av bv = some w := hw
  have hv : v = 0 ∨ v = 1 ∨ v = 2 ∨ v = 3 ∨ v = 4 ∨ v = 5 ∨ v = 6 ∨ v = 7 ∨ v = 8 ∨ v = 9 ∨ v = 10 ∨ v = 11 ∨ v = 12 ∨ v = 13 ∨ v = 14 ∨ v = 15 ∨ v = 16 ∨ v = 17 ∨ v = 18 ∨ v = 19 := by omega
  rcases hv with rfl | rfl | rfl | rfl | rfl | rfl | rfl | rfl | rfl | rfl | rfl | rfl | rfl | rfl | rfl | rfl | rfl | rfl | rfl | rfl
  · cases av <;> cases bv <;> first | (cases hw; exact lv_iadd xe xb hd hk) | (cases hw)
  · cases av <;> cases bv <;> first | (cases hw; exact lv_isub xe xb hd hk) | (cases hw)
  · cases av <;> cases bv <;> first | (cases hw; exact lv_imul xe xb hd hk) | (cases hw)
  · cases av <;> cases bv <;> first | (cases hw; done) | (obtain ⟨h0, e0⟩ := q_ifn hw; subst e0; exact lv_idiv xe xb hd h0 hk)
  · cases av <;> cases bv <;> first | (cases hw; done) | (obtain ⟨h0, e0⟩ := q_ifn hw; subst e0; exact lv_irem xe xb hd h0 hk)
  · cases av <;> cases bv <;> first | (cases hw; exact lv_iand xe xb hd hk) | (cases hw)
  · cases av <;> cases bv <;> first | (cases hw; exact lv_ior xe xb hd hk) | (cases hw)
  · cases av <;> cases bv <;> first | (cases hw; exact lv_ixor xe xb hd hk) | (cases hw)
  · cases av <;> cases bv <;> first | (cases hw; exact lv_ishl xe xb hd hk) | (cases hw)
  · cases av <;> cases bv <;> first | (cases hw; exact lv_ishr xe xb hd hk) | (cases hw)
  · cases av <;> cases bv <;> first | (cases hw; exact lv_iushr xe xb hd rfl hk) | (cases hw)
  · cases av <;> cases bv <;> first | (cases hw; exact lv_ladd xe xb hd hk) | (cases hw)
  · cases av <;> cases bv <;> first | (cases hw; exact lv_lsub xe xb hd hk) | (cases hw)
  · cases av <;> cases bv <;> first | (cases hw; exact lv_lmul xe xb hd hk) | (cases hw)
  · cases av <;> cases bv <;> first | (cases hw; done) | (obtain ⟨h0, e0⟩ := q_ifn hw; subst e0; exact lv_ldiv xe xb hd h0 hk)
  · cases av <;> cases bv <;> first | (cases hw; done) | (obtain ⟨h0, e0⟩ := q_ifn hw; subst e0; exact lv_lrem xe xb hd h0 hk)
  · cases av <;> cases bv <;> first | (cases hw; exact lv_land xe xb hd hk) | (cases hw)
  · cases av <;> cases bv <;> first | (cases hw; exact lv_lor xe xb hd hk) | (cases hw)
  · cases av <;> cases bv <;> first | (cases hw; exact lv_lshl xe xb hd rfl hk) | (cases hw)
  · cases av <;> cases bv <;> first | (cases hw; exact W.lcmp xe xb hd hk) | (cases hw)
theorem g_7 (C : q_Cx p s m args meth cd R k fr n0 base sa) (hd : decode (q_mc k) pc = .ok (q_in pc 7 v c x nx tb)) (hn : nx = pc + (q_in pc 7 v c x nx tb).2) (hx : q_ex k 7 v c x y tb = true) (h : q_s7 q_CO cal fr (v, c, x, y, nx, tb) lo st hp K = some r) (kk : ∀ pc lo st hp, K pc lo st hp = some r → q_Go p l e R s m args below meth cd D base sa (q_I k).1 n0 s0 Q pc lo st hp) : q_Go p l e R s m args below meth cd D base sa (q_I k).1 n0 s0 Q pc lo st hp := by
  intro H locs cells slots ls hH hS hl h1 h2
  obtain ⟨xe, xb, xm, xo, xw, xr, xk, xn, xf, xl, xN, xs⟩ := C
  have hk := kk x lo st hp h H locs cells slots ls hH hS hl h1 h2
  exact lv_goto (tgt := x) xe xb hd (by omega) hk
theorem q_ob_jn (a b : Option (q_R Value q_H)) (r : q_R Value q_H) : ¬ (q_ob a fun r1 => q_ob b fun r2 => o_jn q_CO r1 r2) = some r := by
  intro h
  obtain ⟨r1, -, h⟩ := q_ob_some h
  obtain ⟨r2, -, h⟩ := q_ob_some h
  cases h
theorem q_br_t {x nx : Nat} {lo : List (Option Value)} {st : List Value} {hp : q_H} {K : q_K Value q_H} {r : q_R Value q_H} {b : Bool} (h : q_br q_CO (some b) x nx lo st hp K = some r) (hb : b = true) : K x lo st hp = some r := by
  subst hb
  exact h
theorem q_br_f {x nx : Nat} {lo : List (Option Value)} {st : List Value} {hp : q_H} {K : q_K Value q_H} {r : q_R Value q_H} {b : Bool} (h : q_br q_CO (some b) x nx lo st hp K = some r) (hb : b = false) : K nx lo st hp = some r := by
  subst hb
  exact h
theorem g_8 (C : q_Cx p s m args meth cd R k fr n0 base sa) (hd : decode (q_mc k) pc = .ok (q_in pc 8 v c x nx tb)) (hn : nx = pc + (q_in pc 8 v c x nx tb).2) (hx : q_ex k 8 v c x y tb = true) (h : q_s8 q_CO cal fr (v, c, x, y, nx, tb) lo st hp K = some r) (kk : ∀ pc lo st hp, K pc lo st hp = some r → q_Go p l e R s m args below meth cd D base sa (q_I k).1 n0 s0 Q pc lo st hp) : q_Go p l e R s m args below meth cd D base sa (q_I k).1 n0 s0 Q pc lo st hp := by
  intro H locs cells slots ls hH hS hl h1 h2
  obtain ⟨xe, xb, xm, xo, xw, xr, xk, xn, xf, xl, xN, xs⟩ := C
  obtain ⟨av, st, rfl, h⟩ := q_p1_some h
  obtain ⟨_, h⟩ := q_gd_some h
  have h : q_br q_CO (q_cmp v av (.int (Int32.ofInt 0))) x nx lo st hp K = some r := h
  have hx : v < 6 := of_decide_eq_true hx
  have hn : nx = pc + 3 := hn
  subst hn
  have ht : (pc : Int) + ((x : Int) - pc) = (x : Int) := by omega
  have hv : v = 0 ∨ v = 1 ∨ v = 2 ∨ v = 3 ∨ v = 4 ∨ v = 5 := by omega
  rcases hv with rfl | rfl | rfl | rfl | rfl | rfl
  · cases av <;> first | exact absurd h (q_ob_jn _ _ _) | exact lv_if_eq (tgt := x) xe xb hd ht (fun b => kk x lo st hp (q_br_t h (decide_eq_true b)) H locs cells slots ls hH hS hl h1 h2) (fun b => kk (pc + 3) lo st hp (q_br_f h (decide_eq_false b)) H locs cells slots ls hH hS hl h1 h2)
  · cases av <;> first | exact absurd h (q_ob_jn _ _ _) | exact lv_if_ne (tgt := x) xe xb hd ht (fun b => kk x lo st hp (q_br_t h (decide_eq_true b)) H locs cells slots ls hH hS hl h1 h2) (fun b => kk (pc + 3) lo st hp (q_br_f h (decide_eq_false (fun hne => hne b))) H locs cells slots ls hH hS hl h1 h2)
  · cases av <;> first | exact absurd h (q_ob_jn _ _ _) | exact lv_if_lt (tgt := x) xe xb hd ht (fun b => kk x lo st hp (q_br_t h (decide_eq_true b)) H locs cells slots ls hH hS hl h1 h2) (fun b => kk (pc + 3) lo st hp (q_br_f h (decide_eq_false b)) H locs cells slots ls hH hS hl h1 h2)
  · cases av <;> first | exact absurd h (q_ob_jn _ _ _) | exact lv_if_ge (tgt := x) xe xb hd ht (fun b => kk x lo st hp (q_br_t h (decide_eq_true b)) H locs cells slots ls hH hS hl h1 h2) (fun b => kk (pc + 3) lo st hp (q_br_f h (decide_eq_false b)) H locs cells slots ls hH hS hl h1 h2)
  · cases av <;> first | exact absurd h (q_ob_jn _ _ _) | exact lv_if_gt (tgt := x) xe xb hd ht (fun b => kk x lo st hp (q_br_t h (decide_eq_true b)) H locs cells slots ls hH hS hl h1 h2) (fun b => kk (pc + 3) lo st hp (q_br_f h (decide_eq_false b)) H locs cells slots ls hH hS hl h1 h2)
  · cases av <;> first | exact absurd h (q_ob_jn _ _ _) | exact lv_if_le (tgt := x) xe xb hd ht (fun b => kk x lo st hp (q_br_t h (decide_eq_true b)) H locs cells slots ls hH hS hl h1 h2) (fun b => kk (pc + 3) lo st hp (q_br_f h (decide_eq_false b)) H locs cells slots ls hH hS hl h1 h2)
theorem g_9 (C : q_Cx p s m args meth cd R k fr n0 base sa) (hd : decode (q_mc k) pc = .ok (q_in pc 9 v c x nx tb)) (hn : nx = pc + (q_in pc 9 v c x nx tb).2) (hx : q_ex k 9 v c x y tb = true) (h : q_s9 q_CO cal fr (v, c, x, y, nx, tb) lo st hp K = some r) (kk : ∀ pc lo st hp, K pc lo st hp = some r → q_Go p l e R s m args below meth cd D base sa (q_I k).1 n0 s0 Q pc lo st hp) : q_Go p l e R s m args below meth cd D base sa (q_I k).1 n0 s0 Q pc lo st hp := by
  intro H locs cells slots ls hH hS hl h1 h2
  obtain ⟨xe, xb, xm, xo, xw, xr, xk, xn, xf, xl, xN, xs⟩ := C
  obtain ⟨bv, st, rfl, h⟩ := q_p1_some h
  obtain ⟨av, st, rfl, h⟩ := q_p1_some h
  obtain ⟨_, h⟩ := q_gd_some h
  have h : q_br q_CO (q_cmp v av bv) x nx lo st hp K = some r := h
  have hx : v < 6 := of_decide_eq_true hx
  have hn : nx = pc + 3 := hn
  subst hn
  have ht : (pc : Int) + ((x : Int) - pc) = (x : Int) := by omega
  have hv : v = 0 ∨ v = 1 ∨ v = 2 ∨ v = 3 ∨ v = 4 ∨ v = 5 := by omega
  rcases hv with rfl | rfl | rfl | rfl | rfl | rfl
  · cases av <;> cases bv <;> first | exact absurd h (q_ob_jn _ _ _) | exact lv_icmp_eq (tgt := x) xe xb hd ht (fun b => kk x lo st hp (q_br_t h (decide_eq_true b)) H locs cells slots ls hH hS hl h1 h2) (fun b => kk (pc + 3) lo st hp (q_br_f h (decide_eq_false b)) H locs cells slots ls hH hS hl h1 h2)
  · cases av <;> cases bv <;> first | exact absurd h (q_ob_jn _ _ _) | exact lv_icmp_ne (tgt := x) xe xb hd ht (fun b => kk x lo st hp (q_br_t h (decide_eq_true b)) H locs cells slots ls hH hS hl h1 h2) (fun b => kk (pc + 3) lo st hp (q_br_f h (decide_eq_false (fun hne => hne b))) H locs cells slots ls hH hS hl h1 h2)
  · cases av <;> cases bv <;> first | exact absurd h (q_ob_jn _ _ _) | exact lv_icmp_lt (tgt := x) xe xb hd ht (fun b => kk x lo st hp (q_br_t h (decide_eq_true b)) H locs cells slots ls hH hS hl h1 h2) (fun b => kk (pc + 3) lo st hp (q_br_f h (decide_eq_false b)) H locs cells slots ls hH hS hl h1 h2)
  · cases av <;> cases bv <;> first | exact absurd h (q_ob_jn _ _ _) | exact lv_icmp_ge (tgt := x) xe xb hd ht (fun b => kk x lo st hp (q_br_t h (decide_eq_true b)) H locs cells slots ls hH hS hl h1 h2) (fun b => kk (pc + 3) lo st hp (q_br_f h (decide_eq_false b)) H locs cells slots ls hH hS hl h1 h2)
  · cases av <;> cases bv <;> first | exact absurd h (q_ob_jn _ _ _) | exact lv_icmp_gt (tgt := x) xe xb hd ht (fun b => kk x lo st hp (q_br_t h (decide_eq_true b)) H locs cells slots ls hH hS hl h1 h2) (fun b => kk (pc + 3) lo st hp (q_br_f h (decide_eq_false b)) H locs cells slots ls hH hS hl h1 h2)
  · cases av <;> cases bv <;> first | exact absurd h (q_ob_jn _ _ _) | exact lv_icmp_le (tgt := x) xe xb hd ht (fun b => kk x lo st hp (q_br_t h (decide_eq_true b)) H locs cells slots ls hH hS hl h1 h2) (fun b => kk (pc + 3) lo st hp (q_br_f h (decide_eq_false b)) H locs cells slots ls hH hS hl h1 h2)
end q_ops

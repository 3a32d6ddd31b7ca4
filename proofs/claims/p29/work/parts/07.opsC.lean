section q_ops
variable {p : Program} {l : Launch} {e : Env} {R : Room} {s : State} {m : MethodId} {args : Array Value} {below : List Frame} {meth : Method} {cd : Code} {Q : State → Prop} {D : va_G} {base : Nat} {sa : Nat → Nat} {n0 s0 k fr pc nx v x y : Nat} {c : Int} {tb : List Nat} {cal : Nat → List Value → q_H → Option (q_R Value q_H)} {lo : List (Option Value)} {st : List Value} {hp : q_H} {K : q_K Value q_H} {r : q_R Value q_H}
theorem g_13 (C : q_Cx p s m args meth cd R k fr n0 base sa) (hd : decode (q_mc k) pc = .ok (q_in pc 13 v c x nx tb)) (hn : nx = pc + (q_in pc 13 v c x nx tb).2) (hx : q_ex k 13 v c x y tb = true) (h : q_s13 q_CO cal fr (v, c, x, y, nx, tb) lo st hp K = some r) (kk : ∀ pc lo st hp, K pc lo st hp = some r → q_Go p l e R s m args below meth cd D base sa (q_I k).1 n0 s0 Q pc lo st hp) : q_Go p l e R s m args below meth cd D base sa (q_I k).1 n0 s0 Q pc lo st hp := by
  intro H locs cells slots ls hH hS hl h1 h2
  obtain ⟨xe, xb, xm, xo, xw, xr, xk, xn, xf, xl, xN, xs⟩ := C
  obtain ⟨oa, ha, h⟩ := q_ob_some h
  obtain ⟨a, rfl, h⟩ := q_ob_some h
  obtain ⟨ht, h⟩ := q_gd_some h
  obtain ⟨w, hw, h⟩ := q_ob_some h
  obtain ⟨ht2, h⟩ := q_gd_some h
  have ht : q_ty a = 0 := Nat.eq_of_beq_eq_true ht
  have h : q_st q_ty lo x w (fun lo => K nx lo st hp) = some r := h
  rw [q_st_eq] at h
  have hk := kk _ _ _ _ h H locs cells slots
  rw [q_nth_eq] at ha
  have hmem : (x, q_up base sa a) ∈ q_lp base sa 0 lo := (q_lp_mem base sa lo 0 _).mpr ⟨x, a, ha, by simp⟩
  obtain ⟨i, hi⟩ := List.getElem?_of_mem hmem
  have hn : nx = pc + 3 := hn
  subst hn
  have hw : q_bin 0 a (.int (Int32.ofInt c)) = some w := hw
  cases a <;> first | (simp [q_ty] at ht; done) | skip
  cases hw
  exact lv_iinc xe xb hd hl hi rfl (of_decide_eq_true hx) rfl (fun ls' hl' => hk ls' hH hS (lv_has_sub hl' q_stv_1) h1 h2)
theorem g_14 (C : q_Cx p s m args meth cd R k fr n0 base sa) (hd : decode (q_mc k) pc = .ok (q_in pc 14 v c x nx tb)) (hn : nx = pc + (q_in pc 14 v c x nx tb).2) (hx : q_ex k 14 v c x y tb = true) (h : q_s14 q_CO cal fr (v, c, x, y, nx, tb) lo st hp K = some r) (kk : ∀ pc lo st hp, K pc lo st hp = some r → q_Go p l e R s m args below meth cd D base sa (q_I k).1 n0 s0 Q pc lo st hp) : q_Go p l e R s m args below meth cd D base sa (q_I k).1 n0 s0 Q pc lo st hp := by
  intro H locs cells slots ls hH hS hl h1 h2
  obtain ⟨xe, xb, xm, xo, xw, xr, xk, xn, xf, xl, xN, xs⟩ := C
  obtain ⟨a, st, rfl, h⟩ := q_p1_some h
  obtain ⟨w, hw, h⟩ := q_ob_some h
  have hk := kk nx lo (w :: st) hp h H locs cells slots ls hH hS hl h1 h2
  have hx : v < 6 := of_decide_eq_true hx
  have hn : nx = pc + 1 := hn
  subst hn
  have hw : q_un v a = some w := hw
  have hv : v = 0 ∨ v = 1 ∨ v = 2 ∨ v = 3 ∨ v = 4 ∨ v = 5 := by omega
  rcases hv with rfl | rfl | rfl | rfl | rfl | rfl
  · cases a <;> first | (cases hw; exact lv_ineg xe xb hd hk) | (cases hw)
  · cases a <;> first | (cases hw; exact lv_i2b xe xb hd rfl hk) | (cases hw)
  · cases a <;> first | (cases hw; exact lv_i2s xe xb hd rfl hk) | (cases hw)
  · cases a <;> first | (cases hw; exact lv_i2c xe xb hd rfl hk) | (cases hw)
  · cases a <;> first | (cases hw; exact lv_i2l xe xb hd rfl hk) | (cases hw)
  · cases a <;> first | (cases hw; exact lv_l2i xe xb hd rfl hk) | (cases hw)
theorem g_15 (C : q_Cx p s m args meth cd R k fr n0 base sa) (hd : decode (q_mc k) pc = .ok (q_in pc 15 v c x nx tb)) (hn : nx = pc + (q_in pc 15 v c x nx tb).2) (hx : q_ex k 15 v c x y tb = true) (h : q_s15 q_CO cal fr (v, c, x, y, nx, tb) lo st hp K = some r) (kk : ∀ pc lo st hp, K pc lo st hp = some r → q_Go p l e R s m args below meth cd D base sa (q_I k).1 n0 s0 Q pc lo st hp) : q_Go p l e R s m args below meth cd D base sa (q_I k).1 n0 s0 Q pc lo st hp := by
  intro H locs cells slots ls hH hS hl h1 h2
  obtain ⟨xe, xb, xm, xo, xw, xr, xk, xn, xf, xl, xN, xs⟩ := C
  have hk := kk nx lo (q_cst 1 c :: st) hp h H locs cells slots ls hH hS hl h1 h2
  have hv : v = 0 ∨ 1 ≤ v := by omega
  rcases hv with rfl | hv
  · have hn : nx = pc + 1 := hn
    subst hn
    have hx : (decide (c = 0) || decide (c = 1)) = true := hx
    simp only [Bool.or_eq_true, decide_eq_true_eq] at hx
    rcases hx with rfl | rfl
    · exact lv_lconst xe xb hd (by decide) hk
    · exact lv_lconst xe xb hd (by decide) hk
  · obtain ⟨w, rfl⟩ : ∃ w, v = w + 1 := ⟨v - 1, by omega⟩
    have hn : nx = pc + 3 := hn
    subst hn
    exact lv_ldc2 xe xb xo (xw _ (q_at_mem hx)) hd hk
theorem q_cat1 {a : Value} (h : (!Nat.beq (q_ty a) 1) = true) : (q_up base sa a).category = 1 := by
  rw [q_up_cat]
  cases hb : Nat.beq (q_ty a) 1 with
  | false => rfl
  | true => rw [hb] at h; cases h
theorem g_16 (C : q_Cx p s m args meth cd R k fr n0 base sa) (hd : decode (q_mc k) pc = .ok (q_in pc 16 v c x nx tb)) (hn : nx = pc + (q_in pc 16 v c x nx tb).2) (hx : q_ex k 16 v c x y tb = true) (h : q_s16 q_CO cal fr (v, c, x, y, nx, tb) lo st hp K = some r) (kk : ∀ pc lo st hp, K pc lo st hp = some r → q_Go p l e R s m args below meth cd D base sa (q_I k).1 n0 s0 Q pc lo st hp) : q_Go p l e R s m args below meth cd D base sa (q_I k).1 n0 s0 Q pc lo st hp := by
  intro H locs cells slots ls hH hS hl h1 h2
  obtain ⟨xe, xb, xm, xo, xw, xr, xk, xn, xf, xl, xN, xs⟩ := C
  obtain ⟨a, st, rfl, h⟩ := q_p1_some h
  obtain ⟨ht, h⟩ := q_gd_some h
  have hk := kk _ _ _ _ h H locs cells slots ls hH hS hl h1 h2
  have hn : nx = pc + 1 := hn
  subst hn
  exact lv_dup xe xb hd (q_cat1 ht) hk
theorem g_17 (C : q_Cx p s m args meth cd R k fr n0 base sa) (hd : decode (q_mc k) pc = .ok (q_in pc 17 v c x nx tb)) (hn : nx = pc + (q_in pc 17 v c x nx tb).2) (hx : q_ex k 17 v c x y tb = true) (h : q_s17 q_CO cal fr (v, c, x, y, nx, tb) lo st hp K = some r) (kk : ∀ pc lo st hp, K pc lo st hp = some r → q_Go p l e R s m args below meth cd D base sa (q_I k).1 n0 s0 Q pc lo st hp) : q_Go p l e R s m args below meth cd D base sa (q_I k).1 n0 s0 Q pc lo st hp := by
  intro H locs cells slots ls hH hS hl h1 h2
  obtain ⟨xe, xb, xm, xo, xw, xr, xk, xn, xf, xl, xN, xs⟩ := C
  obtain ⟨a, st, rfl, h⟩ := q_p1_some h
  obtain ⟨b, st, rfl, h⟩ := q_p1_some h
  obtain ⟨ht, h⟩ := q_gd_some h
  rw [Bool.and_eq_true] at ht
  have hk := kk _ _ _ _ h H locs cells slots ls hH hS hl h1 h2
  have hn : nx = pc + 1 := hn
  subst hn
  exact lv_dup2_11 xe xb hd (q_cat1 ht.1) (q_cat1 ht.2) hk
theorem g_18 (C : q_Cx p s m args meth cd R k fr n0 base sa) (hd : decode (q_mc k) pc = .ok (q_in pc 18 v c x nx tb)) (hn : nx = pc + (q_in pc 18 v c x nx tb).2) (hx : q_ex k 18 v c x y tb = true) (h : q_s18 q_CO cal fr (v, c, x, y, nx, tb) lo st hp K = some r) (kk : ∀ pc lo st hp, K pc lo st hp = some r → q_Go p l e R s m args below meth cd D base sa (q_I k).1 n0 s0 Q pc lo st hp) : q_Go p l e R s m args below meth cd D base sa (q_I k).1 n0 s0 Q pc lo st hp := by
  intro H locs cells slots ls hH hS hl h1 h2
  obtain ⟨xe, xb, xm, xo, xw, xr, xk, xn, xf, xl, xN, xs⟩ := C
  obtain ⟨a, st, rfl, h⟩ := q_p1_some h
  obtain ⟨w, hw, h⟩ := q_ob_some h
  have hx : tb.length = v := of_decide_eq_true hx
  have hw : q_sw c v a = some w := hw
  cases a with
  | int z =>
    have hw : (if z.toInt < c then some none else if c + v ≤ z.toInt then some none else some (some (z.toInt - c).toNat)) = some w := hw
    by_cases c1 : z.toInt < c
    · rw [if_pos c1] at hw
      cases hw
      exact lv_tableOut (tgt := x) xe xb hd (Or.inl c1) (by omega) (kk _ _ _ _ h H locs cells slots ls hH hS hl h1 h2)
    · rw [if_neg c1] at hw
      by_cases c2 : c + v ≤ z.toInt
      · rw [if_pos c2] at hw
        cases hw
        exact lv_tableOut (tgt := x) xe xb hd (Or.inr (by omega)) (by omega) (kk _ _ _ _ h H locs cells slots ls hH hS hl h1 h2)
      · rw [if_neg c2] at hw
        cases hw
        obtain ⟨t, ht, h⟩ := q_ob_some h
        rw [q_nth_eq] at ht
        refine lv_tableIn (tgt := t) (off := (t : Int) - pc) xe xb hd c1 (by omega) ?_ (by omega) (kk _ _ _ _ h H locs cells slots ls hH hS hl h1 h2)
        rw [List.getElem?_toArray, List.getElem?_map, ht]
        rfl
  | _ => cases hw
theorem W_sz {H : Heap} {locs : List Loc} {cells slots : Nat} {g : JFrame} (kk : H.size ≤ s.heap.size + cells → W p l e R s m args below meth cd H locs cells slots Q g) : W p l e R s m args below meth cd H locs cells slots Q g := fun T hT X => kk (by rw [← hT]; exact X.heapSize) T hT X
theorem q_splice {f g : Nat → Int32} {vs ws : List Value} {sp dp n : Nat} (hf : ∀ (j : Nat) (v : Value), vs[j]? = some v → v = .int (f j)) (hg : ∀ (j : Nat) (v : Value), ws[j]? = some v → v = .int (g j)) (h1 : sp + n ≤ vs.length) (h2 : dp + n ≤ ws.length) : ∀ (j : Nat) (v : Value), (ws.take dp ++ ((vs.drop sp).take n ++ ws.drop (dp + n)))[j]? = some v → v = .int (va_cpy f g sp dp n j) := by
  intro j v hv
  have l1 : (ws.take dp).length = dp := by simp; omega
  have l2 : ((vs.drop sp).take n).length = n := by simp; omega
  by_cases c1 : j < dp
  · rw [List.getElem?_append_left (by omega), List.getElem?_take, if_pos c1] at hv
    rw [pk_cpy_out (Or.inl c1)]
    exact hg j v hv
  · rw [List.getElem?_append_right (by omega), l1] at hv
    by_cases c2 : j < dp + n
    · rw [List.getElem?_append_left (by omega), List.getElem?_take, if_pos (by omega), List.getElem?_drop] at hv
      rw [pk_cpy_in (by omega) c2]
      exact hf _ v hv
    · rw [List.getElem?_append_right (by omega), l2, List.getElem?_drop] at hv
      rw [pk_cpy_out (Or.inr (by omega))]
      rw [show dp + n + (j - dp - n) = j by omega] at hv
      exact hg j v hv
theorem q_spliceJ {f g : Nat → Int64} {vs ws : List Value} {sp dp n : Nat} (hf : ∀ (j : Nat) (v : Value), vs[j]? = some v → v = .long (f j)) (hg : ∀ (j : Nat) (v : Value), ws[j]? = some v → v = .long (g j)) (h1 : sp + n ≤ vs.length) (h2 : dp + n ≤ ws.length) : ∀ (j : Nat) (v : Value), (ws.take dp ++ ((vs.drop sp).take n ++ ws.drop (dp + n)))[j]? = some v → v = .long (va_cpy f g sp dp n j) := by
  intro j v hv
  have l1 : (ws.take dp).length = dp := by simp; omega
  have l2 : ((vs.drop sp).take n).length = n := by simp; omega
  by_cases c1 : j < dp
  · rw [List.getElem?_append_left (by omega), List.getElem?_take, if_pos c1] at hv
    rw [pk_cpy_out (Or.inl c1)]
    exact hg j v hv
  · rw [List.getElem?_append_right (by omega), l1] at hv
    by_cases c2 : j < dp + n
    · rw [List.getElem?_append_left (by omega), List.getElem?_take, if_pos (by omega), List.getElem?_drop] at hv
      rw [pk_cpy_in (by omega) c2]
      exact hf _ v hv
    · rw [List.getElem?_append_right (by omega), l2, List.getElem?_drop] at hv
      rw [pk_cpy_out (Or.inr (by omega))]
      rw [show dp + n + (j - dp - n) = j by omega] at hv
      exact hg j v hv
theorem q_CEl {tys : List (ClassId × FieldType)} {vs : List Value} {e : va_E} (h : q_CE base sa tys (11, vs) e) : ∃ (cA : ClassId) (t0 : Nat) (f : Nat → Int64), e = .inl (cA, vs.length, .inr (.inl f)) ∧ tys[t0]? = some (cA, .long) ∧ ∀ (j : Nat) (v : Value), vs[j]? = some v → v = .long (f j) := by
  rcases h with ⟨h0, -⟩ | ⟨h0, -⟩ | ⟨-, h⟩ | ⟨h0, -⟩ | ⟨h0, -⟩ | ⟨h0, -⟩
  all_goals first | exact h | (simp only at h0; omega)
theorem q_copy_words : Cond.native arraycopyName ∈ q_good ∧ Cond.static arraycopyName ∈ q_good ∧ Cond.initialized "java/lang/System" ∈ q_good := by
  have h : Cond.native arraycopyName ∈ lw_tbl ∧ Cond.static arraycopyName ∈ lw_tbl ∧ Cond.initialized "java/lang/System" ∈ lw_tbl := by decide +kernel
  exact ⟨List.mem_filter.mpr ⟨h.1, by decide +kernel⟩, List.mem_filter.mpr ⟨h.2.1, by decide +kernel⟩, List.mem_filter.mpr ⟨h.2.2, by decide +kernel⟩⟩
theorem g_19 (C : q_Cx p s m args meth cd R k fr n0 base sa) (hd : decode (q_mc k) pc = .ok (q_in pc 19 v c x nx tb)) (hn : nx = pc + (q_in pc 19 v c x nx tb).2) (hx : q_ex k 19 v c x y tb = true) (h : q_s19 q_CO cal fr (v, c, x, y, nx, tb) lo st hp K = some r) (kk : ∀ pc lo st hp, K pc lo st hp = some r → q_Go p l e R s m args below meth cd D base sa (q_I k).1 n0 s0 Q pc lo st hp) : q_Go p l e R s m args below meth cd D base sa (q_I k).1 n0 s0 Q pc lo st hp := by
  intro H locs cells slots ls hH hS hl h1 h2
  obtain ⟨xe, xb, xm, xo, xw, xr, xk, xn, xf, xl, xN, xs⟩ := C
  obtain ⟨nv, st, rfl, h⟩ := q_p1_some h
  obtain ⟨dv, st, rfl, h⟩ := q_p1_some h
  obtain ⟨dr, st, rfl, h⟩ := q_p1_some h
  obtain ⟨sv, st, rfl, h⟩ := q_p1_some h
  obtain ⟨sr, st, rfl, h⟩ := q_p1_some h
  obtain ⟨hg, h⟩ := q_gd_some h
  rw [Bool.and_eq_true] at hg
  have hfr : 0 < fr := Nat.lt_of_succ_le (Nat.le_of_ble_eq_true hg.1)
  have hcat : q_cats q_ty st ≤ 8 := Nat.le_of_ble_eq_true hg.2
  obtain ⟨n, f1, h⟩ := q_ob_some h
  obtain ⟨dp, f2, h⟩ := q_ob_some h
  obtain ⟨sp, f3, h⟩ := q_ob_some h
  obtain ⟨ad, f4, h⟩ := q_ob_some h
  obtain ⟨as, f5, h⟩ := q_ob_some h
  obtain ⟨cs, f6, h⟩ := q_ob_some (show c_cpy hp as sp ad dp n (fun hp => K nx lo st hp) = some r from h)
  obtain ⟨ct, f7, h⟩ := q_ob_some h
  obtain ⟨f8, h⟩ := q_gd_some h
  rw [q_frc_eq, q_set_eq] at h
  have hk := kk _ _ _ _ h
  rw [q_nth_eq] at f6 f7
  obtain ⟨cst, cvs⟩ := cs
  obtain ⟨ctt, cws⟩ := ct
  simp only [Bool.and_eq_true, Bool.or_eq_true] at f8
  obtain ⟨⟨⟨f9, f10⟩, f11⟩, f12⟩ := f8
  have f9 : ctt = cst := Nat.eq_of_beq_eq_true f9
  have f11 : sp + n ≤ cvs.length := Nat.le_of_ble_eq_true f11
  have f12 : dp + n ≤ cws.length := Nat.le_of_ble_eq_true f12
  have f10 : ctt = 10 ∨ ctt = 11 := f10.imp Nat.eq_of_beq_eq_true Nat.eq_of_beq_eq_true
  clear h
  obtain ⟨nz, e1, e2, e3⟩ := q_ix_some (show q_ix nv = some n from f1)
  obtain ⟨dz, e4, e5, e6⟩ := q_ix_some (show q_ix dv = some dp from f2)
  obtain ⟨sz, e7, e8, e9⟩ := q_ix_some (show q_ix sv = some sp from f3)
  have e10 := q_rf_some (show q_rf dr = some ad from f4)
  have e11 := q_rf_some (show q_rf sr = some as from f5)
  subst e1 e4 e7 e10 e11 e3 e6 e9 f9
  have hn : nx = pc + 3 := hn
  subst hn
  obtain ⟨ws, tys, hK, hP, hR⟩ := hH
  obtain ⟨en, g1, g2⟩ := hR.2 as _ f6
  obtain ⟨em, g3, g4⟩ := hR.2 ad _ f7
  have hlt : ad < hp.length := (List.getElem?_eq_some_iff.mp f7).1
  have hlen : (cws.take dz.toNatClampNeg ++ ((cvs.drop sz.toNatClampNeg).take nz.toNatClampNeg ++ cws.drop (dz.toNatClampNeg + nz.toNatClampNeg))).length = cws.length := by simp; omega
  have hml : cd.maxLocals = ls.size := by rw [xm, hl.1]
  have hloc : (((st.map (q_up base sa)).map fun v => v.category).sum + (nativeFrameWords "java/lang/System" "arraycopy" 5 + 11) ≤ R.locals) := by
    rw [q_cats_up, xl]
    have : nativeFrameWords "java/lang/System" "arraycopy" 5 = 7 := by decide
    omega
  have fin : ∀ (en : va_E), q_CE base sa tys (ctt, cws.take dz.toNatClampNeg ++ ((cvs.drop sz.toNatClampNeg).take nz.toNatClampNeg ++ cws.drop (dz.toNatClampNeg + nz.toNatClampNeg))) en → ∀ (H1 : Heap) (locs1 : List Loc), va_P D q_cl (ws.set ad (base + ad, en)) H1 → va_S (fun q => base ≤ q) s.heap H1 locs1 → W p l e R s m args below meth cd H1 locs1 cells slots Q (F0 m (pc + 3) ls (st.map (q_up base sa))) := fun en he H1 locs1 hP1 hS1 =>
    hk H1 locs1 cells slots ls ⟨_, tys, hK, hP1, hR.set hlt he⟩ hS1 hl (by rw [List.length_set]; exact h1) (by rw [q_sl_set hp ad _ _ f7 hlen]; exact h2)
  rcases f10 with rfl | rfl
  · rcases g2 with ⟨g2, -⟩ | ⟨-, cA, t0, f, g5, g6, g7⟩ | ⟨g2, -⟩ | ⟨g2, -⟩ | ⟨g2, -⟩ | ⟨g2, -⟩
    case inr.inl =>
      rcases g4 with ⟨g4, -⟩ | ⟨-, cB, t1, g, k5, k6, k7⟩ | ⟨g4, -⟩ | ⟨g4, -⟩ | ⟨g4, -⟩ | ⟨g4, -⟩
      case inr.inl =>
        subst g5
        subst k5
        exact va_copyi (D := D) xe xb hml xo (xw _ (q_at_mem hx)) (xw _ q_copy_words.1) (xw _ q_copy_words.2.1) (xw _ q_copy_words.2.2) hK hP hR.D hS as ad t0 t1 g1 g3 g6 k6 rfl e8 e5 e2 f11 f12 (fun _ _ => rfl) (by omega) hloc hd (fun H1 locs1 hP1 _ hS1 => fin _ (Or.inr (Or.inl ⟨rfl, cB, t1, _, by rw [hlen], k6, q_splice g7 k7 f11 f12⟩)) H1 locs1 hP1 hS1)
      all_goals (simp only at g4; omega)
    all_goals (simp only at g2; omega)
  · obtain ⟨cA, t0, f, g5, g6, g7⟩ := q_CEl g2
    obtain ⟨cB, t1, g, k5, k6, k7⟩ := q_CEl g4
    subst g5
    subst k5
    exact va_copyl (D := D) xe xb hml xo (xw _ (q_at_mem hx)) (xw _ q_copy_words.1) (xw _ q_copy_words.2.1) (xw _ q_copy_words.2.2) hK hP hR.D hS as ad t0 t1 g1 g3 g6 k6 rfl e8 e5 e2 f11 f12 (fun _ _ => rfl) (by omega) hloc hd (fun H1 locs1 hP1 _ hS1 => fin _ (Or.inr (Or.inr (Or.inl ⟨rfl, cB, t1, _, by rw [hlen], k6, q_spliceJ g7 k7 f11 f12⟩))) H1 locs1 hP1 hS1)
theorem q_obj_words : Cond.instanceMethod objectInit ∈ q_good ∧ Cond.code objectInit ⟨#[0xb1]⟩ 1 none ∈ q_good := by
  have h : Cond.instanceMethod objectInit ∈ lw_tbl ∧ Cond.code objectInit ⟨#[0xb1]⟩ 1 none ∈ lw_tbl := by decide +kernel
  exact ⟨List.mem_filter.mpr ⟨h.1, by decide +kernel⟩, List.mem_filter.mpr ⟨h.2, by decide +kernel⟩⟩
theorem g_23 (C : q_Cx p s m args meth cd R k fr n0 base sa) (hd : decode (q_mc k) pc = .ok (q_in pc 23 v c x nx tb)) (hn : nx = pc + (q_in pc 23 v c x nx tb).2) (hx : q_ex k 23 v c x y tb = true) (h : q_s23 q_CO cal fr (v, c, x, y, nx, tb) lo st hp K = some r) (kk : ∀ pc lo st hp, K pc lo st hp = some r → q_Go p l e R s m args below meth cd D base sa (q_I k).1 n0 s0 Q pc lo st hp) : q_Go p l e R s m args below meth cd D base sa (q_I k).1 n0 s0 Q pc lo st hp := by
  intro H locs cells slots ls hH hS hl h1 h2
  obtain ⟨xe, xb, xm, xo, xw, xr, xk, xn, xf, xl, xN, xs⟩ := C
  obtain ⟨rv, st, rfl, h⟩ := q_p1_some h
  obtain ⟨ad, ha, h⟩ := q_ob_some h
  obtain ⟨hg, h⟩ := q_gd_some h
  rw [Bool.and_eq_true] at hg
  have hfr : 0 < fr := Nat.lt_of_succ_le (Nat.le_of_ble_eq_true hg.1)
  have hcat : q_cats q_ty st ≤ 8 := Nat.le_of_ble_eq_true hg.2
  have hk := kk _ _ _ _ h H locs cells slots ls hH hS hl h1 h2
  clear h
  have ha := q_rf_some (show q_rf rv = some ad from ha)
  subst ha
  have hn : nx = pc + 3 := hn
  subst hn
  have hloc := lv_room (m := m) (pc := pc) (ls := ls) (rest := ((.ref ad :: st).map (q_up base sa))) (show ((st.map (q_up base sa)).map fun v => v.category).sum ≤ 8 by rw [q_cats_up]; exact hcat)
  exact W.objInit xe xb xo (xw _ (q_at_mem hx)) (xw _ q_obj_words.1) (xw _ q_obj_words.2) rfl (by rw [xm]; exact hl.1) rfl hd (by omega) (by rw [xl]; omega) hk
theorem g_24 (C : q_Cx p s m args meth cd R k fr n0 base sa) (hd : decode (q_mc k) pc = .ok (q_in pc 24 v c x nx tb)) (hn : nx = pc + (q_in pc 24 v c x nx tb).2) (hx : q_ex k 24 v c x y tb = true) (h : q_s24 q_CO cal fr (v, c, x, y, nx, tb) lo st hp K = some r) (kk : ∀ pc lo st hp, K pc lo st hp = some r → q_Go p l e R s m args below meth cd D base sa (q_I k).1 n0 s0 Q pc lo st hp) : q_Go p l e R s m args below meth cd D base sa (q_I k).1 n0 s0 Q pc lo st hp := by
  intro H locs cells slots ls hH hS hl h1 h2
  obtain ⟨xe, xb, xm, xo, xw, xr, xk, xn, xf, xl, xN, xs⟩ := C
  have hk := kk nx lo (q_cst 2 (Int.ofNat x) :: st) hp h H locs cells slots ls hH hS hl h1 h2
  have hx : (q_strs.any fun n => decide (n.1 = (q_mn k).cls) && decide (n.2.1 = x) && decide (x < 4294967296)) = true := hx
  obtain ⟨n, hn1, hn2⟩ := List.any_eq_true.mp hx
  simp only [Bool.and_eq_true, decide_eq_true_eq] at hn2
  obtain ⟨⟨hn2, hn3⟩, hn4⟩ := hn2
  have hZ := xN.2.2.2.1 n hn1
  rw [hn2, hn3] at hZ
  have hn : nx = pc + 2 := hn
  subst hn
  refine va_ldcS xe xb xo hZ hd ?_
  have e1 : q_up base sa (q_cst 2 (Int.ofNat x)) = .ref (sa x) := by
    show Value.ref (sa (UInt32.ofNat (Int.ofNat x).toNat).toNat) = .ref (sa x)
    have e0 : (UInt32.ofNat (Int.ofNat x).toNat).toNat = x := by
      show x % 4294967296 = x
      omega
    rw [e0]
  rw [← e1]
  exact hk
theorem q_math_words : (Cond.static Lib.Math.abs.name ∈ q_good ∧ Cond.static Lib.Math.max.name ∈ q_good ∧ Cond.static Lib.Math.min.name ∈ q_good) ∧ Cond.initialized "java/lang/Math" ∈ q_good ∧ Cond.code Lib.Math.abs.name Lib.Math.abs.code 1 (some .int) ∈ q_good ∧ Cond.code Lib.Math.max.name Lib.Math.max.code 2 (some .int) ∈ q_good ∧ Cond.code Lib.Math.min.name Lib.Math.min.code 2 (some .int) ∈ q_good := by
  have h : (Cond.static Lib.Math.abs.name ∈ lw_tbl ∧ Cond.static Lib.Math.max.name ∈ lw_tbl ∧ Cond.static Lib.Math.min.name ∈ lw_tbl) ∧ Cond.initialized "java/lang/Math" ∈ lw_tbl ∧ Cond.code Lib.Math.abs.name Lib.Math.abs.code 1 (some .int) ∈ lw_tbl ∧ Cond.code Lib.Math.max.name Lib.Math.max.code 2 (some .int) ∈ lw_tbl ∧ Cond.code Lib.Math.min.name Lib.Math.min.code 2 (some .int) ∈ lw_tbl := by decide +kernel
  exact ⟨⟨List.mem_filter.mpr ⟨h.1.1, by decide +kernel⟩, List.mem_filter.mpr ⟨h.1.2.1, by decide +kernel⟩, List.mem_filter.mpr ⟨h.1.2.2, by decide +kernel⟩⟩, List.mem_filter.mpr ⟨h.2.1, by decide +kernel⟩, List.mem_filter.mpr ⟨h.2.2.1, by decide +kernel⟩, List.mem_filter.mpr ⟨h.2.2.2.1, by decide +kernel⟩, List.mem_filter.mpr ⟨h.2.2.2.2, by decide +kernel⟩⟩
theorem g_25 (C : q_Cx p s m args meth cd R k fr n0 base sa) (hd : decode (q_mc k) pc = .ok (q_in pc 25 v c x nx tb)) (hn : nx = pc + (q_in pc 25 v c x nx tb).2) (hx : q_ex k 25 v c x y tb = true) (h : q_s25 q_CO cal fr (v, c, x, y, nx, tb) lo st hp K = some r) (kk : ∀ pc lo st hp, K pc lo st hp = some r → q_Go p l e R s m args below meth cd D base sa (q_I k).1 n0 s0 Q pc lo st hp) (hm : ∀ pc lo st hp, K pc lo st hp = some r → hp.length ≤ r.2.length ∧ q_sl hp ≤ q_sl r.2) (hRc : r.2.length = n0 + R.cells) (hRs : q_sl r.2 = s0 + R.slots) : q_Go p l e R s m args below meth cd D base sa (q_I k).1 n0 s0 Q pc lo st hp := by
  intro H locs cells slots ls hH hS hl h1 h2
  obtain ⟨xe, xb, xm, xo, xw, xr, xk, xn, xf, xl, xN, xs⟩ := C
  obtain ⟨a, st, rfl, h⟩ := q_p1_some h
  obtain ⟨hg, h⟩ := q_gd_some h
  rw [Bool.and_eq_true] at hg
  have hfr : 0 < fr := Nat.lt_of_succ_le (Nat.le_of_ble_eq_true hg.1)
  have hcat : q_cats q_ty st ≤ 8 := Nat.le_of_ble_eq_true hg.2
  obtain ⟨w, hw, h⟩ := q_ob_some h
  have hmm := hm _ _ _ _ h
  have hk := kk nx lo (w :: st) hp h H locs cells slots ls hH hS hl h1 h2
  clear h
  have hn : nx = pc + 3 := hn
  subst hn
  have hml : cd.maxLocals = ls.size := by rw [xm, hl.1]
  have hloc : ((st.map (q_up base sa)).map fun v => v.category).sum + 13 ≤ R.locals := by
    rw [q_cats_up, xl]
    omega
  have hx : q_at (q_t0 tb) (.methodLink (q_mn k).cls c.toNat Lib.Math.abs.name) = true := hx
  have hw : q_un 7 a = some w := hw
  cases a <;> first | (cases hw; exact va_mabs xe xb hml xo (xw _ (q_at_mem hx)) (xw _ q_math_words.1.1) (xw _ q_math_words.2.1) (xw _ q_math_words.2.2.1) (by omega) hloc (by omega) (by omega) hd hk) | (cases hw)
theorem g_26 (C : q_Cx p s m args meth cd R k fr n0 base sa) (hd : decode (q_mc k) pc = .ok (q_in pc 26 v c x nx tb)) (hn : nx = pc + (q_in pc 26 v c x nx tb).2) (hx : q_ex k 26 v c x y tb = true) (h : q_s26 q_CO cal fr (v, c, x, y, nx, tb) lo st hp K = some r) (kk : ∀ pc lo st hp, K pc lo st hp = some r → q_Go p l e R s m args below meth cd D base sa (q_I k).1 n0 s0 Q pc lo st hp) (hm : ∀ pc lo st hp, K pc lo st hp = some r → hp.length ≤ r.2.length ∧ q_sl hp ≤ q_sl r.2) (hRc : r.2.length = n0 + R.cells) (hRs : q_sl r.2 = s0 + R.slots) : q_Go p l e R s m args below meth cd D base sa (q_I k).1 n0 s0 Q pc lo st hp := by
  intro H locs cells slots ls hH hS hl h1 h2
  obtain ⟨xe, xb, xm, xo, xw, xr, xk, xn, xf, xl, xN, xs⟩ := C
  obtain ⟨b, st, rfl, h⟩ := q_p1_some h
  obtain ⟨a, st, rfl, h⟩ := q_p1_some h
  obtain ⟨hg, h⟩ := q_gd_some h
  rw [Bool.and_eq_true] at hg
  have hfr : 0 < fr := Nat.lt_of_succ_le (Nat.le_of_ble_eq_true hg.1)
  have hcat : q_cats q_ty st ≤ 8 := Nat.le_of_ble_eq_true hg.2
  obtain ⟨w, hw, h⟩ := q_ob_some h
  have hmm := hm _ _ _ _ h
  have hk := kk nx lo (w :: st) hp h H locs cells slots ls hH hS hl h1 h2
  clear h
  have hn : nx = pc + 3 := hn
  subst hn
  have hml : cd.maxLocals = ls.size := by rw [xm, hl.1]
  have hloc : ((st.map (q_up base sa)).map fun v => v.category).sum + 13 ≤ R.locals := by
    rw [q_cats_up, xl]
    omega
  have hw : q_bin v a b = some w := hw
  have hx2 : v = 20 ∨ v = 21 := by
    by_cases h20 : v = 20
    · exact Or.inl h20
    · by_cases h21 : v = 21
      · exact Or.inr h21
      · exfalso
        simp [q_ex, h20, h21] at hx
  rcases hx2 with rfl | rfl
  · have hx : q_at (q_t0 tb) (.methodLink (q_mn k).cls c.toNat Lib.Math.max.name) = true := hx
    cases a <;> cases b <;> first | (cases hw; exact va_mmax xe xb hml xo (xw _ (q_at_mem hx)) (xw _ q_math_words.1.2.1) (xw _ q_math_words.2.1) (xw _ q_math_words.2.2.2.1) (by omega) hloc (by omega) (by omega) hd hk) | (cases hw)
  · have hx : q_at (q_t0 tb) (.methodLink (q_mn k).cls c.toNat Lib.Math.min.name) = true := hx
    cases a <;> cases b <;> first | (cases hw; exact va_mmin xe xb hml xo (xw _ (q_at_mem hx)) (xw _ q_math_words.1.2.2) (xw _ q_math_words.2.1) (xw _ q_math_words.2.2.2.2) (by omega) hloc (by omega) (by omega) hd hk) | (cases hw)
theorem g_27 (C : q_Cx p s m args meth cd R k fr n0 base sa) (hd : decode (q_mc k) pc = .ok (q_in pc 27 v c x nx tb)) (hn : nx = pc + (q_in pc 27 v c x nx tb).2) (hx : q_ex k 27 v c x y tb = true) (h : q_s2 q_CO cal fr (v, c, x, y, nx, tb) lo st hp K = some r) (kk : ∀ pc lo st hp, K pc lo st hp = some r → q_Go p l e R s m args below meth cd D base sa (q_I k).1 n0 s0 Q pc lo st hp) : q_Go p l e R s m args below meth cd D base sa (q_I k).1 n0 s0 Q pc lo st hp := by
  intro H locs cells slots ls hH hS hl h1 h2
  obtain ⟨xe, xb, xm, xo, xw, xr, xk, xn, xf, xl, xN, xs⟩ := C
  have hx : (decide (c = 1) && q_at (q_t0 tb) (.fieldLink (q_mn k).cls x "java/lang/String" "COMPACT_STRINGS" "Z")) = true := hx
  rw [Bool.and_eq_true, decide_eq_true_eq] at hx
  obtain ⟨rfl, hx⟩ := hx
  have hk := kk nx lo (.int 1 :: st) hp h H locs cells slots ls hH hS hl h1 h2
  have hn : nx = pc + 3 := hn
  subst hn
  exact va_gets xe xb xN.2.2.2.2.1 hS xo (xw _ (q_at_mem hx)) (fun _ h => h) hd hk
theorem q_un_tx {v : Nat} {a w : Value} (hv : v = 8 ∨ v = 9) (h : q_un v a = some w) : ∃ (n : UInt32) (l : List Int), a = .float n ∧ q_txs n.toNat = some l ∧ w = (if v = 8 then .float (UInt32.ofNat (n.toNat + 1000)) else .int 0) := by
  rcases hv with rfl | rfl
  · cases a with
    | float n =>
      have h : q_tval n = some w := h
      unfold q_tval at h
      cases ht : q_txs n.toNat with
      | none => rw [ht] at h; cases h
      | some l => rw [ht] at h; cases h; exact ⟨n, l, rfl, ht, rfl⟩
    | _ => cases h
  · cases a with
    | float n =>
      have h : q_tcod n = some w := h
      unfold q_tcod at h
      cases ht : q_txs n.toNat with
      | none => rw [ht] at h; cases h
      | some l => rw [ht] at h; cases h; exact ⟨n, l, rfl, ht, rfl⟩
    | _ => cases h
theorem q_txs_lt {n : Nat} {l : List Int} (h : q_txs n = some l) : n < 1000 := by
  unfold q_txs at h
  split at h
  · decide
  · decide
  · decide
  · cases h
theorem g_28 (C : q_Cx p s m args meth cd R k fr n0 base sa) (hd : decode (q_mc k) pc = .ok (q_in pc 28 v c x nx tb)) (hn : nx = pc + (q_in pc 28 v c x nx tb).2) (hx : q_ex k 28 v c x y tb = true) (h : q_s14 q_CO cal fr (v, c, x, y, nx, tb) lo st hp K = some r) (kk : ∀ pc lo st hp, K pc lo st hp = some r → q_Go p l e R s m args below meth cd D base sa (q_I k).1 n0 s0 Q pc lo st hp) : q_Go p l e R s m args below meth cd D base sa (q_I k).1 n0 s0 Q pc lo st hp := by
  intro H locs cells slots ls hH hS hl h1 h2
  obtain ⟨xe, xb, xm, xo, xw, xr, xk, xn, xf, xl, xN, xs⟩ := C
  obtain ⟨a, st, rfl, h⟩ := q_p1_some h
  obtain ⟨w, hw, h⟩ := q_ob_some h
  have hk := kk nx lo (w :: st) hp h H locs cells slots ls hH hS hl h1 h2
  have hn : nx = pc + 3 := hn
  subst hn
  have hw : q_un v a = some w := hw
  have hx2 : v = 8 ∨ v = 9 := by
    by_cases h20 : v = 8
    · exact Or.inl h20
    · by_cases h21 : v = 9
      · exact Or.inr h21
      · exfalso
        simp [q_ex, h20, h21] at hx
  obtain ⟨n, l, rfl, ht, rfl⟩ := q_un_tx hx2 hw
  have hlt := q_txs_lt ht
  rcases hx2 with rfl | rfl
  · have hx : q_at (q_t0 tb) (.fieldLink (q_mn k).cls c.toNat "java/lang/String" "value" "[B") = true := hx
    have e1 : q_up base sa (.float (UInt32.ofNat (n.toNat + 1000))) = .ref (sa (n.toNat + 1000)) := by
      show Value.ref (sa (UInt32.ofNat (n.toNat + 1000)).toNat) = _
      rw [UInt32.toNat_ofNat_of_lt' (by show _ < 4294967296; omega)]
    refine vk_getf xe xb (xN.2.2.2.2.2 _ l ht).2.2.1 hS xo (xw _ (q_at_mem hx)) (fun _ h => h) hd ?_
    rw [← e1]
    exact hk
  · have hx : q_at (q_t0 tb) (.fieldLink (q_mn k).cls c.toNat "java/lang/String" "coder" "B") = true := hx
    exact vk_getf xe xb (xN.2.2.2.2.2 _ l ht).2.1 hS xo (xw _ (q_at_mem hx)) (fun _ h => h) hd hk
theorem q_txs_ge {n : Nat} {l : List Int} (h : q_txs (n - 1000) = some l) : n - 1000 + 1000 = n := by
  have : n - 1000 ≠ 0 := fun h0 => by rw [h0] at h; cases h
  omega
theorem g_29 (C : q_Cx p s m args meth cd R k fr n0 base sa) (hd : decode (q_mc k) pc = .ok (q_in pc 29 v c x nx tb)) (hn : nx = pc + (q_in pc 29 v c x nx tb).2) (hx : q_ex k 29 v c x y tb = true) (h : q_s14 q_CO cal fr (v, c, x, y, nx, tb) lo st hp K = some r) (kk : ∀ pc lo st hp, K pc lo st hp = some r → q_Go p l e R s m args below meth cd D base sa (q_I k).1 n0 s0 Q pc lo st hp) : q_Go p l e R s m args below meth cd D base sa (q_I k).1 n0 s0 Q pc lo st hp := by
  intro H locs cells slots ls hH hS hl h1 h2
  obtain ⟨xe, xb, xm, xo, xw, xr, xk, xn, xf, xl, xN, xs⟩ := C
  obtain ⟨a, st, rfl, h⟩ := q_p1_some h
  obtain ⟨w, hw, h⟩ := q_ob_some h
  have hk := kk nx lo (w :: st) hp h H locs cells slots ls hH hS hl h1 h2
  have hn : nx = pc + 1 := hn
  subst hn
  have hv : v = 10 := of_decide_eq_true hx
  subst hv
  have hw : q_un 10 a = some w := hw
  cases a with
  | float n =>
    have hw : q_tlen n.toNat = some w := hw
    unfold q_tlen at hw
    cases ht : q_txs (n.toNat - 1000) with
    | none => rw [ht] at hw; cases hw
    | some l =>
      rw [ht] at hw
      cases hw
      have hT := (xN.2.2.2.2.2 _ l ht).2.2.2
      rw [q_txs_ge ht] at hT
      exact va_tlen xe xb hT hS rfl hd hk
  | _ => cases hw
theorem g_30 (C : q_Cx p s m args meth cd R k fr n0 base sa) (hd : decode (q_mc k) pc = .ok (q_in pc 30 v c x nx tb)) (hn : nx = pc + (q_in pc 30 v c x nx tb).2) (hx : q_ex k 30 v c x y tb = true) (h : q_s6 q_CO cal fr (v, c, x, y, nx, tb) lo st hp K = some r) (kk : ∀ pc lo st hp, K pc lo st hp = some r → q_Go p l e R s m args below meth cd D base sa (q_I k).1 n0 s0 Q pc lo st hp) : q_Go p l e R s m args below meth cd D base sa (q_I k).1 n0 s0 Q pc lo st hp := by
  intro H locs cells slots ls hH hS hl h1 h2
  obtain ⟨xe, xb, xm, xo, xw, xr, xk, xn, xf, xl, xN, xs⟩ := C
  obtain ⟨bv, st, rfl, h⟩ := q_p1_some h
  obtain ⟨av, st, rfl, h⟩ := q_p1_some h
  obtain ⟨w, hw, h⟩ := q_ob_some h
  have hk := kk nx lo (w :: st) hp h H locs cells slots ls hH hS hl h1 h2
  have hn : nx = pc + 1 := hn
  subst hn
  have hv : v = 22 := of_decide_eq_true hx
  subst hv
  have hw : q_bin 22 av bv = some w := hw
  cases av with
  | float n =>
    cases bv with
    | int i =>
      have hw : q_tget n.toNat i = some w := hw
      unfold q_tget at hw
      cases ht : q_txs (n.toNat - 1000) with
      | none => rw [ht] at hw; cases hw
      | some l =>
        rw [ht] at hw
        simp only at hw
        by_cases h0 : i < 0
        · rw [if_pos h0] at hw; cases hw
        · rw [if_neg h0] at hw
          by_cases h9 : i.toNatClampNeg < l.length
          · rw [if_pos h9] at hw
            cases hw
            have hT := (xN.2.2.2.2.2 _ l ht).2.2.2
            rw [q_txs_ge ht] at hT
            exact va_tb xe xb hT hS (fun h => h.elim h0 (fun h => absurd h9 (Nat.not_lt.mpr h))) rfl hd hk
          · rw [if_neg h9] at hw; cases hw
    | _ => cases hw
  | _ => cases hw
end q_ops

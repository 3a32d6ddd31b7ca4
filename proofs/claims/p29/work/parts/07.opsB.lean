section q_ops
variable {p : Program} {l : Launch} {e : Env} {R : Room} {s : State} {m : MethodId} {args : Array Value} {below : List Frame} {meth : Method} {cd : Code} {Q : State → Prop} {D : va_G} {base : Nat} {sa : Nat → Nat} {n0 s0 k fr pc nx v x y : Nat} {c : Int} {tb : List Nat} {cal : Nat → List Value → q_H → Option (q_R Value q_H)} {lo : List (Option Value)} {st : List Value} {hp : q_H} {K : q_K Value q_H} {r : q_R Value q_H}
theorem q_nar_char {z : Int32} (h0 : 0 ≤ z.toInt) (h1 : z.toInt ≤ 65535) : narrow .char (.int z) = .int z := by
  have hz : ¬ z < 0 := fun h => by
    have := Int32.lt_iff_toInt_lt.mp h
    simp at this
    omega
  obtain ⟨j, hj, rfl⟩ := nI_of hz
  rw [nI_toInt hj] at h1
  exact (pk_charN (by omega)).1
theorem q_nar_bool {z : Int32} (h : z = 0 ∨ z = 1) : narrow .boolean (.int z) = .int z ∧ fits .boolean (.int z) = true := by
  rcases h with rfl | rfl
  · exact ⟨by decide, by decide⟩
  · exact ⟨by decide, by decide⟩
theorem q_fit2 {z : Int32} (h : q_fit 2 (.int z) = true) : narrow .char (.int z) = .int z := by
  have h5 : (decide (0 ≤ z.toInt) && decide (z.toInt ≤ 65535)) = true := h
  simp only [Bool.and_eq_true, decide_eq_true_eq] at h5
  exact q_nar_char h5.1 h5.2
theorem q_fit3 {z : Int32} (h : q_fit 3 (.int z) = true) : z = 0 ∨ z = 1 := by
  have h5 : (decide (z = 0) || decide (z = 1)) = true := h
  simpa only [Bool.or_eq_true, decide_eq_true_eq] using h5
theorem q_nar_byte {z : Int32} (h : z = 0 ∨ z = 1) : narrow .byte (.int z) = .int z := by
  rcases h with rfl | rfl
  · decide
  · decide
theorem q_fit5 {z : Int32} (h : q_fit 5 (.int z) = true) : z = 0 ∨ z = 1 := by
  have h5 : (decide (z = 0) || decide (z = 1)) = true := h
  simpa only [Bool.or_eq_true, decide_eq_true_eq] using h5
theorem g_4 (C : q_Cx p s m args meth cd R k fr n0 base sa) (hd : decode (q_mc k) pc = .ok (q_in pc 4 v c x nx tb)) (hx : q_ex k 4 v c x y tb = true) (h : q_s4 q_CO cal fr (v, c, x, y, nx, tb) lo st hp K = some r) : q_Go p l e R s m args below meth cd D base sa (q_I k).1 n0 s0 (MQ below (q_Qc D base sa r) args s (r.2.length - n0) (q_sl r.2 - s0) (fun q => base ≤ q)) pc lo st hp := by
  intro H locs cells slots ls hH hS hl h1 h2
  obtain ⟨xe, xb, xm, xo, xw, xr, xk, xn, xf, xl, xN, xs⟩ := C
  have hv : v = 0 ∨ v = 1 ∨ v = 2 ∨ v = 3 ∨ v = 4 ∨ v = 5 ∨ 6 ≤ v := by omega
  have e1 : hp.length - n0 = cells := by omega
  have e2 : q_sl hp - s0 = slots := by omega
  rcases hv with rfl | rfl | rfl | rfl | rfl | rfl | hv
  · obtain ⟨a, st, rfl, h⟩ := q_p1_some h
    obtain ⟨h3, h⟩ := q_gd_some h
    have hr : r = (some a, hp) := (Option.some.inj h).symm
    rw [Bool.and_eq_true] at h3
    obtain ⟨hnl, hft⟩ := h3
    have h4 := q_nil_true hnl
    subst h4
    subst hr
    cases a <;> first | (exact absurd hft Bool.false_ne_true) | skip
    rw [e1, e2]
    exact W.iret xe xb (xr.trans (of_decide_eq_true hx)) (fun t ht hW => ⟨rfl, by rw [ht]; exact hH.moved hW.alike, hS.F ht⟩) hS.2.2 hd xk
  · obtain ⟨a, st, rfl, h⟩ := q_p1_some h
    obtain ⟨h3, h⟩ := q_gd_some h
    have hr : r = (some a, hp) := (Option.some.inj h).symm
    rw [Bool.and_eq_true] at h3
    obtain ⟨hnl, hft⟩ := h3
    have h4 := q_nil_true hnl
    subst h4
    subst hr
    cases a <;> first | (exact absurd hft Bool.false_ne_true) | skip
    rw [e1, e2]
    exact W.lret xe xb (xr.trans (of_decide_eq_true hx)) (fun t ht hW => ⟨rfl, by rw [ht]; exact hH.moved hW.alike, hS.F ht⟩) hS.2.2 hd xk
  · obtain ⟨a, st, rfl, h⟩ := q_p1_some h
    obtain ⟨h3, h⟩ := q_gd_some h
    have hr : r = (some a, hp) := (Option.some.inj h).symm
    rw [Bool.and_eq_true] at h3
    obtain ⟨hnl, hft⟩ := h3
    have h4 := q_nil_true hnl
    subst h4
    subst hr
    cases a <;> first | (exact absurd hft Bool.false_ne_true) | skip
    rw [e1, e2]
    exact W.zret xe xb (xr.trans (of_decide_eq_true hx)) (q_fit2 hft) (fun t ht hW => ⟨rfl, by rw [ht]; exact hH.moved hW.alike, hS.F ht⟩) hS.2.2 hd xk
  · obtain ⟨a, st, rfl, h⟩ := q_p1_some h
    obtain ⟨h3, h⟩ := q_gd_some h
    have hr : r = (some a, hp) := (Option.some.inj h).symm
    rw [Bool.and_eq_true] at h3
    obtain ⟨hnl, hft⟩ := h3
    have h4 := q_nil_true hnl
    subst h4
    subst hr
    cases a <;> first | (exact absurd hft Bool.false_ne_true) | skip
    rw [e1, e2]
    exact W.zret xe xb (xr.trans (of_decide_eq_true hx)) (q_nar_bool (q_fit3 hft)).1 (fun t ht hW => ⟨rfl, by rw [ht]; exact hH.moved hW.alike, hS.F ht⟩) hS.2.2 hd xk
  · obtain ⟨h3, h⟩ := q_gd_some h
    have hr : r = (none, hp) := (Option.some.inj h).symm
    have h4 := q_nil_true h3
    subst h4
    subst hr
    rw [e1, e2]
    exact W.vret xe xb (xr.trans (of_decide_eq_true hx)) (fun t ht hW => ⟨rfl, by rw [ht]; exact hH.moved hW.alike, hS.F ht⟩) hS.2.2 hd xk
  · obtain ⟨a, st, rfl, h⟩ := q_p1_some h
    obtain ⟨h3, h⟩ := q_gd_some h
    have hr : r = (some a, hp) := (Option.some.inj h).symm
    rw [Bool.and_eq_true] at h3
    obtain ⟨hnl, hft⟩ := h3
    have h4 := q_nil_true hnl
    subst h4
    subst hr
    cases a <;> first | (exact absurd hft Bool.false_ne_true) | skip
    rw [e1, e2]
    exact W.zret xe xb (xr.trans (of_decide_eq_true hx)) (q_nar_byte (q_fit5 hft)) (fun t ht hW => ⟨rfl, by rw [ht]; exact hH.moved hW.alike, hS.F ht⟩) hS.2.2 hd xk
  · obtain ⟨w, rfl⟩ : ∃ w, v = w + 6 := ⟨v - 6, by omega⟩
    exact absurd hx Bool.false_ne_true
theorem q_fitok {t : Nat} {a : Value} {ty : FieldType} (ht : (match t with
      | 0 => decide (ty = .int)
      | 1 => decide (ty = .long)
      | 3 => decide (ty = .boolean)
      | 4 => (match ty with
        | .object _ => true
        | .array _ => true
        | _ => false)
      | _ => false) = true) (hf : q_fit t a = true) : narrow ty (q_up base sa a) = q_up base sa a ∧ fits ty (q_up base sa a) = true := by
  have hv : t = 0 ∨ t = 1 ∨ t = 2 ∨ t = 3 ∨ t = 4 ∨ 5 ≤ t := by omega
  rcases hv with rfl | rfl | rfl | rfl | rfl | hv
  · have e := of_decide_eq_true ht
    subst e
    cases a <;> first | exact absurd hf Bool.false_ne_true | exact ⟨rfl, rfl⟩
  · have e := of_decide_eq_true ht
    subst e
    cases a <;> first | exact absurd hf Bool.false_ne_true | exact ⟨rfl, rfl⟩
  · exact absurd ht Bool.false_ne_true
  · have e := of_decide_eq_true ht
    subst e
    cases a <;> first | exact absurd hf Bool.false_ne_true | skip
    exact q_nar_bool (q_fit3 hf)
  · cases a <;> first | exact absurd hf Bool.false_ne_true | skip
    cases ty <;> first | exact absurd ht Bool.false_ne_true | exact ⟨rfl, rfl⟩
  · obtain ⟨w, rfl⟩ : ∃ w, t = w + 5 := ⟨t - 5, by omega⟩
    exact absurd ht Bool.false_ne_true
theorem g_10 (C : q_Cx p s m args meth cd R k fr n0 base sa) (hd : decode (q_mc k) pc = .ok (q_in pc 10 v c x nx tb)) (hn : nx = pc + (q_in pc 10 v c x nx tb).2) (hx : q_ex k 10 v c x y tb = true) (h : q_s10 q_CO cal fr (v, c, x, y, nx, tb) lo st hp K = some r) (kk : ∀ pc lo st hp, K pc lo st hp = some r → q_Go p l e R s m args below meth cd D base sa (q_I k).1 n0 s0 Q pc lo st hp) : q_Go p l e R s m args below meth cd D base sa (q_I k).1 n0 s0 Q pc lo st hp := by
  intro H locs cells slots ls hH hS hl h1 h2
  obtain ⟨xe, xb, xm, xo, xw, xr, xk, xn, xf, xl, xN, xs⟩ := C
  obtain ⟨a, st, rfl, h⟩ := q_p1_some h
  obtain ⟨rv, st, rfl, h⟩ := q_p1_some h
  obtain ⟨ad, ha, h⟩ := q_ob_some h
  obtain ⟨hf, h⟩ := q_gd_some h
  obtain ⟨vs, g1, g2, h⟩ := c_set_some (show c_set hp ad x y a (fun hp => K nx lo st hp) = some r from h)
  have hk := kk _ _ _ _ h
  clear h
  have ha := q_rf_some (show q_rf rv = some ad from ha)
  subst ha
  have hx : (decide (x < 7) && decide (y < q_cN x) && decide ((q_cT x y).1 = q_cR x) && q_at (q_t0 tb) (.fieldLink (q_mn k).cls c.toNat (q_cR x) (q_cT x y).2.1 (q_cT x y).2.2.1) && (match v % 10 with
      | 0 => decide (q_cY x y = .int)
      | 1 => decide (q_cY x y = .long)
      | 3 => decide (q_cY x y = .boolean)
      | 4 => (match q_cY x y with
        | .object _ => true
        | .array _ => true
        | _ => false)
      | _ => false) && (match (q_cT x y).2.2.2 with
      | true => decide ((q_mn k).cls = q_cR x) && decide ((q_mn k).name = "<init>")
      | false => true)) = true := hx
  rw [Bool.and_eq_true, Bool.and_eq_true] at hx
  obtain ⟨⟨hx, hty⟩, hfin⟩ := hx
  simp only [Bool.and_eq_true, decide_eq_true_eq] at hx
  obtain ⟨⟨⟨x7, yN⟩, hT⟩, hlk⟩ := hx
  have hn : nx = pc + 3 := hn
  subst hn
  obtain ⟨w1, w2⟩ := q_fitok (base := base) (sa := sa) hty (show q_fit (v % 10) a = true from hf)
  obtain ⟨ws, tys, hK, hP, hR⟩ := hH
  obtain ⟨en, e1, e2⟩ := hR.2 ad _ g1
  have hlt : ad < hp.length := (List.getElem?_eq_some_iff.mp g1).1
  rcases e2 with ⟨-, e2⟩ | ⟨e2, -⟩ | ⟨e2, -⟩ | ⟨e2, -⟩ | ⟨e2, -⟩ | ⟨e2, -⟩
  · subst e2
    have go : ∀ (H1 : Heap) (locs1 : List Loc), va_P D q_cl (ws.set ad (base + ad, .inr (x, (vs.map (q_up base sa)).set y (q_up base sa a)))) H1 → va_D (fun q => base ≤ q) (ws.set ad (base + ad, .inr (x, (vs.map (q_up base sa)).set y (q_up base sa a)))) → va_S (fun q => base ≤ q) s.heap H1 locs1 → W p l e R s m args below meth cd H1 locs1 cells slots Q (F0 m (pc + 3) ls (st.map (q_up base sa))) := fun H1 locs1 hP1 _ hS1 =>
      hk H1 locs1 cells slots ls ⟨_, tys, hK, hP1, hR.set hlt (Or.inl ⟨x7, by rw [List.map_set]⟩)⟩ hS1 hl (by rw [List.length_set]; exact h1) (by rw [q_sl_set hp ad _ _ g1 (by simp)]; exact h2)
    cases hF : (q_cT x y).2.2.2 with
    | false => exact va_put (D := D) xe xb xw (q_cin x x7) (q_cY x) (q_cYok x x7) (q_cnm x x7) xo hK hP hR.D hS ad e1 (q_cl_at x x7) y yN (xw _ (q_at_mem hlk)) (fun _ h9 => by rw [← hT]; exact h9) hF (q_cYok x x7 y yN) w1 w2 (by rw [List.length_map]; exact g2) hd go
    | true =>
      rw [hF] at hfin
      simp only [Bool.and_eq_true, decide_eq_true_eq] at hfin
      exact va_putF (D := D) xe xb xw (q_cin x x7) (q_cY x) (q_cYok x x7) (q_cnm x x7) xo hK hP hR.D hS ad e1 (q_cl_at x x7) y yN (xw _ (q_at_mem hlk)) (fun _ h9 => by rw [← hT]; exact h9) hF (by rw [xn]; exact hfin.2) (by rw [hT]; exact hfin.1.symm) (q_cYok x x7 y yN) w1 w2 (by rw [List.length_map]; exact g2) hd go
  all_goals (simp only at e2; omega)
theorem g_11 (C : q_Cx p s m args meth cd R k fr n0 base sa) (hd : decode (q_mc k) pc = .ok (q_in pc 11 v c x nx tb)) (hn : nx = pc + (q_in pc 11 v c x nx tb).2) (hx : q_ex k 11 v c x y tb = true) (h : q_s11 q_CO cal fr (v, c, x, y, nx, tb) lo st hp K = some r) (kk : ∀ pc lo st hp, K pc lo st hp = some r → q_Go p l e R s m args below meth cd D base sa (q_I k).1 n0 s0 Q pc lo st hp) : q_Go p l e R s m args below meth cd D base sa (q_I k).1 n0 s0 Q pc lo st hp := by
  intro H locs cells slots ls hH hS hl h1 h2
  obtain ⟨xe, xb, xm, xo, xw, xr, xk, xn, xf, xl, xN, xs⟩ := C
  obtain ⟨a, st, rfl, h⟩ := q_p1_some h
  obtain ⟨ht, h⟩ := q_gd_some h
  have ht : q_ty a = y := Nat.eq_of_beq_eq_true ht
  have h : q_st q_ty lo x a (fun lo => K nx lo st hp) = some r := h
  rw [q_st_eq] at h
  have hk := kk _ _ _ _ h H locs cells slots
  have hx : (q_lx v x y && decide (x < (q_I k).1) && (decide (x + 1 < (q_I k).1) || decide (y ≠ 1))) = true := hx
  simp only [q_lx, Bool.and_eq_true, Bool.or_eq_true, decide_eq_true_eq] at hx
  obtain ⟨⟨⟨⟨h6, hy⟩, h4⟩, hm⟩, hm2⟩ := hx
  rw [hy] at ht
  have hv : v = 0 ∨ v = 1 ∨ v = 2 ∨ v = 3 ∨ v = 4 ∨ v = 5 := by omega
  rcases hv with rfl | rfl | rfl | rfl | rfl | rfl
  · have hn : nx = pc + 1 := hn
    subst hn
    have h4 : x < 4 := by omega
    cases a <;> first | (simp [q_ty] at ht; done) | exact lv_istore_n xe xb hd (Nat.mod_eq_of_lt h4) hl hm rfl (fun ls' hl' => hk ls' hH hS (lv_has_sub hl' q_stv_1) h1 h2)
  · have hn : nx = pc + 2 := hn
    subst hn
    cases a <;> first | (simp [q_ty] at ht; done) | exact lv_istore xe xb hd hl hm rfl (fun ls' hl' => hk ls' hH hS (lv_has_sub hl' q_stv_1) h1 h2)
  · have hn : nx = pc + 1 := hn
    subst hn
    have h4 : x < 4 := by omega
    cases a <;> first | (simp [q_ty] at ht; done) | exact lv_lstore_n xe xb hd (Nat.mod_eq_of_lt h4) hl (by omega) rfl (fun ls' hl' => hk ls' hH hS (lv_has_sub hl' (q_stv_2 rfl)) h1 h2)
  · have hn : nx = pc + 2 := hn
    subst hn
    cases a <;> first | (simp [q_ty] at ht; done) | exact lv_lstore xe xb hd hl (by omega) rfl (fun ls' hl' => hk ls' hH hS (lv_has_sub hl' (q_stv_2 rfl)) h1 h2)
  · have hn : nx = pc + 1 := hn
    subst hn
    have h4 : x < 4 := by omega
    cases a <;> first | (simp [q_ty] at ht; done) | exact lv_astore_n xe xb hd (Nat.mod_eq_of_lt h4) hl hm rfl (fun ls' hl' => hk ls' hH hS (lv_has_sub hl' q_stv_1) h1 h2)
  · have hn : nx = pc + 2 := hn
    subst hn
    cases a <;> first | (simp [q_ty] at ht; done) | exact lv_astore xe xb hd hl hm rfl (fun ls' hl' => hk ls' hH hS (lv_has_sub hl' q_stv_1) h1 h2)
theorem q_updI {f : Nat → Int32} {vs : List Value} {j : Nat} {z : Int32} (h : ∀ (j : Nat) (v : Value), vs[j]? = some v → v = .int (f j)) : ∀ (i : Nat) (v : Value), (vs.set j (.int z))[i]? = some v → v = .int (upd f j z i) := by
  intro i v hv
  by_cases e : i = j
  · subst e
    by_cases hl : i < vs.length
    · rw [List.getElem?_set_self hl] at hv
      cases hv
      rw [pk_us]
    · rw [List.getElem?_eq_none (by simpa using hl)] at hv
      cases hv
  · rw [List.getElem?_set_ne (Ne.symm e)] at hv
    rw [pk_un e]
    exact h i v hv
theorem q_updJ {f : Nat → Int64} {vs : List Value} {j : Nat} {z : Int64} (h : ∀ (j : Nat) (v : Value), vs[j]? = some v → v = .long (f j)) : ∀ (i : Nat) (v : Value), (vs.set j (.long z))[i]? = some v → v = .long (vp_updL f j z i) := by
  intro i v hv
  by_cases e : i = j
  · subst e
    by_cases hl : i < vs.length
    · rw [List.getElem?_set_self hl] at hv
      cases hv
      rw [pk_uLs]
    · rw [List.getElem?_eq_none (by simpa using hl)] at hv
      cases hv
  · rw [List.getElem?_set_ne (Ne.symm e)] at hv
    rw [pk_uLn e]
    exact h i v hv
theorem q_updR {f : Nat → Option Nat} {vs : List Value} {j a : Nat} (h : ∀ (j : Nat) (v : Value), vs[j]? = some v → q_up base sa v = va_rf (f j)) : ∀ (i : Nat) (v : Value), (vs.set j (.ref a))[i]? = some v → q_up base sa v = va_rf (va_up f j (some (base + a)) i) := by
  intro i v hv
  by_cases e : i = j
  · subst e
    by_cases hl : i < vs.length
    · rw [List.getElem?_set_self hl] at hv
      cases hv
      simp [va_up, va_rf, q_up]
    · rw [List.getElem?_eq_none (by simpa using hl)] at hv
      cases hv
  · rw [List.getElem?_set_ne (Ne.symm e)] at hv
    rw [show va_up f j (some (base + a)) i = f i by simp [va_up, e]]
    exact h i v hv
theorem g_12 (C : q_Cx p s m args meth cd R k fr n0 base sa) (hd : decode (q_mc k) pc = .ok (q_in pc 12 v c x nx tb)) (hn : nx = pc + (q_in pc 12 v c x nx tb).2) (hx : q_ex k 12 v c x y tb = true) (h : q_s12 q_CO cal fr (v, c, x, y, nx, tb) lo st hp K = some r) (kk : ∀ pc lo st hp, K pc lo st hp = some r → q_Go p l e R s m args below meth cd D base sa (q_I k).1 n0 s0 Q pc lo st hp) : q_Go p l e R s m args below meth cd D base sa (q_I k).1 n0 s0 Q pc lo st hp := by
  intro H locs cells slots ls hH hS hl h1 h2
  obtain ⟨xe, xb, xm, xo, xw, xr, xk, xn, xf, xl, xN, xs⟩ := C
  obtain ⟨a, st, rfl, h⟩ := q_p1_some h
  obtain ⟨iv, st, rfl, h⟩ := q_p1_some h
  obtain ⟨rv, st, rfl, h⟩ := q_p1_some h
  obtain ⟨j, hj, h⟩ := q_ob_some h
  obtain ⟨ad, ha, h⟩ := q_ob_some h
  obtain ⟨w, hw, h⟩ := q_ob_some h
  obtain ⟨vs, g1, g2, h⟩ := c_set_some (show c_set hp ad v j w (fun hp => K nx lo st hp) = some r from h)
  have hk := kk _ _ _ _ h
  clear h
  have ha := q_rf_some (show q_rf rv = some ad from ha)
  subst ha
  obtain ⟨i, rfl, i0, ij⟩ := q_ix_some (show q_ix iv = some j from hj)
  subst ij
  have hx : (decide (10 ≤ v) && decide (v ≤ 14)) = true := hx
  simp only [Bool.and_eq_true, decide_eq_true_eq] at hx
  have hlt : ad < hp.length := (List.getElem?_eq_some_iff.mp g1).1
  obtain ⟨ws, tys, hK, hP, hR⟩ := hH
  obtain ⟨en, e1, e2⟩ := hR.2 ad _ g1
  have fin : ∀ (en : va_E), q_CE base sa tys (v, vs.set i.toNatClampNeg w) en → ∀ (H1 : Heap) (locs1 : List Loc), va_P D q_cl (ws.set ad (base + ad, en)) H1 → va_S (fun q => base ≤ q) s.heap H1 locs1 → W p l e R s m args below meth cd H1 locs1 cells slots Q (F0 m nx ls (st.map (q_up base sa))) := fun en he H1 locs1 hP1 hS1 =>
    hk H1 locs1 cells slots ls ⟨_, tys, hK, hP1, hR.set hlt he⟩ hS1 hl (by rw [List.length_set]; exact h1) (by rw [q_sl_set hp ad _ _ g1 (by simp)]; exact h2)
  have hw : q_kept q_CO v a hp = some w := hw
  rcases e2 with ⟨e2, -⟩ | ⟨e2, cA, t0, f, e3, e4, e5⟩ | ⟨e2, cA, t0, f, e3, e4, e5⟩ | ⟨e2, cA, t0, f, e3, e4, e5⟩ | ⟨e2, cA, t0, f, e3, e4, e5⟩ | ⟨e2, cA, t0, f, e3, e4, e5⟩
  · simp only at e2; omega
  · simp only at e2; subst e2; subst e3
    have hn : nx = pc + 1 := hn
    subst hn
    obtain ⟨h5, h6⟩ := q_gd_some hw
    cases h6
    have h5 : q_ty a = 0 := Nat.eq_of_beq_eq_true h5
    cases a <;> first | (simp [q_ty] at h5; done) | exact va_iast (D := D) xe xb hK hP hR.D hS ad t0 e1 e4 (vp_in_of0 i0 g2) hd (fun H1 locs1 hP1 _ hS1 => fin _ (Or.inr (Or.inl ⟨rfl, cA, t0, _, by rw [List.length_set], e4, q_updI e5⟩)) H1 locs1 hP1 hS1)
  · simp only at e2; subst e2; subst e3
    have hn : nx = pc + 1 := hn
    subst hn
    obtain ⟨h5, h6⟩ := q_gd_some hw
    cases h6
    have h5 : q_ty a = 1 := Nat.eq_of_beq_eq_true h5
    cases a <;> first | (simp [q_ty] at h5; done) | exact va_last (D := D) xe xb hK hP hR.D hS ad t0 e1 e4 (vp_in_of0 i0 g2) hd (fun H1 locs1 hP1 _ hS1 => fin _ (Or.inr (Or.inr (Or.inl ⟨rfl, cA, t0, _, by rw [List.length_set], e4, q_updJ e5⟩))) H1 locs1 hP1 hS1)
  · simp only at e2; subst e2; subst e3
    have hn : nx = pc + 1 := hn
    subst hn
    have hw : q_un 6 a = some w := hw
    cases a <;> first | (cases hw; done) | (cases hw; exact va_cast (D := D) xe xb hK hP hR.D hS ad t0 e1 e4 (vp_in_of0 i0 g2) hd (fun H1 locs1 hP1 _ hS1 => fin _ (Or.inr (Or.inr (Or.inr (Or.inl ⟨rfl, cA, t0, _, by rw [List.length_set], e4, q_updI e5⟩)))) H1 locs1 hP1 hS1))
  · simp only at e2; subst e2; subst e3
    have hn : nx = pc + 1 := hn
    subst hn
    obtain ⟨ha, h5, h6⟩ := q_ob_some hw
    obtain ⟨t9, h7, h8⟩ := q_ob_some h6
    obtain ⟨h9, h10⟩ := q_gd_some h8
    cases h10
    have h5 := q_rf_some (show q_rf a = some ha from h5)
    subst h5
    have h9 : t9 = 2 := Nat.eq_of_beq_eq_true h9
    subst h9
    obtain ⟨vs9, k1⟩ := c_tag_some (show c_tag hp ha = some 2 from h7)
    obtain ⟨en9, k2, k3⟩ := hR.2 ha _ k1
    rcases k3 with ⟨-, k3⟩ | ⟨k3, -⟩ | ⟨k3, -⟩ | ⟨k3, -⟩ | ⟨k3, -⟩ | ⟨k3, -⟩
    · subst k3
      exact va_astq (D := D) xe xb hK hP hR.D hS ad t0 ha 2 e1 e4 k2 (q_cl_at 2 (by decide)) (vp_in_of0 i0 g2) hd (fun H1 locs1 hP1 _ hS1 => fin _ (Or.inr (Or.inr (Or.inr (Or.inr (Or.inl ⟨rfl, cA, t0, _, by rw [List.length_set], e4, q_updR e5⟩))))) H1 locs1 hP1 hS1)
    all_goals (simp only at k3; omega)
  · simp only at e2; subst e2; subst e3
    have hn : nx = pc + 1 := hn
    subst hn
    obtain ⟨ha, h5, h6⟩ := q_ob_some hw
    obtain ⟨t9, h7, h8⟩ := q_ob_some h6
    obtain ⟨h9, h10⟩ := q_gd_some h8
    cases h10
    have h5 := q_rf_some (show q_rf a = some ha from h5)
    subst h5
    have h9 : t9 = 3 := Nat.eq_of_beq_eq_true h9
    subst h9
    obtain ⟨vs9, k1⟩ := c_tag_some (show c_tag hp ha = some 3 from h7)
    obtain ⟨en9, k2, k3⟩ := hR.2 ha _ k1
    rcases k3 with ⟨-, k3⟩ | ⟨k3, -⟩ | ⟨k3, -⟩ | ⟨k3, -⟩ | ⟨k3, -⟩ | ⟨k3, -⟩
    · subst k3
      exact va_astq (D := D) xe xb hK hP hR.D hS ad t0 ha 3 e1 e4 k2 (q_cl_at 3 (by decide)) (vp_in_of0 i0 g2) hd (fun H1 locs1 hP1 _ hS1 => fin _ (Or.inr (Or.inr (Or.inr (Or.inr (Or.inr ⟨rfl, cA, t0, _, by rw [List.length_set], e4, q_updR e5⟩))))) H1 locs1 hP1 hS1)
    all_goals (simp only at k3; omega)
end q_ops

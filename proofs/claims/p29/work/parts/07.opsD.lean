section q_ops
variable {p : Program} {l : Launch} {e : Env} {R : Room} {s : State} {m : MethodId} {args : Array Value} {below : List Frame} {meth : Method} {cd : Code} {Q : State → Prop} {D : va_G} {base : Nat} {sa : Nat → Nat} {n0 s0 k fr pc nx v x y : Nat} {c : Int} {tb : List Nat} {cal : Nat → List Value → q_H → Option (q_R Value q_H)} {lo : List (Option Value)} {st : List Value} {hp : q_H} {K : q_K Value q_H} {r : q_R Value q_H}
/-- a new cell lies behind the others -/
theorem q_newat {tys : List (ClassId × FieldType)} {hp : q_H} {ws : va_W} {q : Nat} {en : va_E} {H1 : Heap} (hR : q_rel base sa tys hp ws) (hP1 : va_P D q_cl (ws ++ [(q, en)]) H1) (hD1 : va_D (fun q => base ≤ q) (ws ++ [(q, en)])) (hz : H1.size ≤ base + hp.length + 1) : q = base + hp.length := by
  have hw : (ws ++ [(q, en)])[ws.length]? = some (q, en) := by simp
  have h1 : base ≤ q := hD1.2 _ _ hw
  have h2 : q < H1.size := (hP1 _ _ hw).lt
  by_cases c1 : q < base + hp.length
  · have hi : q - base < ws.length := by rw [hR.1]; omega
    have h3 : ws[q - base]? = some ws[q - base] := List.getElem?_eq_getElem hi
    have h4 := hR.addr h3
    have h5 := hD1.1 (q - base) ws.length _ _ (by rw [List.getElem?_append_left hi]; exact h3) hw (by rw [h4]; show base + (q - base) = q; omega)
    omega
  · omega
theorem q_new_words : ∀ x, x < 7 → Cond.instantiable (q_cR x) (q_cN x) ∈ q_good ∧ Cond.initialized (q_cR x) ∈ q_good
  | 0, _ => ⟨List.mem_filter.mpr ⟨by decide +kernel, by decide +kernel⟩, List.mem_filter.mpr ⟨by decide +kernel, by decide +kernel⟩⟩
  | 1, _ => ⟨List.mem_filter.mpr ⟨by decide +kernel, by decide +kernel⟩, List.mem_filter.mpr ⟨by decide +kernel, by decide +kernel⟩⟩
  | 2, _ => ⟨List.mem_filter.mpr ⟨by decide +kernel, by decide +kernel⟩, List.mem_filter.mpr ⟨by decide +kernel, by decide +kernel⟩⟩
  | 3, _ => ⟨List.mem_filter.mpr ⟨by decide +kernel, by decide +kernel⟩, List.mem_filter.mpr ⟨by decide +kernel, by decide +kernel⟩⟩
  | 4, _ => ⟨List.mem_filter.mpr ⟨by decide +kernel, by decide +kernel⟩, List.mem_filter.mpr ⟨by decide +kernel, by decide +kernel⟩⟩
  | 5, _ => ⟨List.mem_filter.mpr ⟨by decide +kernel, by decide +kernel⟩, List.mem_filter.mpr ⟨by decide +kernel, by decide +kernel⟩⟩
  | 6, _ => ⟨List.mem_filter.mpr ⟨by decide +kernel, by decide +kernel⟩, List.mem_filter.mpr ⟨by decide +kernel, by decide +kernel⟩⟩
  | n + 7, h => absurd h (by omega)
theorem q_arr_words : Cond.arrayClass .int ∈ q_good ∧ Cond.arrayClass .long ∈ q_good ∧ Cond.arrayClass .char ∈ q_good := ⟨List.mem_filter.mpr ⟨by decide +kernel, by decide +kernel⟩, List.mem_filter.mpr ⟨by decide +kernel, by decide +kernel⟩, List.mem_filter.mpr ⟨by decide +kernel, by decide +kernel⟩⟩
theorem c_new_some {B : Type} {hp : q_H} {t n : Nat} {kk : q_H → Option B} {r : B} (h : c_new hp t n kk = some r) : kk (hp ++ [(t, c_dfl t n)]) = some r := by
  unfold c_new at h
  rw [q_frc_eq, q_app_eq] at h
  exact h
theorem g_20 (C : q_Cx p s m args meth cd R k fr n0 base sa) (hd : decode (q_mc k) pc = .ok (q_in pc 20 v c x nx tb)) (hn : nx = pc + (q_in pc 20 v c x nx tb).2) (hx : q_ex k 20 v c x y tb = true) (h : q_s20 q_CO cal fr (v, c, x, y, nx, tb) lo st hp K = some r) (kk : ∀ pc lo st hp, K pc lo st hp = some r → q_Go p l e R s m args below meth cd D base sa (q_I k).1 n0 s0 Q pc lo st hp) (hm : ∀ pc lo st hp, K pc lo st hp = some r → hp.length ≤ r.2.length ∧ q_sl hp ≤ q_sl r.2) (hRc : r.2.length = n0 + R.cells) (hRs : q_sl r.2 = s0 + R.slots) : q_Go p l e R s m args below meth cd D base sa (q_I k).1 n0 s0 Q pc lo st hp := by
  intro H locs cells slots ls hH hS hl h1 h2
  obtain ⟨xe, xb, xm, xo, xw, xr, xk, xn, xf, xl, xN, xs⟩ := C
  obtain ⟨x7, h⟩ := q_gd_some h
  have x7 : x < 7 := Nat.lt_of_succ_le (Nat.le_of_ble_eq_true x7)
  have h := c_new_some (show c_new hp x 0 (fun hp' => K nx lo (.ref hp.length :: st) hp') = some r from h)
  have hk := kk _ _ _ _ h
  have hmm := hm _ _ _ _ h
  rw [List.length_append, List.length_singleton, q_sl_app] at hmm
  obtain ⟨d1, d2⟩ := q_dfl_ok x x7
  have hs1 : q_sl [(x, c_dfl x 0)] = q_cN x := by simp [q_sl, d1]
  rw [hs1] at hmm
  have hx : (decide (x < 7) && q_at (q_t0 tb) (.classLink (q_mn k).cls c.toNat (q_cR x))) = true := hx
  rw [Bool.and_eq_true] at hx
  have hn : nx = pc + 3 := hn
  subst hn
  obtain ⟨ws, tys, hK, hP, hR⟩ := hH
  refine va_new (D := D) xe xb xw (q_cin x x7) (q_cY x) (q_cYok x x7) xo (xw _ (q_at_mem hx.2)) (xw _ (q_new_words x x7).1) (xw _ (q_new_words x x7).2) hK hP hR.D hS (fun q hq => by show base ≤ q; omega) (q_cl_at x x7) (fs := c_dfl x 0) d2 (by omega) (by omega) hd (fun q H1 hP1 hD1 hS1 => ?_)
  refine W_sz (fun hz => ?_)
  have hq := q_newat hR hP1 hD1 (by omega)
  subst hq
  refine hk H1 locs (cells + 1) (slots + q_cN x) ls ⟨_, tys ++ [], by rw [List.append_nil]; exact hK, hP1, hR.push rfl (Or.inl ⟨x7, by rw [q_dfl_up base sa x x7]⟩)⟩ hS1 hl (by simp; omega) (by rw [q_sl_app, hs1]; omega)
theorem q_repl {n j : Nat} (a : Value) {v : Value} (h : (List.replicate n a)[j]? = some v) : v = a := List.eq_of_mem_replicate (List.mem_of_getElem? h)
theorem g_21 (C : q_Cx p s m args meth cd R k fr n0 base sa) (hd : decode (q_mc k) pc = .ok (q_in pc 21 v c x nx tb)) (hn : nx = pc + (q_in pc 21 v c x nx tb).2) (hx : q_ex k 21 v c x y tb = true) (h : q_s21 q_CO cal fr (v, c, x, y, nx, tb) lo st hp K = some r) (kk : ∀ pc lo st hp, K pc lo st hp = some r → q_Go p l e R s m args below meth cd D base sa (q_I k).1 n0 s0 Q pc lo st hp) (hm : ∀ pc lo st hp, K pc lo st hp = some r → hp.length ≤ r.2.length ∧ q_sl hp ≤ q_sl r.2) (hRc : r.2.length = n0 + R.cells) (hRs : q_sl r.2 = s0 + R.slots) : q_Go p l e R s m args below meth cd D base sa (q_I k).1 n0 s0 Q pc lo st hp := by
  intro H locs cells slots ls hH hS hl h1 h2
  obtain ⟨xe, xb, xm, xo, xw, xr, xk, xn, xf, xl, xN, xs⟩ := C
  obtain ⟨nv, st, rfl, h⟩ := q_p1_some h
  obtain ⟨N, hN, h⟩ := q_ob_some h
  obtain ⟨hg, h⟩ := q_gd_some h
  rw [Bool.and_eq_true] at hg
  have hN2 : N ≤ 1000 := Nat.le_of_ble_eq_true hg.1
  have h := c_new_some (show c_new hp v N (fun hp' => K nx lo (.ref hp.length :: st) hp') = some r from h)
  have hk := kk _ _ _ _ h
  have hmm := hm _ _ _ _ h
  clear h
  rw [List.length_append, List.length_singleton, q_sl_app] at hmm
  obtain ⟨z, rfl, z0, zN⟩ := q_ix_some (show q_ix nv = some N from hN)
  have hx : (decide (10 ≤ v) && decide (v ≤ 12)) = true := hx
  simp only [Bool.and_eq_true, decide_eq_true_eq] at hx
  obtain ⟨ws, tys, hK, hP, hR⟩ := hH
  have hv : v = 10 ∨ v = 11 ∨ v = 12 := by omega
  rcases hv with rfl | rfl | rfl
  · have hn : nx = pc + 2 := hn
    subst hn
    have hs1 : q_sl [((10 : Nat), c_dfl 10 N)] = N := by simp [q_sl, c_dfl]
    rw [hs1] at hmm
    refine va_newa (D := D) xe xb (atype := .int) (xw _ q_arr_words.1) (ty := .int) rfl hK hP hR.D hS (fun q hq => by show base ≤ q; omega) (a0 := (N, .inl (fun _ => 0))) (fun _ => rfl) z0 zN (by show N * _ ≤ 536870912; simp only [componentBytes]; omega) (by omega) (by omega) hd (fun q cA H1 hK1 hP1 hD1 hS1 => ?_)
    refine W_sz (fun hz => ?_)
    have hq := q_newat hR hP1 hD1 (by omega)
    subst hq
    refine hk H1 locs (cells + 1) (slots + N) ls ⟨_, _, hK1, hP1, hR.push rfl (Or.inr (Or.inl ⟨rfl, cA, tys.length, _, by simp [c_dfl], by simp, fun j v hv => q_repl (.int 0) hv⟩))⟩ hS1 hl (by simp; omega) (by rw [q_sl_app, hs1]; omega)
  · have hn : nx = pc + 2 := hn
    subst hn
    have hs1 : q_sl [((11 : Nat), c_dfl 11 N)] = N := by simp [q_sl, c_dfl]
    rw [hs1] at hmm
    refine va_newa (D := D) xe xb (atype := .long) (xw _ q_arr_words.2.1) (ty := .long) rfl hK hP hR.D hS (fun q hq => by show base ≤ q; omega) (a0 := (N, .inr (.inl (fun _ => 0)))) (fun _ => rfl) z0 zN (by show N * _ ≤ 536870912; simp only [componentBytes]; omega) (by omega) (by omega) hd (fun q cA H1 hK1 hP1 hD1 hS1 => ?_)
    refine W_sz (fun hz => ?_)
    have hq := q_newat hR hP1 hD1 (by omega)
    subst hq
    refine hk H1 locs (cells + 1) (slots + N) ls ⟨_, _, hK1, hP1, hR.push rfl (Or.inr (Or.inr (Or.inl ⟨rfl, cA, tys.length, _, by simp [c_dfl], by simp, fun j v hv => q_repl (.long 0) hv⟩)))⟩ hS1 hl (by simp; omega) (by rw [q_sl_app, hs1]; omega)
  · have hn : nx = pc + 2 := hn
    subst hn
    have hs1 : q_sl [((12 : Nat), c_dfl 12 N)] = N := by simp [q_sl, c_dfl]
    rw [hs1] at hmm
    refine va_newa (D := D) xe xb (atype := .char) (xw _ q_arr_words.2.2) (ty := .char) rfl hK hP hR.D hS (fun q hq => by show base ≤ q; omega) (a0 := (N, .inl (fun _ => 0))) (fun _ => rfl) z0 zN (by show N * _ ≤ 536870912; simp only [componentBytes]; omega) (by omega) (by omega) hd (fun q cA H1 hK1 hP1 hD1 hS1 => ?_)
    refine W_sz (fun hz => ?_)
    have hq := q_newat hR hP1 hD1 (by omega)
    subst hq
    refine hk H1 locs (cells + 1) (slots + N) ls ⟨_, _, hK1, hP1, hR.push rfl (Or.inr (Or.inr (Or.inr (Or.inl ⟨rfl, cA, tys.length, _, by simp [c_dfl], by simp, fun j v hv => q_repl (.int 0) hv⟩))))⟩ hS1 hl (by simp; omega) (by rw [q_sl_app, hs1]; omega)
theorem g_22 (C : q_Cx p s m args meth cd R k fr n0 base sa) (hd : decode (q_mc k) pc = .ok (q_in pc 22 v c x nx tb)) (hn : nx = pc + (q_in pc 22 v c x nx tb).2) (hx : q_ex k 22 v c x y tb = true) (h : q_s22 q_CO cal fr (v, c, x, y, nx, tb) lo st hp K = some r) (kk : ∀ pc lo st hp, K pc lo st hp = some r → q_Go p l e R s m args below meth cd D base sa (q_I k).1 n0 s0 Q pc lo st hp) (hm : ∀ pc lo st hp, K pc lo st hp = some r → hp.length ≤ r.2.length ∧ q_sl hp ≤ q_sl r.2) (hRc : r.2.length = n0 + R.cells) (hRs : q_sl r.2 = s0 + R.slots) : q_Go p l e R s m args below meth cd D base sa (q_I k).1 n0 s0 Q pc lo st hp := by
  intro H locs cells slots ls hH hS hl h1 h2
  obtain ⟨xe, xb, xm, xo, xw, xr, xk, xn, xf, xl, xN, xs⟩ := C
  obtain ⟨nv, st, rfl, h⟩ := q_p1_some h
  obtain ⟨N, hN, h⟩ := q_ob_some h
  obtain ⟨hg, h⟩ := q_gd_some h
  rw [Bool.and_eq_true] at hg
  have hN2 : N ≤ 1000 := Nat.le_of_ble_eq_true hg.1
  have hv : v = 13 ∨ v = 14 := by
    have h9 := hg.2
    rw [Bool.or_eq_true] at h9
    exact h9.imp Nat.eq_of_beq_eq_true Nat.eq_of_beq_eq_true
  have h := c_new_some (show c_new hp v N (fun hp' => K nx lo (.ref hp.length :: st) hp') = some r from h)
  have hk := kk _ _ _ _ h
  have hmm := hm _ _ _ _ h
  clear h
  rw [List.length_append, List.length_singleton, q_sl_app] at hmm
  obtain ⟨z, rfl, z0, zN⟩ := q_ix_some (show q_ix nv = some N from hN)
  obtain ⟨ws, tys, hK, hP, hR⟩ := hH
  rcases hv with rfl | rfl
  · have hn : nx = pc + 3 := hn
    subst hn
    have hs1 : q_sl [((13 : Nat), c_dfl 13 N)] = N := by simp [q_sl, c_dfl]
    rw [hs1] at hmm
    refine va_newq (D := D) xe xb xo (xw _ (q_at_mem hx)) xN.2.1 hK hP hR.D hS (fun q hq => by show base ≤ q; omega) z0 zN (by omega) (by omega) (by omega) hd (fun q cA H1 hK1 hP1 hD1 hS1 => ?_)
    refine W_sz (fun hz => ?_)
    have hq := q_newat hR hP1 hD1 (by omega)
    subst hq
    refine hk H1 locs (cells + 1) (slots + N) ls ⟨_, _, hK1, hP1, hR.push rfl (Or.inr (Or.inr (Or.inr (Or.inr (Or.inl ⟨rfl, cA, tys.length, fun _ => none, by simp [c_dfl], by rw [List.getElem?_append_right (Nat.le_refl _), Nat.sub_self]; rfl, fun j v hv => by rw [q_repl .null hv]; rfl⟩)))))⟩ hS1 hl (by simp; omega) (by rw [q_sl_app, hs1]; omega)
  · have hn : nx = pc + 3 := hn
    subst hn
    have hs1 : q_sl [((14 : Nat), c_dfl 14 N)] = N := by simp [q_sl, c_dfl]
    rw [hs1] at hmm
    refine va_newq (D := D) xe xb xo (xw _ (q_at_mem hx)) xN.2.2.1 hK hP hR.D hS (fun q hq => by show base ≤ q; omega) z0 zN (by omega) (by omega) (by omega) hd (fun q cA H1 hK1 hP1 hD1 hS1 => ?_)
    refine W_sz (fun hz => ?_)
    have hq := q_newat hR hP1 hD1 (by omega)
    subst hq
    refine hk H1 locs (cells + 1) (slots + N) ls ⟨_, _, hK1, hP1, hR.push rfl (Or.inr (Or.inr (Or.inr (Or.inr (Or.inr ⟨rfl, cA, tys.length, fun _ => none, by simp [c_dfl], by rw [List.getElem?_append_right (Nat.le_refl _), Nat.sub_self]; rfl, fun j v hv => by rw [q_repl .null hv]; rfl⟩)))))⟩ hS1 hl (by simp; omega) (by rw [q_sl_app, hs1]; omega)
end q_ops

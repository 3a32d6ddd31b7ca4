/-! the machine's own values and heaps, as the lists have them: cell h lies at base + h, text constant k at sa k -/
def q_up (base : Nat) (sa : Nat → Nat) : Value → Value
  | .ref h => .ref (base + h)
  | .float k => .ref (sa k.toNat)
  | .double _ => .int 0
  | v => v
theorem q_up_cat (base : Nat) (sa : Nat → Nat) (v : Value) : (q_up base sa v).category = bif Nat.beq (q_ty v) 1 then 2 else 1 := by cases v <;> rfl
theorem q_cats_up (base : Nat) (sa : Nat → Nat) : ∀ st : List Value, ((st.map (q_up base sa)).map fun v => v.category).sum = q_cats q_ty st
  | [] => rfl
  | a :: l => by
    have h := q_cats_up base sa l
    simp only [List.map_cons, List.sum_cons, q_cats, q_up_cat]
    rw [h]
/-- the locals that hold something, with their places -/
def q_lp (base : Nat) (sa : Nat → Nat) : Nat → List (Option Value) → List (Nat × Value)
  | _, [] => []
  | i, none :: l => q_lp base sa (i + 1) l
  | i, some v :: l => (i, q_up base sa v) :: q_lp base sa (i + 1) l
theorem q_lp_mem (base : Nat) (sa : Nat → Nat) : ∀ (lo : List (Option Value)) (i : Nat) (q : Nat × Value), q ∈ q_lp base sa i lo ↔ ∃ (j : Nat) (v : Value), lo[j]? = some (some v) ∧ q = (i + j, q_up base sa v)
  | [], i, q => by simp [q_lp]
  | none :: l, i, q => by
    rw [q_lp, q_lp_mem base sa l (i + 1) q]
    constructor
    · rintro ⟨j, v, h1, h2⟩
      exact ⟨j + 1, v, by simpa using h1, by rw [h2]; congr 1; omega⟩
    · rintro ⟨j, v, h1, h2⟩
      cases j with
      | zero => simp at h1
      | succ j => exact ⟨j, v, by simpa using h1, by rw [h2]; congr 1; omega⟩
  | some w :: l, i, q => by
    rw [q_lp, List.mem_cons, q_lp_mem base sa l (i + 1) q]
    constructor
    · rintro (h | ⟨j, v, h1, h2⟩)
      · exact ⟨0, w, by simp, by simpa using h⟩
      · exact ⟨j + 1, v, by simpa using h1, by rw [h2]; congr 1; omega⟩
    · rintro ⟨j, v, h1, h2⟩
      cases j with
      | zero =>
        simp at h1
        exact Or.inl (by rw [h2, h1]; rfl)
      | succ j => exact Or.inr ⟨j, v, by simpa using h1, by rw [h2]; congr 1; omega⟩
theorem q_lp_get {base : Nat} {sa : Nat → Nat} {ls : Array Slot} {nL : Nat} {lo : List (Option Value)} (h : lv_has ls nL (q_lp base sa 0 lo)) {x : Nat} {a : Value} (ha : lo[x]? = some (some a)) : ls[x]? = some (.val (q_up base sa a)) :=
  h.2.2 (x, q_up base sa a) ((q_lp_mem base sa lo 0 _).mpr ⟨x, a, ha, by simp⟩)
/-- the locals behind a store -/
def q_clr (lo : List (Option Value)) (x : Nat) : List (Option Value) := match x with
  | 0 => lo
  | x' + 1 => match lo[x']? with
    | some (some w) => bif Nat.beq (q_ty w) 1 then lo.set x' none else lo
    | _ => lo
def q_stv (lo : List (Option Value)) (x : Nat) (v : Value) : List (Option Value) := bif Nat.beq (q_ty v) 1 then ((q_clr lo x).set x (some v)).set (x + 1) none else (q_clr lo x).set x (some v)
theorem q_st2_eq {B : Type} (lo : List (Option Value)) (x : Nat) (v : Value) (k : List (Option Value) → Option B) : q_st2 q_ty lo x v k = k (bif Nat.beq (q_ty v) 1 then (lo.set x (some v)).set (x + 1) none else lo.set x (some v)) := by
  unfold q_st2
  rw [q_set_eq]
  cases Nat.beq (q_ty v) 1
  · rfl
  · exact q_set_eq _ _ _ _
theorem q_st_eq {B : Type} (lo : List (Option Value)) (x : Nat) (v : Value) (k : List (Option Value) → Option B) : q_st q_ty lo x v k = k (q_stv lo x v) := by
  cases x with
  | zero => exact q_st2_eq lo 0 v k
  | succ x =>
    unfold q_st q_stv q_clr
    simp only [q_nth_eq]
    cases h : lo[x]? with
    | none => exact q_st2_eq lo (x + 1) v k
    | some o =>
      cases o with
      | none => exact q_st2_eq lo (x + 1) v k
      | some w =>
        cases hw : Nat.beq (q_ty w) 1 with
        | false => simp only [hw, cond_false]; exact q_st2_eq lo (x + 1) v k
        | true => simp only [hw, cond_true, q_set_eq]; exact q_st2_eq _ (x + 1) v k
theorem q_clr_mem {lo : List (Option Value)} {x j : Nat} {w : Value} (h : (q_clr lo x)[j]? = some (some w)) : lo[j]? = some (some w) ∧ ¬ (j + 1 = x ∧ q_ty w = 1) := by
  cases x with
  | zero => exact ⟨h, by omega⟩
  | succ x =>
    unfold q_clr at h
    simp only at h
    cases hx : lo[x]? with
    | none =>
      rw [hx] at h
      refine ⟨h, fun q => ?_⟩
      have e2 : j = x := by omega
      rw [e2, hx] at h
      cases h
    | some o =>
      rw [hx] at h
      cases o with
      | none =>
        refine ⟨h, fun q => ?_⟩
        have e2 : j = x := by omega
        rw [e2, hx] at h
        cases h
      | some u =>
        simp only at h
        cases hu : Nat.beq (q_ty u) 1 with
        | false =>
          rw [hu, cond_false] at h
          refine ⟨h, fun ⟨e, e2⟩ => ?_⟩
          have e3 : j = x := by omega
          rw [e3, hx] at h
          cases h
          rw [e2] at hu
          cases hu
        | true =>
          rw [hu, cond_true] at h
          by_cases e : j = x
          · rw [e, List.getElem?_set_self (List.getElem?_eq_some_iff.mp hx).1] at h
            cases h
          · rw [List.getElem?_set_ne (Ne.symm e)] at h
            exact ⟨h, fun ⟨e2, _⟩ => e (by omega)⟩
theorem q_set_mem {lo : List (Option Value)} {x j : Nat} {v w : Value} (h : (lo.set x (some v))[j]? = some (some w)) : (j = x ∧ w = v) ∨ (j ≠ x ∧ lo[j]? = some (some w)) := by
  by_cases e : j = x
  · rw [e] at h
    by_cases hl : x < lo.length
    · rw [List.getElem?_set_self hl] at h
      cases h
      exact Or.inl ⟨e, rfl⟩
    · rw [List.getElem?_eq_none (by simpa using hl)] at h
      cases h
  · rw [List.getElem?_set_ne (Ne.symm e)] at h
    exact Or.inr ⟨e, h⟩
theorem q_stv_mem {lo : List (Option Value)} {x j : Nat} {v w : Value} (h : (q_stv lo x v)[j]? = some (some w)) : (j = x ∧ w = v) ∨ (j ≠ x ∧ lo[j]? = some (some w) ∧ ¬ (j + 1 = x ∧ q_ty w = 1) ∧ (q_ty v = 1 → j ≠ x + 1)) := by
  unfold q_stv at h
  cases hv : Nat.beq (q_ty v) 1 with
  | false =>
    rw [hv, cond_false] at h
    rcases q_set_mem h with h1 | ⟨h1, h2⟩
    · exact Or.inl h1
    · obtain ⟨h3, h4⟩ := q_clr_mem h2
      exact Or.inr ⟨h1, h3, h4, fun e => by rw [e] at hv; cases hv⟩
  | true =>
    rw [hv, cond_true] at h
    have hne : j ≠ x + 1 := by
      intro e
      rw [e] at h
      by_cases hl : x + 1 < ((q_clr lo x).set x (some v)).length
      · rw [List.getElem?_set_self hl] at h
        cases h
      · rw [List.getElem?_eq_none (by simpa using hl)] at h
        cases h
    rw [List.getElem?_set_ne (Ne.symm hne)] at h
    rcases q_set_mem h with h1 | ⟨h1, h2⟩
    · exact Or.inl h1
    · obtain ⟨h3, h4⟩ := q_clr_mem h2
      exact Or.inr ⟨h1, h3, h4, fun _ => hne⟩
theorem lv_has_sub {ls : Array Slot} {nL : Nat} {l l' : List (Nat × Value)} (h : lv_has ls nL l) (hs : ∀ q ∈ l', q ∈ l) : lv_has ls nL l' := ⟨h.1, h.2.1, fun q hq => h.2.2 q (hs q hq)⟩
theorem q_up_cat2 {base : Nat} {sa : Nat → Nat} {w : Value} (h : (q_up base sa w).category = 2) : q_ty w = 1 := by cases w <;> first | rfl | (simp [q_up, Value.category] at h)
theorem q_stv_1 {base : Nat} {sa : Nat → Nat} {lo : List (Option Value)} {x : Nat} {v : Value} : ∀ q ∈ q_lp base sa 0 (q_stv lo x v), q ∈ (x, q_up base sa v) :: (q_lp base sa 0 lo).filter (fun q => !(q.1 == x) && !(q.1 + 1 == x && q.2.category == 2)) := by
  intro q hq
  obtain ⟨j, w, h1, rfl⟩ := (q_lp_mem base sa _ 0 q).mp hq
  rcases q_stv_mem h1 with ⟨rfl, rfl⟩ | ⟨h2, h3, h4, -⟩
  · simp
  · refine List.mem_cons_of_mem _ (List.mem_filter.mpr ⟨(q_lp_mem base sa lo 0 _).mpr ⟨j, w, h3, rfl⟩, ?_⟩)
    simp only [Nat.zero_add, Bool.and_eq_true, Bool.not_eq_true', beq_eq_false_iff_ne, ne_eq, Bool.and_eq_false_iff]
    refine ⟨h2, ?_⟩
    by_cases e : j + 1 = x
    · exact Or.inr (fun e2 => h4 ⟨e, q_up_cat2 e2⟩)
    · exact Or.inl e
theorem q_stv_2 {base : Nat} {sa : Nat → Nat} {lo : List (Option Value)} {x : Nat} {v : Value} (hv : q_ty v = 1) : ∀ q ∈ q_lp base sa 0 (q_stv lo x v), q ∈ (x, q_up base sa v) :: (q_lp base sa 0 lo).filter (fun q => !(q.1 == x) && (!(q.1 == x + 1) && !(q.1 + 1 == x && q.2.category == 2))) := by
  intro q hq
  obtain ⟨j, w, h1, rfl⟩ := (q_lp_mem base sa _ 0 q).mp hq
  rcases q_stv_mem h1 with ⟨rfl, rfl⟩ | ⟨h2, h3, h4, h5⟩
  · simp
  · refine List.mem_cons_of_mem _ (List.mem_filter.mpr ⟨(q_lp_mem base sa lo 0 _).mpr ⟨j, w, h3, rfl⟩, ?_⟩)
    simp only [Nat.zero_add, Bool.and_eq_true, Bool.not_eq_true', beq_eq_false_iff_ne, ne_eq, Bool.and_eq_false_iff]
    refine ⟨h2, h5 hv, ?_⟩
    by_cases e : j + 1 = x
    · exact Or.inr (fun e2 => h4 ⟨e, q_up_cat2 e2⟩)
    · exact Or.inl e
-- classes
theorem qgw_0 : ∀ w ∈ u_ws RX0 TX0 3, goodWord w = true := by decide +kernel
theorem qgw_1 : ∀ w ∈ u_ws RX1 TX1 5, goodWord w = true := by decide +kernel
theorem qgw_2 : ∀ w ∈ u_ws RX2 TX2 12, goodWord w = true := by decide +kernel
theorem qgw_3 : ∀ w ∈ u_ws RX3 TX3 4, goodWord w = true := by decide +kernel
theorem qgw_4 : ∀ w ∈ u_ws RX4 TX4 4, goodWord w = true := by decide +kernel
theorem qgw_5 : ∀ w ∈ u_ws RX5 TX5 11, goodWord w = true := by decide +kernel
theorem qgw_6 : ∀ w ∈ u_ws RX6 TX6 22, goodWord w = true := by decide +kernel
def q_cl : List vw_C := [(RX0, TX0, 3), (RX1, TX1, 5), (RX2, TX2, 12), (RX3, TX3, 4), (RX4, TX4, 4), (RX5, TX5, 11), (RX6, TX6, 22)]
theorem q_cl_at : ∀ x, x < 7 → q_cl[x]? = some (q_cR x, q_cT x, q_cN x)
  | 0, _ => rfl
  | 1, _ => rfl
  | 2, _ => rfl
  | 3, _ => rfl
  | 4, _ => rfl
  | 5, _ => rfl
  | 6, _ => rfl
  | n + 7, h => absurd h (by omega)
theorem q_cin : ∀ x, x < 7 → ∀ w ∈ u_ws (q_cR x) (q_cT x) (q_cN x), w ∈ q_good
  | 0, _ => fun w h => List.mem_filter.mpr ⟨qin_0 w h, qgw_0 w h⟩
  | 1, _ => fun w h => List.mem_filter.mpr ⟨qin_1 w h, qgw_1 w h⟩
  | 2, _ => fun w h => List.mem_filter.mpr ⟨qin_2 w h, qgw_2 w h⟩
  | 3, _ => fun w h => List.mem_filter.mpr ⟨qin_3 w h, qgw_3 w h⟩
  | 4, _ => fun w h => List.mem_filter.mpr ⟨qin_4 w h, qgw_4 w h⟩
  | 5, _ => fun w h => List.mem_filter.mpr ⟨qin_5 w h, qgw_5 w h⟩
  | 6, _ => fun w h => List.mem_filter.mpr ⟨qin_6 w h, qgw_6 w h⟩
  | n + 7, h => absurd h (by omega)
theorem q_cYok : ∀ x, x < 7 → ∀ k, k < q_cN x → parseFieldDescriptor (q_cT x k).2.2.1 = some (q_cY x k)
  | 0, _ => tyX0_ok
  | 1, _ => tyX1_ok
  | 2, _ => tyX2_ok
  | 3, _ => tyX3_ok
  | 4, _ => tyX4_ok
  | 5, _ => tyX5_ok
  | 6, _ => tyX6_ok
  | n + 7, h => absurd h (by omega)
theorem q_cnm : ∀ x, x < 7 → ∀ a, a < q_cN x → ∀ b, b < q_cN x → a ≠ b → (q_cT x a).2.1 ≠ (q_cT x b).2.1
  | 0, _ => nmX0
  | 1, _ => nmX1
  | 2, _ => nmX2
  | 3, _ => nmX3
  | 4, _ => nmX4
  | 5, _ => nmX5
  | 6, _ => nmX6
  | n + 7, h => absurd h (by omega)
theorem q_dfl_ok : ∀ x, x < 7 → (c_dfl x 0).length = q_cN x ∧ ∀ j, j < q_cN x → defaultValue (q_cY x j) = vp_V (c_dfl x 0) j
  | 0, _ => by decide +kernel
  | 1, _ => by decide +kernel
  | 2, _ => by decide +kernel
  | 3, _ => by decide +kernel
  | 4, _ => by decide +kernel
  | 5, _ => by decide +kernel
  | 6, _ => by decide +kernel
  | n + 7, h => absurd h (by omega)
theorem q_dfl_up (base : Nat) (sa : Nat → Nat) : ∀ x, x < 7 → (c_dfl x 0).map (q_up base sa) = c_dfl x 0
  | 0, _ => rfl
  | 1, _ => rfl
  | 2, _ => rfl
  | 3, _ => rfl
  | 4, _ => rfl
  | 5, _ => rfl
  | 6, _ => rfl
  | n + 7, h => absurd h (by omega)
def q_CE (base : Nat) (sa : Nat → Nat) (tys : List (ClassId × FieldType)) (c : Nat × List Value) (e : va_E) : Prop :=
  (c.1 < 7 ∧ e = .inr (c.1, c.2.map (q_up base sa))) ∨
  (c.1 = 10 ∧ ∃ (cA : ClassId) (t0 : Nat) (f : Nat → Int32), e = .inl (cA, c.2.length, .inl f) ∧ tys[t0]? = some (cA, .int) ∧ ∀ (j : Nat) (v : Value), c.2[j]? = some v → v = .int (f j)) ∨
  (c.1 = 11 ∧ ∃ (cA : ClassId) (t0 : Nat) (f : Nat → Int64), e = .inl (cA, c.2.length, .inr (.inl f)) ∧ tys[t0]? = some (cA, .long) ∧ ∀ (j : Nat) (v : Value), c.2[j]? = some v → v = .long (f j)) ∨
  (c.1 = 12 ∧ ∃ (cA : ClassId) (t0 : Nat) (f : Nat → Int32), e = .inl (cA, c.2.length, .inl f) ∧ tys[t0]? = some (cA, .char) ∧ ∀ (j : Nat) (v : Value), c.2[j]? = some v → v = .int (f j)) ∨
  (c.1 = 13 ∧ ∃ (cA : ClassId) (t0 : Nat) (f : Nat → Option Nat), e = .inl (cA, c.2.length, .inr (.inr (.inr (.inr f)))) ∧ tys[t0]? = some (cA, .object RX2) ∧ ∀ (j : Nat) (v : Value), c.2[j]? = some v → q_up base sa v = va_rf (f j)) ∨
  (c.1 = 14 ∧ ∃ (cA : ClassId) (t0 : Nat) (f : Nat → Option Nat), e = .inl (cA, c.2.length, .inr (.inr (.inr (.inr f)))) ∧ tys[t0]? = some (cA, .object RX3) ∧ ∀ (j : Nat) (v : Value), c.2[j]? = some v → q_up base sa v = va_rf (f j))
def q_rel (base : Nat) (sa : Nat → Nat) (tys : List (ClassId × FieldType)) (hp : q_H) (ws : va_W) : Prop := ws.length = hp.length ∧ ∀ (h : Nat) (c : Nat × List Value), hp[h]? = some c → ∃ e, ws[h]? = some (base + h, e) ∧ q_CE base sa tys c e
theorem q_rel.addr {base : Nat} {sa : Nat → Nat} {tys : List (ClassId × FieldType)} {hp : q_H} {ws : va_W} (h : q_rel base sa tys hp ws) {i : Nat} {q : Nat × va_E} (hq : ws[i]? = some q) : q.1 = base + i := by
  have hi : i < hp.length := by rw [← h.1]; exact (List.getElem?_eq_some_iff.mp hq).1
  obtain ⟨e, h1, -⟩ := h.2 i _ (List.getElem?_eq_getElem hi)
  rw [h1] at hq
  cases hq
  rfl
theorem q_rel.D {base : Nat} {sa : Nat → Nat} {tys : List (ClassId × FieldType)} {hp : q_H} {ws : va_W} (h : q_rel base sa tys hp ws) : va_D (fun q => base ≤ q) ws :=
  ⟨fun i j p q hi hj e => by have h1 := h.addr hi; have h2 := h.addr hj; omega, fun k q hk => by show base ≤ q.1; rw [h.addr hk]; omega⟩
theorem q_rel.set {base : Nat} {sa : Nat → Nat} {tys : List (ClassId × FieldType)} {hp : q_H} {ws : va_W} (h : q_rel base sa tys hp ws) {i : Nat} {c : Nat × List Value} {e : va_E} (hi : i < hp.length) (hc : q_CE base sa tys c e) : q_rel base sa tys (hp.set i c) (ws.set i (base + i, e)) := by
  refine ⟨by simp [h.1], fun j d hd => ?_⟩
  by_cases hj : j = i
  · subst hj
    rw [List.getElem?_set_self hi] at hd
    cases hd
    exact ⟨e, List.getElem?_set_self (by rw [h.1]; exact hi), hc⟩
  · rw [List.getElem?_set_ne (Ne.symm hj)] at hd
    rw [List.getElem?_set_ne (Ne.symm hj)]
    exact h.2 j d hd
theorem q_CE.more {base : Nat} {sa : Nat → Nat} {tys : List (ClassId × FieldType)} {c : Nat × List Value} {e : va_E} (h : q_CE base sa tys c e) (t : List (ClassId × FieldType)) : q_CE base sa (tys ++ t) c e := by
  have key : ∀ (t0 : Nat) (q : ClassId × FieldType), tys[t0]? = some q → (tys ++ t)[t0]? = some q := fun t0 q hq => by rw [List.getElem?_append_left (List.getElem?_eq_some_iff.mp hq).1]; exact hq
  rcases h with h | ⟨h0, cA, t0, f, h1, h2, h3⟩ | ⟨h0, cA, t0, f, h1, h2, h3⟩ | ⟨h0, cA, t0, f, h1, h2, h3⟩ | ⟨h0, cA, t0, f, h1, h2, h3⟩ | ⟨h0, cA, t0, f, h1, h2, h3⟩
  · exact Or.inl h
  · exact Or.inr (Or.inl ⟨h0, cA, t0, f, h1, key _ _ h2, h3⟩)
  · exact Or.inr (Or.inr (Or.inl ⟨h0, cA, t0, f, h1, key _ _ h2, h3⟩))
  · exact Or.inr (Or.inr (Or.inr (Or.inl ⟨h0, cA, t0, f, h1, key _ _ h2, h3⟩)))
  · exact Or.inr (Or.inr (Or.inr (Or.inr (Or.inl ⟨h0, cA, t0, f, h1, key _ _ h2, h3⟩))))
  · exact Or.inr (Or.inr (Or.inr (Or.inr (Or.inr ⟨h0, cA, t0, f, h1, key _ _ h2, h3⟩))))
theorem q_rel.push {base : Nat} {sa : Nat → Nat} {tys t : List (ClassId × FieldType)} {hp : q_H} {ws : va_W} (h : q_rel base sa tys hp ws) {c : Nat × List Value} {e : va_E} {q : Nat} (hq : q = base + hp.length) (hc : q_CE base sa (tys ++ t) c e) : q_rel base sa (tys ++ t) (hp ++ [c]) (ws ++ [(q, e)]) := by
  refine ⟨by simp [h.1], fun j d hd => ?_⟩
  by_cases hj : j < hp.length
  · rw [List.getElem?_append_left hj] at hd
    obtain ⟨e', h1, h2⟩ := h.2 j d hd
    exact ⟨e', by rw [List.getElem?_append_left (by rw [h.1]; exact hj)]; exact h1, h2.more t⟩
  · rw [List.getElem?_append_right (by omega)] at hd
    have hz : j - hp.length < 1 := (List.getElem?_eq_some_iff.mp hd).1
    have hj0 : j = hp.length := by omega
    subst hj0
    rw [Nat.sub_self] at hd
    cases hd
    exact ⟨e, by rw [List.getElem?_append_right (by rw [h.1]; exact Nat.le_refl _), h.1, Nat.sub_self, hq]; rfl, hc⟩
def q_HR (D : va_G) (base : Nat) (sa : Nat → Nat) (U : State) (hp : q_H) (H : Heap) : Prop := ∃ (ws : va_W) (tys : List (ClassId × FieldType)), va_K D q_cl tys U ∧ va_P D q_cl ws H ∧ q_rel base sa tys hp ws
theorem q_HR.moved {D : va_G} {base : Nat} {sa : Nat → Nat} {u U : State} {hp : q_H} {H : Heap} (hvm : u.vm.Alike U.vm) (h : q_HR D base sa u hp H) : q_HR D base sa U hp H := by
  obtain ⟨ws, tys, h1, h2, h3⟩ := h
  exact ⟨ws, tys, h1.moved hvm, h2, h3⟩
theorem q_HR.le {D : va_G} {base : Nat} {sa : Nat → Nat} {U : State} {hp : q_H} {H : Heap} (h : q_HR D base sa U hp H) (hb : base ≤ H.size) : base + hp.length ≤ H.size := by
  obtain ⟨ws, tys, h1, h2, h3⟩ := h
  cases hl : hp.length with
  | zero => exact hb
  | succ n =>
    have hn : n < hp.length := by omega
    obtain ⟨e, h4, -⟩ := h3.2 n _ (List.getElem?_eq_getElem hn)
    have := (h2 n _ h4).lt
    simp only at this
    omega
def q_sl : q_H → Nat
  | [] => 0
  | c :: l => c.2.length + q_sl l
theorem q_sl_app : ∀ (l m : q_H), q_sl (l ++ m) = q_sl l + q_sl m
  | [], m => by simp [q_sl]
  | c :: l, m => by rw [List.cons_append, q_sl, q_sl, q_sl_app l m]; omega
theorem q_sl_set : ∀ (l : q_H) (i : Nat) (c d : Nat × List Value), l[i]? = some c → d.2.length = c.2.length → q_sl (l.set i d) = q_sl l
  | [], i, c, d, h, _ => by simp at h
  | a :: l, 0, c, d, h, hd => by
    simp at h
    subst h
    simp [q_sl, hd]
  | a :: l, i + 1, c, d, h, hd => by
    simp at h
    simp [q_sl, q_sl_set l i c d h hd]
-- what else the tables say
def q_TX (sa : Nat → Nat) (base : Nat) (U : State) (H : Heap) : Prop := va_Z "java/lang/String" "COMPACT_STRINGS" "Z" (.int 1) (fun q => base ≤ q) U H ∧ ∀ (n : Nat) (l : List Int), q_txs n = some l → va_O "java/lang/String" (sa n) (fun q => base ≤ q) U H ∧ va_OF "java/lang/String" "coder" "B" (.int 0) (sa n) (fun q => base ≤ q) U H ∧ va_OF "java/lang/String" "value" "[B" (.ref (sa (n + 1000))) (sa n) (fun q => base ≤ q) U H ∧ va_T .byte (sa (n + 1000)) l.length (fun j => .int (Int32.ofInt (l.getD j 0))) (fun q => base ≤ q) U H
theorem q_TX.moved {sa : Nat → Nat} {base : Nat} {u U : State} {H : Heap} (hvm : u.vm.Alike U.vm) (h : q_TX sa base u H) : q_TX sa base U H := ⟨h.1.moved hvm, fun n l hn => ⟨(h.2 n l hn).1.moved hvm, (h.2 n l hn).2.1.moved hvm, (h.2 n l hn).2.2.1.moved hvm, (h.2 n l hn).2.2.2.moved hvm⟩⟩
theorem q_TX.kept {sa : Nat → Nat} {base : Nat} {U : State} {H H1 : Heap} (h : q_TX sa base U H) (hq : ∀ a : Nat, a < H.size → ¬ base ≤ a → H1[a]? = H[a]?) : q_TX sa base U H1 := ⟨h.1.kept hq, fun n l hn => ⟨(h.2 n l hn).1.kept hq, (h.2 n l hn).2.1.kept hq, (h.2 n l hn).2.2.1.kept hq, (h.2 n l hn).2.2.2.kept hq⟩⟩
def q_EN (sa : Nat → Nat) (base : Nat) (U : State) : Prop := (∀ n ∈ q_nest, va_Nw (.methodLinkNest n.1 n.2.1 n.2.2.1 n.2.2.2) U) ∧ va_AO RX2 U ∧ va_AO RX3 U ∧ (∀ n ∈ q_strs, vk_R n.1 n.2.1 n.2.2 (sa n.2.1) U) ∧ q_TX sa base U U.heap
theorem q_EN.warm {sa : Nat → Nat} {base : Nat} {s U : State} (hW : s.WarmedH U.vm) (hq : ∀ a : Nat, a < s.heap.size → ¬ base ≤ a → U.heap[a]? = s.heap[a]?) (h : q_EN sa base s) : q_EN sa base U := ⟨fun n hn => va_Nw.warmM hW (h.1 n hn), h.2.1.moved hW.alike, h.2.2.1.moved hW.alike, fun n hn => vk_R.warm hW (h.2.2.2.1 n hn), (h.2.2.2.2.moved hW.alike).kept hq⟩
theorem q_EN.same {sa : Nat → Nat} {base : Nat} {s U : State} (hv : U.vm = s.vm) (hh : U.heap = s.heap) (h : q_EN sa base s) : q_EN sa base U := ⟨fun n hn => va_tabs rfl hv.symm (h.1 n hn), h.2.1.moved (by rw [hv]; exact Vm.Alike.refl _), h.2.2.1.moved (by rw [hv]; exact Vm.Alike.refl _), fun n hn => vk_R.same hv (h.2.2.2.1 n hn), by rw [hh]; exact h.2.2.2.2.moved (by rw [hv]; exact Vm.Alike.refl _)⟩
noncomputable def q_ws (k : Nat) : List Cond := .code (q_mn k) (q_mc k) (q_I k).1 (q_mr k) :: q_good
def q_Pc (D : va_G) (base : Nat) (sa : Nat → Nat) (as : List Value) (hp : q_H) : Array Value → State → Prop := va_Pc (as.map (q_up base sa)) (fun U => U.heap.size = base + hp.length ∧ q_HR D base sa U hp U.heap ∧ q_EN sa base U)
def q_Qc (D : va_G) (base : Nat) (sa : Nat → Nat) (r : q_R Value q_H) : Array Value → State → Outcome → State → Prop := fun _ st oc t => oc = .returned (r.1.map (q_up base sa)) ∧ q_HR D base sa t r.2 t.heap ∧ va_F (fun q => base ≤ q) st t
def q_Cx (p : Program) (s : State) (m : MethodId) (args : Array Value) (meth : Method) (cd : Code) (R : Room) (k fr n0 base : Nat) (sa : Nat → Nat) : Prop := p.tables.exec = Jvm.exec ∧ cd.code = q_mc k ∧ cd.maxLocals = (q_I k).1 ∧ s.vm.findClass (q_mn k).cls = some m.cls ∧ (∀ w ∈ q_good, w.before args s = true) ∧ meth.sig.returnType = q_mr k ∧ meth.locks = false ∧ meth.name = (q_mn k).name ∧ R.frames = fr ∧ R.locals = 40 * fr ∧ q_EN sa base s ∧ s.heap.size = base + n0
def q_Go (p : Program) (l : Launch) (e : Env) (R : Room) (s : State) (m : MethodId) (args : Array Value) (below : List Frame) (meth : Method) (cd : Code) (D : va_G) (base : Nat) (sa : Nat → Nat) (nL n0 s0 : Nat) (Q : State → Prop) (pc : Nat) (lo : List (Option Value)) (st : List Value) (hp : q_H) : Prop :=
  ∀ (H : Heap) (locs : List Loc) (cells slots : Nat) (ls : Array Slot), q_HR D base sa s hp H → va_S (fun q => base ≤ q) s.heap H locs → lv_has ls nL (q_lp base sa 0 lo) → hp.length = n0 + cells → q_sl hp = s0 + slots → W p l e R s m args below meth cd H locs cells slots Q (F0 m pc ls (st.map (q_up base sa)))

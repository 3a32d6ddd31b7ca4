def r_l : List Value → List q_IV → Prop
  | [], [] => True
  | a :: l, b :: m => r_v a b ∧ r_l l m
  | _, _ => False
def r_ov : Option Value → Option q_IV → Prop
  | none, none => True
  | some v, some a => r_v v a
  | _, _ => False
def r_o : List (Option Value) → List (Option q_IV) → Prop
  | [], [] => True
  | a :: l, b :: m => r_ov a b ∧ r_o l m
  | _, _ => False
theorem r_l_cons {st : List Value} {a : q_IV} {m : List q_IV} (h : r_l st (a :: m)) : ∃ v l, st = v :: l ∧ r_v v a ∧ r_l l m := by
  cases st with
  | nil => cases h
  | cons v l => exact ⟨v, l, rfl, h.1, h.2⟩
theorem r_l_nil {st : List Value} (h : r_l st []) : st = [] := by
  cases st with
  | nil => rfl
  | cons v l => cases h
theorem r_l_cats : ∀ {st : List Value} {m : List q_IV}, r_l st m → q_cats q_ty st = q_cats i_ty m
  | [], [], _ => rfl
  | a :: l, b :: m, h => by rw [q_cats, q_cats, r_ty h.1, r_l_cats h.2]
  | [], _ :: _, h => by cases h
  | _ :: _, [], h => by cases h
theorem r_l_app : ∀ {a : List Value} {b : List q_IV} {l : List Value} {m : List q_IV}, r_l a b → r_l l m → r_l (a ++ l) (b ++ m)
  | [], [], _, _, _, h => h
  | a :: l, b :: m, _, _, h1, h2 => ⟨h1.1, r_l_app h1.2 h2⟩
  | [], _ :: _, _, _, h, _ => by cases h
  | _ :: _, [], _, _, h, _ => by cases h
theorem r_l_rev : ∀ {a : List Value} {b : List q_IV}, r_l a b → r_l a.reverse b.reverse
  | [], [], _ => trivial
  | a :: l, b :: m, h => by rw [List.reverse_cons, List.reverse_cons]; exact r_l_app (r_l_rev h.2) ⟨h.1, trivial⟩
  | [], _ :: _, h => by cases h
  | _ :: _, [], h => by cases h
theorem r_l_split : ∀ {st : List Value} (b m : List q_IV), r_l st (b ++ m) → ∃ a l, st = a ++ l ∧ r_l a b ∧ r_l l m
  | st, [], m, h => ⟨[], st, rfl, trivial, h⟩
  | [], _ :: _, m, h => by cases h
  | v :: st, b :: bs, m, h => by
    obtain ⟨a, l, h1, h2, h3⟩ := r_l_split bs m h.2
    exact ⟨v :: a, l, by rw [h1]; rfl, ⟨h.1, h2⟩, h3⟩
theorem r_l_len : ∀ {a : List Value} {b : List q_IV}, r_l a b → a.length = b.length
  | [], [], _ => rfl
  | a :: l, b :: m, h => by rw [List.length_cons, List.length_cons, r_l_len h.2]
  | [], _ :: _, h => by cases h
  | _ :: _, [], h => by cases h
theorem q_pop_eq {A B : Type} : ∀ (rs rest acc : List A) (k : List A → List A → Option B), q_pop rs.length (rs ++ rest) acc k = k (rs.reverse ++ acc) rest
  | [], rest, acc, k => rfl
  | a :: rs, rest, acc, k => by
    show q_pop rs.length (rs ++ rest) (a :: acc) k = _
    rw [q_pop_eq rs rest (a :: acc) k]
    simp
theorem q_st2_g {V B : Type} (ty : V → Nat) (lo : List (Option V)) (x : Nat) (v : V) (k : List (Option V) → Option B) : q_st2 ty lo x v k = k (bif Nat.beq (ty v) 1 then (lo.set x (some v)).set (x + 1) none else lo.set x (some v)) := by
  unfold q_st2
  rw [q_set_eq]
  cases Nat.beq (ty v) 1
  · rfl
  · exact q_set_eq _ _ _ _
theorem r_o_get : ∀ {lo : List (Option Value)} {m : List (Option q_IV)} {x : Nat} {a : q_IV}, r_o lo m → m[x]? = some (some a) → ∃ v, lo[x]? = some (some v) ∧ r_v v a
  | [], [], x, a, _, h => by simp at h
  | b :: l, c :: m, 0, a, hr, h => by
    simp at h
    subst h
    cases b with
    | none => cases hr.1
    | some v => exact ⟨v, by simp, hr.1⟩
  | b :: l, c :: m, x + 1, a, hr, h => by
    rw [List.getElem?_cons_succ] at h
    rw [List.getElem?_cons_succ]
    exact r_o_get hr.2 h
  | [], _ :: _, _, _, h, _ => by cases h
  | _ :: _, [], _, _, h, _ => by cases h
theorem r_o_at : ∀ {lo : List (Option Value)} {m : List (Option q_IV)} (x : Nat), r_o lo m → (lo[x]? = none ∧ m[x]? = none) ∨ ∃ o oA, lo[x]? = some o ∧ m[x]? = some oA ∧ r_ov o oA
  | [], [], x, _ => Or.inl ⟨by simp, by simp⟩
  | b :: l, c :: m, 0, hr => Or.inr ⟨b, c, by simp, by simp, hr.1⟩
  | b :: l, c :: m, x + 1, hr => by
    rw [List.getElem?_cons_succ, List.getElem?_cons_succ]
    exact r_o_at x hr.2
  | [], _ :: _, _, h => by cases h
  | _ :: _, [], _, h => by cases h
theorem r_o_set : ∀ {lo : List (Option Value)} {m : List (Option q_IV)} {o : Option Value} {oA : Option q_IV} (x : Nat), r_o lo m → r_ov o oA → r_o (lo.set x o) (m.set x oA)
  | [], [], _, _, x, _, _ => trivial
  | b :: l, c :: m, _, _, 0, hr, h => ⟨h, hr.2⟩
  | b :: l, c :: m, _, _, x + 1, hr, h => ⟨hr.1, r_o_set x hr.2 h⟩
  | [], _ :: _, _, _, _, h, _ => by cases h
  | _ :: _, [], _, _, _, h, _ => by cases h
theorem r_st2 {B C : Type} {lo : List (Option Value)} {m : List (Option q_IV)} {x : Nat} {v : Value} {a : q_IV} {kA : List (Option q_IV) → Option B} {kC : List (Option Value) → Option C} (ho : r_o lo m) (hv : r_v v a) : ∃ lo' m', r_o lo' m' ∧ q_st2 q_ty lo x v kC = kC lo' ∧ q_st2 i_ty m x a kA = kA m' := by
  rw [q_st2_g, q_st2_g, r_ty hv]
  have h1 := r_o_set (o := some v) (oA := some a) x ho hv
  refine ⟨_, _, ?_, rfl, rfl⟩
  cases Nat.beq (i_ty a) 1 with
  | false => exact h1
  | true => exact r_o_set (o := none) (oA := none) (x + 1) h1 trivial
theorem r_st {B C : Type} {lo : List (Option Value)} {m : List (Option q_IV)} {x : Nat} {v : Value} {a : q_IV} {kA : List (Option q_IV) → Option B} {kC : List (Option Value) → Option C} (ho : r_o lo m) (hv : r_v v a) : ∃ lo' m', r_o lo' m' ∧ q_st q_ty lo x v kC = kC lo' ∧ q_st i_ty m x a kA = kA m' := by
  cases x with
  | zero => exact r_st2 ho hv
  | succ x =>
    unfold q_st
    simp only [q_nth_eq]
    rcases r_o_at x ho with ⟨h1, h2⟩ | ⟨o, oA, h1, h2, h3⟩
    · rw [h1, h2]
      exact r_st2 ho hv
    · rw [h1, h2]
      cases o with
      | none => cases oA with
        | none => exact r_st2 ho hv
        | some b => cases h3
      | some w => cases oA with
        | none => cases h3
        | some b =>
          simp only
          rw [r_ty h3]
          cases Nat.beq (i_ty b) 1 with
          | false => exact r_st2 ho hv
          | true =>
            simp only [cond_true]
            rw [q_set_eq, q_set_eq]
            exact r_st2 (r_o_set (o := none) (oA := none) x ho trivial) hv
def r_K (KC : q_K Value q_H) (KA : q_K q_IV p_H) : Prop := ∀ pc lo st hp loA stA ph rA, KA pc loA stA ph = some rA → r_o lo loA → r_l st stA → r_h hp ph → ∃ r, KC pc lo st hp = some r ∧ r_r r rA
def r_cal (cal : Nat → List Value → q_H → Option (q_R Value q_H)) (calA : Nat → List q_IV → p_H → Option (q_R q_IV p_H)) : Prop := ∀ x as asA hp ph rA, calA x asA ph = some rA → r_l as asA → r_h hp ph → ∃ r, cal x as hp = some r ∧ r_r r rA
section r_ops
variable {fr nx v x y k : Nat} {c : Int} {tb : List Nat} {cal : Nat → List Value → q_H → Option (q_R Value q_H)} {calA : Nat → List q_IV → p_H → Option (q_R q_IV p_H)} {lo : List (Option Value)} {st : List Value} {hp : q_H} {KC : q_K Value q_H} {loA : List (Option q_IV)} {stA : List q_IV} {ph : p_H} {KA : q_K q_IV p_H} {rA : q_R q_IV p_H}
theorem q_obs {A B : Type} {o : Option A} {a : A} {f : A → Option B} (h : o = some a) : q_ob o f = f a := by rw [h]; rfl
theorem q_gds {B : Type} {b : Bool} {r : Option B} (h : b = true) : q_gd b r = r := by rw [h]; rfl
theorem s_0 (h : q_s0 q_IO calA fr (v, c, x, y, nx, tb) loA stA ph KA = some rA) (hk : r_K KC KA) (ho : r_o lo loA) (hs : r_l st stA) (hh : r_h hp ph) : ∃ r, q_s0 q_CO cal fr (v, c, x, y, nx, tb) lo st hp KC = some r ∧ r_r r rA := by
  obtain ⟨oa, ha, h⟩ := q_ob_some h
  obtain ⟨a, rfl, h⟩ := q_ob_some h
  obtain ⟨ht, h⟩ := q_gd_some h
  rw [q_nth_eq] at ha
  obtain ⟨w, h1, h2⟩ := r_o_get ho ha
  obtain ⟨r, h3, h4⟩ := hk _ lo (w :: st) hp _ _ _ _ h ho ⟨h2, hs⟩ hh
  refine ⟨r, ?_, h4⟩
  show q_ob (q_nth lo x) _ = some r
  rw [q_nth_eq, q_obs h1]
  have ht : Nat.beq (i_ty a) y = true := ht
  show q_gd (Nat.beq (q_ty w) y) _ = some r
  rw [r_ty h2, q_gds ht]
  exact h3
theorem s_1 (h : q_s1 q_IO calA fr (v, c, x, y, nx, tb) loA stA ph KA = some rA) (hk : r_K KC KA) (ho : r_o lo loA) (hs : r_l st stA) (hh : r_h hp ph) : ∃ r, q_s1 q_CO cal fr (v, c, x, y, nx, tb) lo st hp KC = some r ∧ r_r r rA := by
  obtain ⟨ra, stA, rfl, h⟩ := q_p1_some h
  obtain ⟨rv, st, rfl, hr, hs⟩ := r_l_cons hs
  obtain ⟨ad, ha, h⟩ := q_ob_some h
  obtain ⟨a, hw, h⟩ := q_ob_some h
  obtain ⟨w, h1, h2⟩ := r_get hh hw
  obtain ⟨r, h3, h4⟩ := hk _ lo (w :: st) hp _ _ _ _ h ho ⟨h2, hs⟩ hh
  refine ⟨r, ?_, h4⟩
  show q_ob (q_rf rv) _ = some r
  rw [q_obs (r_rf ha hr)]
  show q_ob (c_get hp ad x y) _ = some r
  rw [q_obs h1]
  exact h3
theorem r_cst0 {c : Int} (h : q_im 2 c = true) : r_v (q_cst 0 c) (i_cst 0 c) := by
  have h : (decide (-2147483648 ≤ c) && decide (c ≤ 2147483647)) = true := h
  rw [Bool.and_eq_true, decide_eq_true_eq, decide_eq_true_eq] at h
  have e : (Int32.ofInt c).toInt = c := by rw [Int32.toInt_ofInt]; exact q_bm h.1 h.2
  exact ⟨rfl, by rw [e]; exact Int.le_refl _, by rw [e]; exact Int.le_refl _⟩
theorem r_cst1 {c : Int} (h : q_im 15 c = true) : r_v (q_cst 1 c) (i_cst 1 c) := by
  have h : (decide (-9223372036854775808 ≤ c) && decide (c ≤ 9223372036854775807)) = true := h
  rw [Bool.and_eq_true, decide_eq_true_eq, decide_eq_true_eq] at h
  have e : (Int64.ofInt c).toInt = c := Int64.toInt_ofInt_of_le (by omega) (by omega)
  exact ⟨rfl, by rw [e]; exact Int.le_refl _, by rw [e]; exact Int.le_refl _⟩
theorem s_2 (h : q_s2 q_IO calA fr (v, c, x, y, nx, tb) loA stA ph KA = some rA) (hk : r_K KC KA) (ho : r_o lo loA) (hs : r_l st stA) (hh : r_h hp ph) (hi : q_im 2 c = true) : ∃ r, q_s2 q_CO cal fr (v, c, x, y, nx, tb) lo st hp KC = some r ∧ r_r r rA := by
  have h : i_fz (fun a => KA nx loA (a :: stA) ph) (i_cst 0 c) = some rA := h
  rw [i_fz_eq] at h
  exact hk _ lo (q_cst 0 c :: st) hp _ _ _ _ h ho ⟨r_cst0 hi, hs⟩ hh
theorem s_3 (h : q_s3 q_IO calA fr (v, c, x, y, nx, tb) loA stA ph KA = some rA) (hk : r_K KC KA) (ho : r_o lo loA) (hs : r_l st stA) (hh : r_h hp ph) (hc : ∀ as asA hp ph rA, calA x asA ph = some rA → r_l as asA → r_h hp ph → ∃ r, cal x as hp = some r ∧ r_r r rA) : ∃ r, q_s3 q_CO cal fr (v, c, x, y, nx, tb) lo st hp KC = some r ∧ r_r r rA := by
  obtain ⟨as, rest, rfl, hl, h⟩ := q_pop_some _ _ _ _ h
  rw [List.append_nil] at h
  obtain ⟨hcat, h⟩ := q_gd_some h
  obtain ⟨hrcv, h⟩ := q_gd_some h
  obtain ⟨rB, hr, h⟩ := q_ob_some h
  obtain ⟨a, l, rfl, h1, h2⟩ := r_l_split _ _ hs
  have h3 := r_l_rev h1
  rw [List.reverse_reverse] at h3
  obtain ⟨r', h4, h5⟩ := hc a.reverse as hp ph rB hr h3 hh
  have hcat2 : Nat.ble (q_cats q_ty l) 8 = true := by rw [r_l_cats h2]; exact hcat
  have hrcv2 : q_rcv q_CO v tb a.reverse hp = true := by
    have hrcv : q_rcv q_IO v tb as ph = true := hrcv
    unfold q_rcv at hrcv ⊢
    have hv : v = 0 ∨ v = 1 ∨ 2 ≤ v := by omega
    rcases hv with rfl | rfl | hv
    · simp only at hrcv ⊢
      cases as with
      | nil => cases hrcv
      | cons ra as =>
        obtain ⟨rv, l2, e1, e2, e3⟩ := r_l_cons h3
        rw [e1]
        simp only at hrcv ⊢
        cases e4 : o_rf q_IO ra with
        | none => rw [e4] at hrcv; cases hrcv
        | some ad =>
          rw [e4] at hrcv
          have e5 : o_rf q_CO rv = some ad := r_rf e4 e2
          rw [e5]
          simp only at hrcv ⊢
          cases e6 : o_tag q_IO ph ad with
          | none => rw [e6] at hrcv; cases hrcv
          | some t =>
            rw [e6] at hrcv
            have e7 : o_tag q_CO hp ad = some t := r_tag hh e6
            rw [e7]
            exact hrcv
    · rfl
    · obtain ⟨w, rfl⟩ : ∃ w, v = w + 2 := ⟨v - 2, by omega⟩
      simp only at hrcv ⊢
      cases as with
      | nil => cases hrcv
      | cons ra as =>
        obtain ⟨rv, l2, e1, e2, e3⟩ := r_l_cons h3
        rw [e1]
        simp only at hrcv ⊢
        cases e4 : o_rf q_IO ra with
        | none => rw [e4] at hrcv; cases hrcv
        | some ad =>
          have e5 : o_rf q_CO rv = some ad := r_rf e4 e2
          rw [e5]
  obtain ⟨oB, phB⟩ := rB
  obtain ⟨oC, hpC⟩ := r'
  have fin : ∃ r, q_ret (oC, hpC) nx lo l KC = some r ∧ r_r r rA := by
    cases oB with
    | none => cases oC with
      | none => exact hk _ lo l hpC _ _ _ _ h ho h2 h5.2
      | some w => cases h5.1
    | some b => cases oC with
      | none => cases h5.1
      | some w => exact hk _ lo (w :: l) hpC _ _ _ _ h ho ⟨h5.1, h2⟩ h5.2
  obtain ⟨r, h6, h7⟩ := fin
  refine ⟨r, ?_, h7⟩
  have hlen : a.length = y := by rw [r_l_len h1, List.length_reverse, hl]
  show q_pop y (a ++ l) [] _ = some r
  rw [← hlen, q_pop_eq, List.append_nil]
  show q_gd (Nat.ble (q_cats q_ty l) 8) _ = some r
  rw [q_gds hcat2]
  show q_gd (q_rcv q_CO v tb a.reverse hp) _ = some r
  rw [q_gds hrcv2, q_obs h4]
  exact h6
theorem s_4 (h : q_s4 q_IO calA fr (v, c, x, y, nx, tb) loA stA ph KA = some rA) (hs : r_l st stA) (hh : r_h hp ph) : ∃ r, q_s4 q_CO cal fr (v, c, x, y, nx, tb) lo st hp KC = some r ∧ r_r r rA := by
  have h : (bif Nat.beq v 4 then q_gd (q_nil stA) (some (none, ph)) else q_p1 stA fun a st => q_gd (q_nil st && i_fit v a) (some (some a, ph))) = some rA := h
  show ∃ r, (bif Nat.beq v 4 then q_gd (q_nil st) (some (none, hp)) else q_p1 st fun a st => q_gd (q_nil st && q_fit v a) (some (some a, hp))) = some r ∧ r_r r rA
  cases hb : Nat.beq v 4 with
  | true =>
    rw [hb, cond_true] at h
    obtain ⟨h1, h⟩ := q_gd_some h
    cases h
    have := q_nil_true h1
    subst this
    have := r_l_nil hs
    subst this
    exact ⟨_, rfl, trivial, hh⟩
  | false =>
    rw [hb, cond_false] at h
    obtain ⟨a, stA, rfl, h⟩ := q_p1_some h
    obtain ⟨w, st, rfl, hw, hs⟩ := r_l_cons hs
    obtain ⟨h1, h⟩ := q_gd_some h
    cases h
    rw [Bool.and_eq_true] at h1
    have := q_nil_true h1.1
    subst this
    have := r_l_nil hs
    subst this
    refine ⟨(some w, hp), ?_, hw, hh⟩
    show q_gd (q_nil [] && q_fit v w) _ = _
    rw [r_fit h1.2 hw]
    rfl
theorem s_5 (h : q_s5 q_IO calA fr (v, c, x, y, nx, tb) loA stA ph KA = some rA) (hk : r_K KC KA) (ho : r_o lo loA) (hs : r_l st stA) (hh : r_h hp ph) : ∃ r, q_s5 q_CO cal fr (v, c, x, y, nx, tb) lo st hp KC = some r ∧ r_r r rA := by
  obtain ⟨ia, stA, rfl, h⟩ := q_p1_some h
  obtain ⟨iv, st, rfl, hi, hs⟩ := r_l_cons hs
  obtain ⟨ra, stA, rfl, h⟩ := q_p1_some h
  obtain ⟨rv, st, rfl, hr, hs⟩ := r_l_cons hs
  obtain ⟨j, hj, h⟩ := q_ob_some h
  obtain ⟨ad, ha, h⟩ := q_ob_some h
  obtain ⟨a, hw, h⟩ := q_ob_some h
  obtain ⟨w, h1, h2⟩ := r_get hh hw
  obtain ⟨r, h3, h4⟩ := hk _ lo (w :: st) hp _ _ _ _ h ho ⟨h2, hs⟩ hh
  refine ⟨r, ?_, h4⟩
  show q_ob (q_ix iv) _ = some r
  rw [q_obs (r_ix hj hi)]
  show q_ob (q_rf rv) _ = some r
  rw [q_obs (r_rf ha hr)]
  show q_ob (c_get hp ad v j) _ = some r
  rw [q_obs h1]
  exact h3
theorem s_6 (h : q_s6 q_IO calA fr (v, c, x, y, nx, tb) loA stA ph KA = some rA) (hk : r_K KC KA) (ho : r_o lo loA) (hs : r_l st stA) (hh : r_h hp ph) : ∃ r, q_s6 q_CO cal fr (v, c, x, y, nx, tb) lo st hp KC = some r ∧ r_r r rA := by
  obtain ⟨ba, stA, rfl, h⟩ := q_p1_some h
  obtain ⟨bv, st, rfl, hb, hs⟩ := r_l_cons hs
  obtain ⟨aa, stA, rfl, h⟩ := q_p1_some h
  obtain ⟨av, st, rfl, ha, hs⟩ := r_l_cons hs
  obtain ⟨z, hz, h⟩ := q_ob_some h
  have h : i_fz (fun r => KA nx loA (r :: stA) ph) z = some rA := h
  rw [i_fz_eq] at h
  obtain ⟨w, h1, h2⟩ := r_bin hz ha hb
  obtain ⟨r, h3, h4⟩ := hk _ lo (w :: st) hp _ _ _ _ h ho ⟨h2, hs⟩ hh
  refine ⟨r, ?_, h4⟩
  show q_ob (q_bin v av bv) _ = some r
  rw [q_obs h1]
  exact h3
theorem s_7 (h : q_s7 q_IO calA fr (v, c, x, y, nx, tb) loA stA ph KA = some rA) (hk : r_K KC KA) (ho : r_o lo loA) (hs : r_l st stA) (hh : r_h hp ph) : ∃ r, q_s7 q_CO cal fr (v, c, x, y, nx, tb) lo st hp KC = some r ∧ r_r r rA := by
  exact hk _ lo st hp _ _ _ _ h ho hs hh
theorem s_br {bA : Option Bool} {b : Bool} {X : Nat} (hb : ∀ b', bA = some b' → b' = b) (h : q_br q_IO bA X nx loA stA ph KA = some rA) (hk : r_K KC KA) (ho : r_o lo loA) (hs : r_l st stA) (hh : r_h hp ph) : ∃ r, q_br q_CO (some b) X nx lo st hp KC = some r ∧ r_r r rA := by
  cases bA with
  | some b' =>
    have e := hb b' rfl
    subst e
    cases b' with
    | true => exact hk _ lo st hp _ _ _ _ h ho hs hh
    | false => exact hk _ lo st hp _ _ _ _ h ho hs hh
  | none =>
    obtain ⟨r1, h1, h⟩ := q_ob_some h
    obtain ⟨r2, h2, h⟩ := q_ob_some h
    cases b with
    | true =>
      obtain ⟨r, h3, h4⟩ := hk _ lo st hp _ _ _ _ h1 ho hs hh
      exact ⟨r, h3, r_jn h (Or.inl h4)⟩
    | false =>
      obtain ⟨r, h3, h4⟩ := hk _ lo st hp _ _ _ _ h2 ho hs hh
      exact ⟨r, h3, r_jn h (Or.inr h4)⟩
theorem s_8 (h : q_s8 q_IO calA fr (v, c, x, y, nx, tb) loA stA ph KA = some rA) (hk : r_K KC KA) (ho : r_o lo loA) (hs : r_l st stA) (hh : r_h hp ph) (hv : v < 6) : ∃ r, q_s8 q_CO cal fr (v, c, x, y, nx, tb) lo st hp KC = some r ∧ r_r r rA := by
  obtain ⟨aa, stA, rfl, h⟩ := q_p1_some h
  obtain ⟨av, st, rfl, ha, hs⟩ := r_l_cons hs
  obtain ⟨ht, h⟩ := q_gd_some h
  have ht : i_ty aa = 0 := Nat.eq_of_beq_eq_true ht
  obtain ⟨b, h1, h2⟩ := r_cmp (w := .int (Int32.ofInt 0)) (k := (0, 0, 0)) hv ht rfl ha ⟨rfl, by decide, by decide⟩
  obtain ⟨r, h3, h4⟩ := s_br h2 h hk ho hs hh
  refine ⟨r, ?_, h4⟩
  show q_gd (Nat.beq (q_ty av) 0) (q_br q_CO (q_cmp v av (.int (Int32.ofInt 0))) x nx lo st hp KC) = some r
  rw [r_ty ha, ht, h1]
  exact h3
theorem s_9 (h : q_s9 q_IO calA fr (v, c, x, y, nx, tb) loA stA ph KA = some rA) (hk : r_K KC KA) (ho : r_o lo loA) (hs : r_l st stA) (hh : r_h hp ph) (hv : v < 6) : ∃ r, q_s9 q_CO cal fr (v, c, x, y, nx, tb) lo st hp KC = some r ∧ r_r r rA := by
  obtain ⟨ba, stA, rfl, h⟩ := q_p1_some h
  obtain ⟨bv, st, rfl, hb, hs⟩ := r_l_cons hs
  obtain ⟨aa, stA, rfl, h⟩ := q_p1_some h
  obtain ⟨av, st, rfl, ha, hs⟩ := r_l_cons hs
  obtain ⟨ht, h⟩ := q_gd_some h
  rw [Bool.and_eq_true] at ht
  have ht1 : i_ty aa = 0 := Nat.eq_of_beq_eq_true ht.1
  have ht2 : i_ty ba = 0 := Nat.eq_of_beq_eq_true ht.2
  obtain ⟨b, h1, h2⟩ := r_cmp hv ht1 ht2 ha hb
  obtain ⟨r, h3, h4⟩ := s_br h2 h hk ho hs hh
  refine ⟨r, ?_, h4⟩
  show q_gd (Nat.beq (q_ty av) 0 && Nat.beq (q_ty bv) 0) (q_br q_CO (q_cmp v av bv) x nx lo st hp KC) = some r
  rw [r_ty ha, r_ty hb, ht1, ht2, h1]
  exact h3
theorem s_10 (h : q_s10 q_IO calA fr (v, c, x, y, nx, tb) loA stA ph KA = some rA) (hk : r_K KC KA) (ho : r_o lo loA) (hs : r_l st stA) (hh : r_h hp ph) : ∃ r, q_s10 q_CO cal fr (v, c, x, y, nx, tb) lo st hp KC = some r ∧ r_r r rA := by
  obtain ⟨aa, stA, rfl, h⟩ := q_p1_some h
  obtain ⟨av, st, rfl, ha, hs⟩ := r_l_cons hs
  obtain ⟨ra, stA, rfl, h⟩ := q_p1_some h
  obtain ⟨rv, st, rfl, hr, hs⟩ := r_l_cons hs
  obtain ⟨ad, hd, h⟩ := q_ob_some h
  obtain ⟨hf, h⟩ := q_gd_some h
  obtain ⟨hp', ph', h1, h2, h3⟩ := r_set hh ha (show p_set ph ad x y aa (fun hp => KA nx loA stA hp) = some rA from h)
  obtain ⟨r, h4, h5⟩ := hk _ lo st hp' _ _ _ _ h1 ho hs h2
  refine ⟨r, ?_, h5⟩
  show q_ob (q_rf rv) _ = some r
  rw [q_obs (r_rf hd hr)]
  show q_gd (q_fit (v % 10) av) (c_set hp ad x y av (fun hp => KC nx lo st hp)) = some r
  rw [q_gds (r_fit hf ha), h3]
  exact h4
theorem s_11 (h : q_s11 q_IO calA fr (v, c, x, y, nx, tb) loA stA ph KA = some rA) (hk : r_K KC KA) (ho : r_o lo loA) (hs : r_l st stA) (hh : r_h hp ph) : ∃ r, q_s11 q_CO cal fr (v, c, x, y, nx, tb) lo st hp KC = some r ∧ r_r r rA := by
  obtain ⟨aa, stA, rfl, h⟩ := q_p1_some h
  obtain ⟨av, st, rfl, ha, hs⟩ := r_l_cons hs
  obtain ⟨ht, h⟩ := q_gd_some h
  obtain ⟨lo', m', h1, h2, h3⟩ := r_st (x := x) (kA := fun lo => KA nx lo stA ph) (kC := fun lo => KC nx lo st hp) ho ha
  have h : q_st i_ty loA x aa (fun lo => KA nx lo stA ph) = some rA := h
  rw [h3] at h
  obtain ⟨r, h4, h5⟩ := hk _ lo' st hp _ _ _ _ h h1 hs hh
  refine ⟨r, ?_, h5⟩
  have ht : Nat.beq (i_ty aa) y = true := ht
  show q_gd (Nat.beq (q_ty av) y) (q_st q_ty lo x av (fun lo => KC nx lo st hp)) = some r
  rw [r_ty ha, q_gds ht, h2]
  exact h4
theorem r_kept {a : q_IV} {w : Value} {b : q_IV} (hh : r_h hp ph) (hw : r_v w a) (h : q_kept q_IO v a ph = some b) : ∃ z, q_kept q_CO v w hp = some z ∧ r_v z b := by
  unfold q_kept at h ⊢
  split at h
  · obtain ⟨h1, h⟩ := q_gd_some h
    cases h
    refine ⟨w, ?_, hw⟩
    have h1 : Nat.beq (i_ty a) 0 = true := h1
    show q_gd (Nat.beq (q_ty w) 0) (some w) = some w
    rw [r_ty hw, q_gds h1]
  · obtain ⟨h1, h⟩ := q_gd_some h
    cases h
    refine ⟨w, ?_, hw⟩
    have h1 : Nat.beq (i_ty a) 1 = true := h1
    show q_gd (Nat.beq (q_ty w) 1) (some w) = some w
    rw [r_ty hw, q_gds h1]
  · exact r_un h hw
  · obtain ⟨ad, h1, h⟩ := q_ob_some h
    obtain ⟨t, h2, h⟩ := q_ob_some h
    obtain ⟨h3, h⟩ := q_gd_some h
    cases h
    refine ⟨w, ?_, hw⟩
    show q_ob (o_rf q_CO w) _ = some w
    rw [q_obs (show o_rf q_CO w = some ad from r_rf h1 hw), q_obs (show o_tag q_CO hp ad = some t from r_tag hh h2), q_gds h3]
  · obtain ⟨ad, h1, h⟩ := q_ob_some h
    obtain ⟨t, h2, h⟩ := q_ob_some h
    obtain ⟨h3, h⟩ := q_gd_some h
    cases h
    refine ⟨w, ?_, hw⟩
    show q_ob (o_rf q_CO w) _ = some w
    rw [q_obs (show o_rf q_CO w = some ad from r_rf h1 hw), q_obs (show o_tag q_CO hp ad = some t from r_tag hh h2), q_gds h3]
  · cases h
theorem s_12 (h : q_s12 q_IO calA fr (v, c, x, y, nx, tb) loA stA ph KA = some rA) (hk : r_K KC KA) (ho : r_o lo loA) (hs : r_l st stA) (hh : r_h hp ph) : ∃ r, q_s12 q_CO cal fr (v, c, x, y, nx, tb) lo st hp KC = some r ∧ r_r r rA := by
  obtain ⟨aa, stA, rfl, h⟩ := q_p1_some h
  obtain ⟨av, st, rfl, ha, hs⟩ := r_l_cons hs
  obtain ⟨ia, stA, rfl, h⟩ := q_p1_some h
  obtain ⟨iv, st, rfl, hi, hs⟩ := r_l_cons hs
  obtain ⟨ra, stA, rfl, h⟩ := q_p1_some h
  obtain ⟨rv, st, rfl, hr, hs⟩ := r_l_cons hs
  obtain ⟨j, hj, h⟩ := q_ob_some h
  obtain ⟨ad, hd, h⟩ := q_ob_some h
  obtain ⟨b, hb, h⟩ := q_ob_some h
  have h : i_fz (fun a => p_set ph ad v j a (fun hp => KA nx loA stA hp)) b = some rA := h
  rw [i_fz_eq] at h
  obtain ⟨z, h1, h2⟩ := r_kept hh ha hb
  obtain ⟨hp', ph', h3, h4, h5⟩ := r_set hh h2 h
  obtain ⟨r, h6, h7⟩ := hk _ lo st hp' _ _ _ _ h3 ho hs h4
  refine ⟨r, ?_, h7⟩
  show q_ob (q_ix iv) _ = some r
  rw [q_obs (r_ix hj hi)]
  show q_ob (q_rf rv) _ = some r
  rw [q_obs (r_rf hd hr)]
  show q_ob (q_kept q_CO v av hp) _ = some r
  rw [q_obs h1]
  show c_set hp ad v j z (fun hp => KC nx lo st hp) = some r
  rw [h5]
  exact h6
theorem s_13 (h : q_s13 q_IO calA fr (v, c, x, y, nx, tb) loA stA ph KA = some rA) (hk : r_K KC KA) (ho : r_o lo loA) (hs : r_l st stA) (hh : r_h hp ph) (hi : q_im 2 c = true) : ∃ r, q_s13 q_CO cal fr (v, c, x, y, nx, tb) lo st hp KC = some r ∧ r_r r rA := by
  obtain ⟨oa, ha, h⟩ := q_ob_some h
  obtain ⟨a, rfl, h⟩ := q_ob_some h
  obtain ⟨ht, h⟩ := q_gd_some h
  obtain ⟨b, hb, h⟩ := q_ob_some h
  have h : i_fz (fun r => q_gd (Nat.beq (i_ty r) 0) (q_st i_ty loA x r fun lo => KA nx lo stA ph)) b = some rA := h
  rw [i_fz_eq] at h
  obtain ⟨ht2, h⟩ := q_gd_some h
  rw [q_nth_eq] at ha
  obtain ⟨w, h1, h2⟩ := r_o_get ho ha
  obtain ⟨z, h3, h4⟩ := r_bin hb h2 (r_cst0 hi)
  obtain ⟨lo', m', h5, h6, h7⟩ := r_st (x := x) (kA := fun lo => KA nx lo stA ph) (kC := fun lo => KC nx lo st hp) ho h4
  rw [h7] at h
  obtain ⟨r, h8, h9⟩ := hk _ lo' st hp _ _ _ _ h h5 hs hh
  refine ⟨r, ?_, h9⟩
  show q_ob (q_nth lo x) _ = some r
  rw [q_nth_eq, q_obs h1]
  have ht : Nat.beq (i_ty a) 0 = true := ht
  show q_gd (Nat.beq (q_ty w) 0) _ = some r
  rw [r_ty h2, q_gds ht]
  show q_ob (q_bin 0 w (q_cst 0 c)) _ = some r
  rw [q_obs h3]
  show q_gd (Nat.beq (q_ty z) 0) (q_st q_ty lo x z fun lo => KC nx lo st hp) = some r
  rw [r_ty h4, q_gds ht2, h6]
  exact h8
theorem s_14 (h : q_s14 q_IO calA fr (v, c, x, y, nx, tb) loA stA ph KA = some rA) (hk : r_K KC KA) (ho : r_o lo loA) (hs : r_l st stA) (hh : r_h hp ph) : ∃ r, q_s14 q_CO cal fr (v, c, x, y, nx, tb) lo st hp KC = some r ∧ r_r r rA := by
  obtain ⟨aa, stA, rfl, h⟩ := q_p1_some h
  obtain ⟨av, st, rfl, ha, hs⟩ := r_l_cons hs
  obtain ⟨z, hz, h⟩ := q_ob_some h
  have h : i_fz (fun r => KA nx loA (r :: stA) ph) z = some rA := h
  rw [i_fz_eq] at h
  obtain ⟨w, h1, h2⟩ := r_un hz ha
  obtain ⟨r, h3, h4⟩ := hk _ lo (w :: st) hp _ _ _ _ h ho ⟨h2, hs⟩ hh
  refine ⟨r, ?_, h4⟩
  show q_ob (q_un v av) _ = some r
  rw [q_obs h1]
  exact h3
theorem s_15 (h : q_s15 q_IO calA fr (v, c, x, y, nx, tb) loA stA ph KA = some rA) (hk : r_K KC KA) (ho : r_o lo loA) (hs : r_l st stA) (hh : r_h hp ph) (hi : q_im 15 c = true) : ∃ r, q_s15 q_CO cal fr (v, c, x, y, nx, tb) lo st hp KC = some r ∧ r_r r rA := by
  have h : i_fz (fun a => KA nx loA (a :: stA) ph) (i_cst 1 c) = some rA := h
  rw [i_fz_eq] at h
  exact hk _ lo (q_cst 1 c :: st) hp _ _ _ _ h ho ⟨r_cst1 hi, hs⟩ hh
theorem s_16 (h : q_s16 q_IO calA fr (v, c, x, y, nx, tb) loA stA ph KA = some rA) (hk : r_K KC KA) (ho : r_o lo loA) (hs : r_l st stA) (hh : r_h hp ph) : ∃ r, q_s16 q_CO cal fr (v, c, x, y, nx, tb) lo st hp KC = some r ∧ r_r r rA := by
  obtain ⟨aa, stA, rfl, h⟩ := q_p1_some h
  obtain ⟨av, st, rfl, ha, hs⟩ := r_l_cons hs
  obtain ⟨ht, h⟩ := q_gd_some h
  obtain ⟨r, h3, h4⟩ := hk _ lo (av :: av :: st) hp _ _ _ _ h ho ⟨ha, ha, hs⟩ hh
  refine ⟨r, ?_, h4⟩
  have ht : (!Nat.beq (i_ty aa) 1) = true := ht
  show q_gd (!Nat.beq (q_ty av) 1) _ = some r
  rw [r_ty ha, q_gds ht]
  exact h3
theorem s_17 (h : q_s17 q_IO calA fr (v, c, x, y, nx, tb) loA stA ph KA = some rA) (hk : r_K KC KA) (ho : r_o lo loA) (hs : r_l st stA) (hh : r_h hp ph) : ∃ r, q_s17 q_CO cal fr (v, c, x, y, nx, tb) lo st hp KC = some r ∧ r_r r rA := by
  obtain ⟨aa, stA, rfl, h⟩ := q_p1_some h
  obtain ⟨av, st, rfl, ha, hs⟩ := r_l_cons hs
  obtain ⟨ba, stA, rfl, h⟩ := q_p1_some h
  obtain ⟨bv, st, rfl, hb, hs⟩ := r_l_cons hs
  obtain ⟨ht, h⟩ := q_gd_some h
  obtain ⟨r, h3, h4⟩ := hk _ lo (av :: bv :: av :: bv :: st) hp _ _ _ _ h ho ⟨ha, hb, ha, hb, hs⟩ hh
  refine ⟨r, ?_, h4⟩
  have ht : (!Nat.beq (i_ty aa) 1 && !Nat.beq (i_ty ba) 1) = true := ht
  show q_gd (!Nat.beq (q_ty av) 1 && !Nat.beq (q_ty bv) 1) _ = some r
  rw [r_ty ha, r_ty hb, q_gds ht]
  exact h3
theorem s_18 (h : q_s18 q_IO calA fr (v, c, x, y, nx, tb) loA stA ph KA = some rA) (hk : r_K KC KA) (ho : r_o lo loA) (hs : r_l st stA) (hh : r_h hp ph) : ∃ r, q_s18 q_CO cal fr (v, c, x, y, nx, tb) lo st hp KC = some r ∧ r_r r rA := by
  obtain ⟨aa, stA, rfl, h⟩ := q_p1_some h
  obtain ⟨av, st, rfl, ha, hs⟩ := r_l_cons hs
  obtain ⟨w, hw, h⟩ := q_ob_some h
  have hw2 : q_sw c v av = some w := r_sw hw ha
  cases w with
  | none =>
    obtain ⟨r, h3, h4⟩ := hk _ lo st hp _ _ _ _ h ho hs hh
    refine ⟨r, ?_, h4⟩
    show q_ob (q_sw c v av) _ = some r
    rw [q_obs hw2]
    exact h3
  | some j =>
    obtain ⟨t, ht, h⟩ := q_ob_some h
    obtain ⟨r, h3, h4⟩ := hk _ lo st hp _ _ _ _ h ho hs hh
    refine ⟨r, ?_, h4⟩
    show q_ob (q_sw c v av) _ = some r
    rw [q_obs hw2]
    show q_ob (q_nth tb j) _ = some r
    rw [q_obs ht]
    exact h3
theorem s_19 (h : q_s19 q_IO calA fr (v, c, x, y, nx, tb) loA stA ph KA = some rA) (hk : r_K KC KA) (ho : r_o lo loA) (hs : r_l st stA) (hh : r_h hp ph) : ∃ r, q_s19 q_CO cal fr (v, c, x, y, nx, tb) lo st hp KC = some r ∧ r_r r rA := by
  obtain ⟨na, stA, rfl, h⟩ := q_p1_some h
  obtain ⟨nv, st, rfl, hn, hs⟩ := r_l_cons hs
  obtain ⟨pa, stA, rfl, h⟩ := q_p1_some h
  obtain ⟨pv, st, rfl, hpa, hs⟩ := r_l_cons hs
  obtain ⟨da, stA, rfl, h⟩ := q_p1_some h
  obtain ⟨dv, st, rfl, hd, hs⟩ := r_l_cons hs
  obtain ⟨qa, stA, rfl, h⟩ := q_p1_some h
  obtain ⟨qv, st, rfl, hq, hs⟩ := r_l_cons hs
  obtain ⟨sa, stA, rfl, h⟩ := q_p1_some h
  obtain ⟨sv, st, rfl, hsv, hs⟩ := r_l_cons hs
  obtain ⟨hg, h⟩ := q_gd_some h
  obtain ⟨n, f1, h⟩ := q_ob_some h
  obtain ⟨dp, f2, h⟩ := q_ob_some h
  obtain ⟨sp, f3, h⟩ := q_ob_some h
  obtain ⟨ad, f4, h⟩ := q_ob_some h
  obtain ⟨as, f5, h⟩ := q_ob_some h
  obtain ⟨hp', ph', h1, h2, h3⟩ := r_cpy hh (show p_cpy ph as sp ad dp n (fun hp => KA nx loA stA hp) = some rA from h)
  obtain ⟨r, h4, h5⟩ := hk _ lo st hp' _ _ _ _ h1 ho hs h2
  refine ⟨r, ?_, h5⟩
  have hg2 : (Nat.blt 0 fr && Nat.ble (q_cats q_ty st) 8) = true := by rw [r_l_cats hs]; exact hg
  show q_gd (Nat.blt 0 fr && Nat.ble (q_cats q_ty st) 8) _ = some r
  rw [q_gds hg2]
  show q_ob (q_ix nv) _ = some r
  rw [q_obs (r_ix f1 hn)]
  show q_ob (q_ix pv) _ = some r
  rw [q_obs (r_ix f2 hpa)]
  show q_ob (q_ix qv) _ = some r
  rw [q_obs (r_ix f3 hq)]
  show q_ob (q_rf dv) _ = some r
  rw [q_obs (r_rf f4 hd)]
  show q_ob (q_rf sv) _ = some r
  rw [q_obs (r_rf f5 hsv)]
  show c_cpy hp as sp ad dp n (fun hp => KC nx lo st hp) = some r
  rw [h3]
  exact h4
theorem s_20 (h : q_s20 q_IO calA fr (v, c, x, y, nx, tb) loA stA ph KA = some rA) (hk : r_K KC KA) (ho : r_o lo loA) (hs : r_l st stA) (hh : r_h hp ph) : ∃ r, q_s20 q_CO cal fr (v, c, x, y, nx, tb) lo st hp KC = some r ∧ r_r r rA := by
  obtain ⟨_, h⟩ := q_gd_some h
  have h : i_fz (fun _ => none) (2, Int.ofNat 0, Int.ofNat 0) = some rA := h
  rw [i_fz_eq] at h
  cases h
theorem s_21 (h : q_s21 q_IO calA fr (v, c, x, y, nx, tb) loA stA ph KA = some rA) (hk : r_K KC KA) (ho : r_o lo loA) (hs : r_l st stA) (hh : r_h hp ph) : ∃ r, q_s21 q_CO cal fr (v, c, x, y, nx, tb) lo st hp KC = some r ∧ r_r r rA := by
  obtain ⟨na, stA, rfl, h⟩ := q_p1_some h
  obtain ⟨_, _, h⟩ := q_ob_some h
  obtain ⟨_, h⟩ := q_gd_some h
  have h : i_fz (fun _ => none) (2, Int.ofNat 0, Int.ofNat 0) = some rA := h
  rw [i_fz_eq] at h
  cases h
theorem s_22 (h : q_s22 q_IO calA fr (v, c, x, y, nx, tb) loA stA ph KA = some rA) (hk : r_K KC KA) (ho : r_o lo loA) (hs : r_l st stA) (hh : r_h hp ph) : ∃ r, q_s22 q_CO cal fr (v, c, x, y, nx, tb) lo st hp KC = some r ∧ r_r r rA := by
  obtain ⟨na, stA, rfl, h⟩ := q_p1_some h
  obtain ⟨_, _, h⟩ := q_ob_some h
  obtain ⟨_, h⟩ := q_gd_some h
  have h : i_fz (fun _ => none) (2, Int.ofNat 0, Int.ofNat 0) = some rA := h
  rw [i_fz_eq] at h
  cases h
theorem s_23 (h : q_s23 q_IO calA fr (v, c, x, y, nx, tb) loA stA ph KA = some rA) (hk : r_K KC KA) (ho : r_o lo loA) (hs : r_l st stA) (hh : r_h hp ph) : ∃ r, q_s23 q_CO cal fr (v, c, x, y, nx, tb) lo st hp KC = some r ∧ r_r r rA := by
  obtain ⟨ra, stA, rfl, h⟩ := q_p1_some h
  obtain ⟨rv, st, rfl, hr, hs⟩ := r_l_cons hs
  obtain ⟨ad, hd, h⟩ := q_ob_some h
  obtain ⟨hg, h⟩ := q_gd_some h
  obtain ⟨r, h3, h4⟩ := hk _ lo st hp _ _ _ _ h ho hs hh
  refine ⟨r, ?_, h4⟩
  have hg2 : (Nat.blt 0 fr && Nat.ble (q_cats q_ty st) 8) = true := by rw [r_l_cats hs]; exact hg
  show q_ob (q_rf rv) _ = some r
  rw [q_obs (r_rf hd hr)]
  show q_gd (Nat.blt 0 fr && Nat.ble (q_cats q_ty st) 8) _ = some r
  rw [q_gds hg2]
  exact h3
theorem s_24 (h : q_s24 q_IO calA fr (v, c, x, y, nx, tb) loA stA ph KA = some rA) (hk : r_K KC KA) (ho : r_o lo loA) (hs : r_l st stA) (hh : r_h hp ph) : ∃ r, q_s24 q_CO cal fr (v, c, x, y, nx, tb) lo st hp KC = some r ∧ r_r r rA := by
  have h : i_fz (fun a => KA nx loA (a :: stA) ph) (i_cst 2 (Int.ofNat x)) = some rA := h
  rw [i_fz_eq] at h
  exact hk _ lo (q_cst 2 (Int.ofNat x) :: st) hp _ _ _ _ h ho ⟨rfl, hs⟩ hh
end r_ops
theorem r_steps {k fr : Nat} {cal : Nat → List Value → q_H → Option (q_R Value q_H)} {calA : Nat → List q_IV → p_H → Option (q_R q_IV p_H)} (hk : k < q_nm) (hc : ∀ x as asA hp ph rA, calA x asA ph = some rA → x < q_nm → r_l as asA → r_h hp ph → ∃ r, cal x as hp = some r ∧ r_r r rA) : ∀ n : Nat, r_K (q_steps q_CO (q_I k).2 cal fr n) (q_steps q_IO (q_I k).2 calA fr n) := by
  intro n
  induction n with
  | zero => intro pc lo st hp loA stA ph rA h; cases h
  | succ n ih =>
    intro pc lo st hp loA stA ph rA h ho hs hh
    rw [q_steps_succ] at h ⊢
    obtain ⟨mi, hmi, h⟩ := q_ob_some h
    rw [q_obs hmi]
    have hck := q_ins hk hmi
    obtain ⟨op, v, c, x, y, nx, tb⟩ := mi
    have hck : (decide (decode (q_mc k) pc = .ok (q_in pc op v c x nx tb)) && decide (nx = pc + (q_in pc op v c x nx tb).2) && q_ex k op v c x y tb && q_im op c) = true := hck
    rw [Bool.and_eq_true, Bool.and_eq_true] at hck
    obtain ⟨⟨-, hx⟩, him⟩ := hck
    rcases q_cases25 op with rfl | rfl | rfl | rfl | rfl | rfl | rfl | rfl | rfl | rfl | rfl | rfl | rfl | rfl | rfl | rfl | rfl | rfl | rfl | rfl | rfl | rfl | rfl | rfl | rfl | ⟨w, rfl⟩
    · exact s_0 (fr := fr) (v := v) (c := c) (x := x) (y := y) (nx := nx) (tb := tb) (cal := cal) (calA := calA) h ih ho hs hh
    · exact s_1 (fr := fr) (v := v) (c := c) (x := x) (y := y) (nx := nx) (tb := tb) (cal := cal) (calA := calA) h ih ho hs hh
    · exact s_2 (fr := fr) (v := v) (c := c) (x := x) (y := y) (nx := nx) (tb := tb) (cal := cal) (calA := calA) h ih ho hs hh him
    · exact s_3 (fr := fr) (v := v) (c := c) (x := x) (y := y) (nx := nx) (tb := tb) (cal := cal) (calA := calA) h ih ho hs hh (fun as asA hp ph rA q1 q2 q3 => hc x as asA hp ph rA q1 (q_ex3 hx) q2 q3)
    · exact s_4 (fr := fr) (v := v) (c := c) (x := x) (y := y) (nx := nx) (tb := tb) (cal := cal) (calA := calA) (lo := lo) (loA := loA) (KC := q_steps q_CO (q_I k).2 cal fr n) (KA := q_steps q_IO (q_I k).2 calA fr n) h hs hh
    · exact s_5 (fr := fr) (v := v) (c := c) (x := x) (y := y) (nx := nx) (tb := tb) (cal := cal) (calA := calA) h ih ho hs hh
    · exact s_6 (fr := fr) (v := v) (c := c) (x := x) (y := y) (nx := nx) (tb := tb) (cal := cal) (calA := calA) h ih ho hs hh
    · exact s_7 (fr := fr) (v := v) (c := c) (x := x) (y := y) (nx := nx) (tb := tb) (cal := cal) (calA := calA) h ih ho hs hh
    · exact s_8 (fr := fr) (v := v) (c := c) (x := x) (y := y) (nx := nx) (tb := tb) (cal := cal) (calA := calA) h ih ho hs hh (of_decide_eq_true hx)
    · exact s_9 (fr := fr) (v := v) (c := c) (x := x) (y := y) (nx := nx) (tb := tb) (cal := cal) (calA := calA) h ih ho hs hh (of_decide_eq_true hx)
    · exact s_10 (fr := fr) (v := v) (c := c) (x := x) (y := y) (nx := nx) (tb := tb) (cal := cal) (calA := calA) h ih ho hs hh
    · exact s_11 (fr := fr) (v := v) (c := c) (x := x) (y := y) (nx := nx) (tb := tb) (cal := cal) (calA := calA) h ih ho hs hh
    · exact s_12 (fr := fr) (v := v) (c := c) (x := x) (y := y) (nx := nx) (tb := tb) (cal := cal) (calA := calA) h ih ho hs hh
    · exact s_13 (fr := fr) (v := v) (c := c) (x := x) (y := y) (nx := nx) (tb := tb) (cal := cal) (calA := calA) h ih ho hs hh him
    · exact s_14 (fr := fr) (v := v) (c := c) (x := x) (y := y) (nx := nx) (tb := tb) (cal := cal) (calA := calA) h ih ho hs hh
    · exact s_15 (fr := fr) (v := v) (c := c) (x := x) (y := y) (nx := nx) (tb := tb) (cal := cal) (calA := calA) h ih ho hs hh him
    · exact s_16 (fr := fr) (v := v) (c := c) (x := x) (y := y) (nx := nx) (tb := tb) (cal := cal) (calA := calA) h ih ho hs hh
    · exact s_17 (fr := fr) (v := v) (c := c) (x := x) (y := y) (nx := nx) (tb := tb) (cal := cal) (calA := calA) h ih ho hs hh
    · exact s_18 (fr := fr) (v := v) (c := c) (x := x) (y := y) (nx := nx) (tb := tb) (cal := cal) (calA := calA) h ih ho hs hh
    · exact s_19 (fr := fr) (v := v) (c := c) (x := x) (y := y) (nx := nx) (tb := tb) (cal := cal) (calA := calA) h ih ho hs hh
    · exact s_20 (fr := fr) (v := v) (c := c) (x := x) (y := y) (nx := nx) (tb := tb) (cal := cal) (calA := calA) h ih ho hs hh
    · exact s_21 (fr := fr) (v := v) (c := c) (x := x) (y := y) (nx := nx) (tb := tb) (cal := cal) (calA := calA) h ih ho hs hh
    · exact s_22 (fr := fr) (v := v) (c := c) (x := x) (y := y) (nx := nx) (tb := tb) (cal := cal) (calA := calA) h ih ho hs hh
    · exact s_23 (fr := fr) (v := v) (c := c) (x := x) (y := y) (nx := nx) (tb := tb) (cal := cal) (calA := calA) h ih ho hs hh
    · exact s_24 (fr := fr) (v := v) (c := c) (x := x) (y := y) (nx := nx) (tb := tb) (cal := cal) (calA := calA) h ih ho hs hh
    · exact absurd hx Bool.false_ne_true
theorem r_ent : ∀ {as : List Value} {asA : List q_IV}, r_l as asA → r_o (q_ent q_ty as) (q_ent i_ty asA)
  | [], [], _ => trivial
  | a :: l, b :: m, h => by
    rw [q_ent, q_ent, r_ty h.1]
    cases Nat.beq (i_ty b) 1 with
    | true => exact ⟨h.1, trivial, r_ent h.2⟩
    | false => exact ⟨h.1, r_ent h.2⟩
  | [], _ :: _, h => by cases h
  | _ :: _, [], h => by cases h
theorem r_fill : ∀ (n : Nat) {lo : List (Option Value)} {m : List (Option q_IV)}, r_o lo m → r_o (q_fill n lo) (q_fill n m)
  | 0, _, _, _ => trivial
  | n + 1, [], [], _ => ⟨trivial, r_fill n trivial⟩
  | n + 1, a :: l, b :: m, h => ⟨h.1, r_fill n h.2⟩
  | _ + 1, [], _ :: _, h => by cases h
  | _ + 1, _ :: _, [], h => by cases h
/-- THE LISTS OF VALUES DO WHAT THE INTERVALS DO -/
theorem r_run (fu : Nat) : ∀ (d k : Nat) (as : List Value) (asA : List q_IV) (hp : q_H) (ph : p_H) (rA : q_R q_IV p_H), q_run q_IO q_I fu d k asA ph = some rA → k < q_nm → r_l as asA → r_h hp ph → ∃ r, q_run q_CO q_I fu d k as hp = some r ∧ r_r r rA := by
  intro d
  induction d with
  | zero => intro k as asA hp ph rA h; cases h
  | succ d ih =>
    intro k as asA hp ph rA h hk hl hh
    rw [q_run_succ] at h ⊢
    obtain ⟨hcat, h⟩ := q_gd_some h
    rw [q_frc_eq] at h ⊢
    have hcat2 : Nat.ble (q_cats (o_ty q_CO) as) (q_I k).1 = true := by
      show Nat.ble (q_cats q_ty as) (q_I k).1 = true
      rw [r_l_cats hl]
      exact hcat
    rw [q_gds hcat2]
    exact r_steps hk (fun x as asA hp ph rA q1 q2 q3 q4 => ih x as asA hp ph rA q1 q2 q3 q4) fu 0 _ [] hp _ _ _ _ h (r_fill _ (r_ent hl)) trivial hh

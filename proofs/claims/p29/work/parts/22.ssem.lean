/-! what the symbols mean -/
def s_ev (ρ : Nat → Int) (x : s_X) : Int := match x with
  | (f, j, z, k) => match f with
    | 0 => z
    | 1 => ρ j
    | 2 => ρ j + z
    | 3 => ρ j - ρ k
    | _ => 0
def s_xs (n : Nat) (x : s_X) : Prop := match x with
  | (f, j, _, k) => match f with
    | 0 => True
    | 1 => j < n
    | 2 => j < n
    | 3 => j < n ∧ k < n
    | _ => False
def s_vk (kd : Nat) (z : Int) (v : Value) : Prop := match v with
  | .int x => kd = 0 ∧ x.toInt = z
  | .long x => kd = 1 ∧ x.toInt = z
  | .float n => kd = 4 ∧ (n.toNat : Int) = z
  | .ref h => ∃ t, kd = 10 + t ∧ (h : Int) = z ∧ s_ct[h]? = some t
  | _ => False
def s_lc (a b : Int) : Int := if a < b then -1 else if a = b then 0 else 1
def s_vs (n : Nat) (ρ : Nat → Int) (s : s_S) (v : Value) : Prop := s_xs n s.2.1 ∧ s_xs n s.2.2 ∧ (if s.1 = 5 then ∃ x : Int32, v = .int x ∧ x.toInt = s_lc (s_ev ρ s.2.1) (s_ev ρ s.2.2) else s_vk s.1 (s_ev ρ s.2.1) v)
/-- a variable that goes along with a place -/
def s_dp (ρ : Nat → Int) (n : Nat) (r : s_R) (z : Int) : Prop := r.1 = 1 → r.2.2.2.2.1 < n ∧ ∃ (D : s_D) (q : s_Q) (p : Nat), s_td r.2.2.2.1 = some D ∧ ρ r.2.2.2.2.1 + r.2.2.2.2.2 = (p : Int) ∧ s_sg D.2.2.1 p = some q ∧ q.2.1 ≤ z ∧ z ≤ q.2.2
def s_ek (ρ : Nat → Int) (env : List s_R) : Prop := ∀ (j : Nat) (r : s_R), env[j]? = some r → r.2.1 ≤ ρ j ∧ ρ j ≤ r.2.2.1 ∧ s_dp ρ env.length r (ρ j)
def s_inq (q : s_Q) (v : Value) : Prop := ∃ z, s_vk q.1 z v ∧ (q.1 < 10 → q.2.1 ≤ z ∧ z ≤ q.2.2)
def s_cok (D : s_D) (d : Nat × List Value) : Prop := d.1 = D.1 ∧ d.2.length = D.2.1 ∧ ∀ (i : Nat) (v : Value), d.2[i]? = some v → ∃ q, s_sg D.2.2.1 i = some q ∧ s_inq q v
def s_hok (hp : q_H) : Prop := hp.length = 146 ∧ q_sl hp = 2652 ∧ ∀ (c t : Nat), s_ct[c]? = some t → ∃ (D : s_D) (d : Nat × List Value), s_td t = some D ∧ hp[c]? = some d ∧ s_cok D d
def s_mo (n : Nat) (ρ : Nat → Int) (hp : q_H) (m : s_M) : Prop := s_xs n m.2.1 ∧ ∃ (c : Nat) (d : Nat × List Value) (v : Value), s_ev ρ m.2.1 = (c : Int) ∧ s_ct[c]? = some m.1 ∧ hp[c]? = some d ∧ d.2[m.2.2.1]? = some v ∧ s_vs n ρ m.2.2.2 v
def s_lk (n : Nat) (ρ : Nat → Int) (lo : List (Option s_S)) (cl : List (Option Value)) : Prop := cl.length = lo.length ∧ ∀ (i : Nat) (s : s_S), lo[i]? = some (some s) → ∃ v, cl[i]? = some (some v) ∧ s_vs n ρ s v
def s_sk (n : Nat) (ρ : Nat → Int) : List s_S → List Value → Prop
  | [], [] => True
  | s :: l, v :: m => s_vs n ρ s v ∧ s_sk n ρ l m
  | _, _ => False
def s_mk (n : Nat) (ρ : Nat → Int) (hp : q_H) (mm : List s_M) : Prop := ∀ m ∈ mm, s_mo n ρ hp m
def s_ag (n : Nat) (ρ ρ' : Nat → Int) : Prop := ∀ j, j < n → ρ' j = ρ j
def s_g (ρ : Nat → Int) (env : List s_R) (lo : List (Option s_S)) (st : List s_S) (mm : List s_M) (cl : List (Option Value)) (cs : List Value) (hp : q_H) : Prop := s_ek ρ env ∧ s_lk env.length ρ lo cl ∧ s_sk env.length ρ st cs ∧ s_mk env.length ρ hp mm
/-- only cells of the mask's types differ -/
def s_fm (mask : List Nat) (a b : q_H) : Prop := ∀ (c t : Nat), s_ct[c]? = some t → s_in mask t = false → b[c]? = a[c]?
theorem s_fm.rfl' {mask : List Nat} {a : q_H} : s_fm mask a a := fun _ _ _ _ => rfl
theorem s_fm.trans {mask : List Nat} {a b d : q_H} (h : s_fm mask a b) (h2 : s_fm mask b d) : s_fm mask a d := fun c t h3 h4 => (h2 c t h3 h4).trans (h c t h3 h4)
theorem s_ag.rfl' {n : Nat} {ρ : Nat → Int} : s_ag n ρ ρ := fun _ _ => rfl
theorem s_ag.trans {n m : Nat} {ρ ρ' ρ'' : Nat → Int} (h : s_ag n ρ ρ') (hn : n ≤ m) (h2 : s_ag m ρ' ρ'') : s_ag n ρ ρ'' := fun j hj => (h2 j (Nat.lt_of_lt_of_le hj hn)).trans (h j hj)
theorem s_xs_mono {n m : Nat} {x : s_X} (h : s_xs n x) (hn : n ≤ m) : s_xs m x := by
  obtain ⟨f, j, z, k⟩ := x
  match f, h with
  | 0, _ => exact trivial
  | 1, h => exact Nat.lt_of_lt_of_le h hn
  | 2, h => exact Nat.lt_of_lt_of_le h hn
  | 3, h => exact ⟨Nat.lt_of_lt_of_le h.1 hn, Nat.lt_of_lt_of_le h.2 hn⟩
  | f + 4, h => exact h.elim
theorem s_ev_ag {n : Nat} {ρ ρ' : Nat → Int} {x : s_X} (h : s_xs n x) (ha : s_ag n ρ ρ') : s_ev ρ' x = s_ev ρ x := by
  obtain ⟨f, j, z, k⟩ := x
  match f, h with
  | 0, _ => rfl
  | 1, h => exact ha j h
  | 2, h => show ρ' j + z = ρ j + z; rw [ha j h]
  | 3, h => show ρ' j - ρ' k = ρ j - ρ k; rw [ha j h.1, ha k h.2]
  | f + 4, h => exact h.elim
theorem s_vs_ag {n m : Nat} {ρ ρ' : Nat → Int} {s : s_S} {v : Value} (h : s_vs n ρ s v) (ha : s_ag n ρ ρ') (hn : n ≤ m) : s_vs m ρ' s v := by
  obtain ⟨h1, h2, h3⟩ := h
  refine ⟨s_xs_mono h1 hn, s_xs_mono h2 hn, ?_⟩
  rw [s_ev_ag h1 ha, s_ev_ag h2 ha]
  exact h3
theorem s_mo_ag {n m : Nat} {ρ ρ' : Nat → Int} {hp : q_H} {w : s_M} (h : s_mo n ρ hp w) (ha : s_ag n ρ ρ') (hn : n ≤ m) : s_mo m ρ' hp w := by
  obtain ⟨h1, c, d, v, h2, h3, h4, h5, h6⟩ := h
  exact ⟨s_xs_mono h1 hn, c, d, v, by rw [s_ev_ag h1 ha]; exact h2, h3, h4, h5, s_vs_ag h6 ha hn⟩
theorem s_lk_ag {n m : Nat} {ρ ρ' : Nat → Int} {lo : List (Option s_S)} {cl : List (Option Value)} (h : s_lk n ρ lo cl) (ha : s_ag n ρ ρ') (hn : n ≤ m) : s_lk m ρ' lo cl :=
  ⟨h.1, fun i s hs => (h.2 i s hs).elim fun v hv => ⟨v, hv.1, s_vs_ag hv.2 ha hn⟩⟩
theorem s_sk_ag {n m : Nat} {ρ ρ' : Nat → Int} (ha : s_ag n ρ ρ') (hn : n ≤ m) : ∀ {st : List s_S} {cs : List Value}, s_sk n ρ st cs → s_sk m ρ' st cs
  | [], [], _ => trivial
  | _ :: _, _ :: _, h => ⟨s_vs_ag h.1 ha hn, s_sk_ag ha hn h.2⟩
  | [], _ :: _, h => h.elim
  | _ :: _, [], h => h.elim
theorem s_mk_ag {n m : Nat} {ρ ρ' : Nat → Int} {hp : q_H} {mm : List s_M} (h : s_mk n ρ hp mm) (ha : s_ag n ρ ρ') (hn : n ≤ m) : s_mk m ρ' hp mm := fun w hw => s_mo_ag (h w hw) ha hn
theorem s_rg_some {env : List s_R} {j : Nat} {a b : Int} (h : s_rg env j = some (a, b)) : ∃ r, env[j]? = some r ∧ r.2.1 = a ∧ r.2.2.1 = b ∧ j < env.length := by
  unfold s_rg at h
  rw [q_nth_eq] at h
  cases hr : env[j]? with
  | none => rw [hr] at h; cases h
  | some r =>
    rw [hr] at h
    obtain ⟨f, a', b', t⟩ := r
    simp only [Option.some.injEq, Prod.mk.injEq] at h
    exact ⟨_, rfl, h.1, h.2, (List.getElem?_eq_some_iff.mp hr).1⟩
theorem s_rg_ok {ρ : Nat → Int} {env : List s_R} {j : Nat} {a b : Int} (hE : s_ek ρ env) (h : s_rg env j = some (a, b)) : a ≤ ρ j ∧ ρ j ≤ b ∧ j < env.length := by
  obtain ⟨r, h1, rfl, rfl, h4⟩ := s_rg_some h
  exact ⟨(hE j r h1).1, (hE j r h1).2.1, h4⟩
theorem s_xi_ok {ρ : Nat → Int} {env : List s_R} {x : s_X} {a b : Int} (hE : s_ek ρ env) (h : s_xi env x = some (a, b)) : a ≤ s_ev ρ x ∧ s_ev ρ x ≤ b ∧ s_xs env.length x := by
  obtain ⟨f, j, z, k⟩ := x
  match f, h with
  | 0, h =>
    simp only [s_xi, Option.some.injEq, Prod.mk.injEq] at h
    obtain ⟨rfl, rfl⟩ := h
    exact ⟨Int.le_refl _, Int.le_refl _, trivial⟩
  | 1, h => exact s_rg_ok hE h
  | 2, h =>
    simp only [s_xi] at h
    cases hr : s_rg env j with
    | none => rw [hr] at h; cases h
    | some p =>
      rw [hr] at h
      obtain ⟨c, d⟩ := p
      simp only [Option.some.injEq, Prod.mk.injEq] at h
      obtain ⟨rfl, rfl⟩ := h
      have := s_rg_ok hE hr
      refine ⟨?_, ?_, this.2.2⟩
      · show c + z ≤ ρ j + z; omega
      · show ρ j + z ≤ d + z; omega
  | 3, h =>
    simp only [s_xi] at h
    cases hr : s_rg env j with
    | none => rw [hr] at h; cases h
    | some p =>
      rw [hr] at h
      obtain ⟨c, d⟩ := p
      simp only at h
      cases hq : s_rg env k with
      | none => rw [hq] at h; cases h
      | some q =>
        rw [hq] at h
        obtain ⟨c', d'⟩ := q
        simp only [Option.some.injEq, Prod.mk.injEq] at h
        obtain ⟨rfl, rfl⟩ := h
        have h1 := s_rg_ok hE hr
        have h2 := s_rg_ok hE hq
        refine ⟨?_, ?_, h1.2.2, h2.2.2⟩
        · show c - d' ≤ ρ j - ρ k; omega
        · show ρ j - ρ k ≤ d - c'; omega
  | f + 4, h => simp [s_xi] at h
theorem s_xk_some {env : List s_R} {x : s_X} {K : Int → Int → Bool} (h : s_xk env x K = true) : ∃ a b, s_xi env x = some (a, b) ∧ K a b = true := by
  unfold s_xk at h
  cases hx : s_xi env x with
  | none => rw [hx] at h; cases h
  | some p =>
    rw [hx] at h
    obtain ⟨a, b⟩ := p
    simp only [i_fZ_eq] at h
    exact ⟨a, b, rfl, h⟩
theorem s_mx_ok {a b z : Int} (h1 : a ≤ z) (h2 : b ≤ z) : s_mx a b ≤ z := by
  unfold s_mx
  cases i_ble a b <;> simp only [cond_true, cond_false] <;> assumption
theorem s_mn_ok {a b z : Int} (h1 : z ≤ a) (h2 : z ≤ b) : z ≤ s_mn a b := by
  unfold s_mn
  cases i_ble a b <;> simp only [cond_true, cond_false] <;> assumption
theorem s_mx_l {a b : Int} : a ≤ s_mx a b := by
  unfold s_mx
  cases h : i_ble a b
  · exact Int.le_refl _
  · exact i_ble_iff.mp h
theorem s_mx_r {a b : Int} : b ≤ s_mx a b := by
  unfold s_mx
  cases h : i_ble a b
  · rw [← Bool.not_eq_true, i_ble_iff] at h
    show b ≤ a
    omega
  · exact Int.le_refl _
theorem s_mn_l {a b : Int} : s_mn a b ≤ a := by
  unfold s_mn
  cases h : i_ble a b
  · rw [← Bool.not_eq_true, i_ble_iff] at h
    show b ≤ a
    omega
  · exact Int.le_refl _
theorem s_mn_r {a b : Int} : s_mn a b ≤ b := by
  unfold s_mn
  cases h : i_ble a b
  · exact Int.le_refl _
  · exact i_ble_iff.mp h
theorem s_rv_ok {ρ : Nat → Int} {env : List s_R} {j : Nat} {lo hi : Int} {K : List s_R → Bool} (h : s_rv env j lo hi K = true) (hE : s_ek ρ env) (h1 : lo ≤ ρ j) (h2 : ρ j ≤ hi) : ∃ env', K env' = true ∧ s_ek ρ env' ∧ env'.length = env.length := by
  unfold s_rv at h
  rw [q_nth_eq] at h
  cases hr : env[j]? with
  | none => rw [hr] at h; cases h
  | some r =>
    rw [hr] at h
    obtain ⟨f, a, b, t⟩ := r
    simp only at h
    have h3 := hE j _ hr
    simp only at h3
    cases hc : (i_blt hi a || i_blt b lo) with
    | true =>
      exfalso
      rw [Bool.or_eq_true, i_blt_iff, i_blt_iff] at hc
      omega
    | false =>
      rw [hc] at h
      simp only [cond_false] at h
      cases hd : (i_ble lo a && i_ble b hi) with
      | true => rw [hd] at h; exact ⟨env, h, hE, rfl⟩
      | false =>
        rw [hd] at h
        simp only [cond_false, i_fZ_eq, q_set_eq] at h
        refine ⟨_, h, ?_, by simp⟩
        intro i r hi'
        by_cases hij : i = j
        · subst hij
          have hlt : i < env.length := (List.getElem?_eq_some_iff.mp hr).1
          rw [List.getElem?_set_self hlt] at hi'
          cases hi'
          refine ⟨s_mx_ok h3.1 h1, s_mn_ok h3.2.1 h2, ?_⟩
          have h4 := h3.2.2
          intro hf
          have h5 := h4 hf
          simpa using h5
        · rw [List.getElem?_set_ne (Ne.symm hij)] at hi'
          have h4 := hE i r hi'
          refine ⟨h4.1, h4.2.1, ?_⟩
          intro hf
          have h5 := h4.2.2 hf
          simpa using h5
theorem s_rx_ok {ρ : Nat → Int} {env : List s_R} {x : s_X} {lo hi : Int} {K : List s_R → Bool} (h : s_rx env x lo hi K = true) (hE : s_ek ρ env) (h1 : lo ≤ s_ev ρ x) (h2 : s_ev ρ x ≤ hi) : ∃ env', K env' = true ∧ s_ek ρ env' ∧ env'.length = env.length := by
  obtain ⟨f, j, z, k⟩ := x
  match f, h with
  | 0, h =>
    simp only [s_rx] at h
    have h3 : (i_ble lo z && i_ble z hi) = true := by
      rw [Bool.and_eq_true, i_ble_iff, i_ble_iff]
      exact ⟨h1, h2⟩
    rw [h3] at h
    exact ⟨env, h, hE, rfl⟩
  | 1, h => exact s_rv_ok h hE h1 h2
  | 2, h =>
    have h1 : lo ≤ ρ j + z := h1
    have h2 : ρ j + z ≤ hi := h2
    exact s_rv_ok (lo := lo - z) (hi := hi - z) h hE (by omega) (by omega)
  | 3, h =>
    have h1 : lo ≤ ρ j - ρ k := h1
    have h2 : ρ j - ρ k ≤ hi := h2
    simp only [s_rx] at h
    cases hr : s_rg env j with
    | none => rw [hr] at h; cases h
    | some p =>
      rw [hr] at h
      obtain ⟨a, b⟩ := p
      simp only at h
      cases hq : s_rg env k with
      | none => rw [hq] at h; cases h
      | some q =>
        rw [hq] at h
        obtain ⟨c, d⟩ := q
        simp only at h
        have h3 := s_rg_ok hE hr
        have h4 := s_rg_ok hE hq
        obtain ⟨env1, h5, h6, h7⟩ := s_rv_ok h hE (by omega) (by omega)
        obtain ⟨env2, h8, h9, h10⟩ := s_rv_ok h5 h6 (by omega) (by omega)
        exact ⟨env2, h8, h9, h10.trans h7⟩
  | f + 4, h => simp [s_rx] at h
theorem s_le_ok {ρ : Nat → Int} {env : List s_R} {X Y : s_X} {K : List s_R → Bool} (h : s_le X Y env K = true) (hE : s_ek ρ env) (hr : s_ev ρ X ≤ s_ev ρ Y) : ∃ env', K env' = true ∧ s_ek ρ env' ∧ env'.length = env.length := by
  obtain ⟨a, b, h1, h⟩ := s_xk_some h
  obtain ⟨c, d, h2, h⟩ := s_xk_some h
  have h3 := s_xi_ok hE h1
  have h4 := s_xi_ok hE h2
  obtain ⟨env1, h5, h6, h7⟩ := s_rx_ok h hE (by omega) (by omega)
  obtain ⟨env2, h8, h9, h10⟩ := s_rx_ok h5 h6 (by omega) (by omega)
  exact ⟨env2, h8, h9, h10.trans h7⟩
theorem s_lt_ok {ρ : Nat → Int} {env : List s_R} {X Y : s_X} {K : List s_R → Bool} (h : s_lt X Y env K = true) (hE : s_ek ρ env) (hr : s_ev ρ X < s_ev ρ Y) : ∃ env', K env' = true ∧ s_ek ρ env' ∧ env'.length = env.length := by
  obtain ⟨a, b, h1, h⟩ := s_xk_some h
  obtain ⟨c, d, h2, h⟩ := s_xk_some h
  have h3 := s_xi_ok hE h1
  have h4 := s_xi_ok hE h2
  obtain ⟨env1, h5, h6, h7⟩ := s_rx_ok h hE (by omega) (by omega)
  obtain ⟨env2, h8, h9, h10⟩ := s_rx_ok h5 h6 (by omega) (by omega)
  exact ⟨env2, h8, h9, h10.trans h7⟩
theorem s_eq_ok {ρ : Nat → Int} {env : List s_R} {X Y : s_X} {K : List s_R → Bool} (h : s_eq X Y env K = true) (hE : s_ek ρ env) (hr : s_ev ρ X = s_ev ρ Y) : ∃ env', K env' = true ∧ s_ek ρ env' ∧ env'.length = env.length := by
  obtain ⟨a, b, h1, h⟩ := s_xk_some h
  obtain ⟨c, d, h2, h⟩ := s_xk_some h
  have h3 := s_xi_ok hE h1
  have h4 := s_xi_ok hE h2
  obtain ⟨env1, h5, h6, h7⟩ := s_rx_ok h hE (by omega) (by omega)
  obtain ⟨env2, h8, h9, h10⟩ := s_rx_ok h5 h6 (by omega) (by omega)
  exact ⟨env2, h8, h9, h10.trans h7⟩
theorem s_ne_ok {ρ : Nat → Int} {env : List s_R} {X Y : s_X} {K : List s_R → Bool} (h : s_ne X Y env K = true) (hE : s_ek ρ env) (hr : s_ev ρ X ≠ s_ev ρ Y) : ∃ env', K env' = true ∧ s_ek ρ env' ∧ env'.length = env.length := by
  obtain ⟨a, b, h1, h⟩ := s_xk_some h
  obtain ⟨c, d, h2, h⟩ := s_xk_some h
  have h3 := s_xi_ok hE h1
  have h4 := s_xi_ok hE h2
  cases e1 : i_beq c d with
  | false => rw [e1] at h; exact ⟨env, h, hE, rfl⟩
  | true =>
    rw [e1] at h
    simp only [cond_true] at h
    rw [i_beq_iff] at e1
    cases e2 : i_beq a c with
    | true =>
      rw [e2] at h
      simp only [cond_true] at h
      rw [i_beq_iff] at e2
      cases e3 : i_beq b c with
      | true => exfalso; rw [i_beq_iff] at e3; omega
      | false => rw [e3] at h; exact s_rx_ok h hE (by omega) (by omega)
    | false =>
      rw [e2] at h
      simp only [cond_false] at h
      cases e3 : i_beq b c with
      | true => rw [e3] at h; rw [i_beq_iff] at e3; exact s_rx_ok h hE (by omega) (by omega)
      | false => rw [e3] at h; exact ⟨env, h, hE, rfl⟩
def s_rel (v : Nat) (a b : Int) : Bool := match v with
  | 0 => decide (a = b)
  | 1 => decide (¬ a = b)
  | 2 => decide (a < b)
  | 3 => decide (b ≤ a)
  | 4 => decide (b < a)
  | _ => decide (a ≤ b)
theorem s_cbt {b : Bool} {Kt Kf : List s_R → Bool} {Q : List s_R → Prop} (hb : b = true) (h : ∃ env', Kt env' = true ∧ Q env') : ∃ env', (if b = true then Kt env' else Kf env') = true ∧ Q env' := by
  subst hb
  exact h
theorem s_cbf {b : Bool} {Kt Kf : List s_R → Bool} {Q : List s_R → Prop} (hb : b = false) (h : ∃ env', Kf env' = true ∧ Q env') : ∃ env', (if b = true then Kt env' else Kf env') = true ∧ Q env' := by
  subst hb
  exact h
theorem s_cb_ok {ρ : Nat → Int} {env : List s_R} {v : Nat} {X Y : s_X} {Kt Kf : List s_R → Bool} (h : s_cb v X Y env Kt Kf = true) (hE : s_ek ρ env) : v < 6 ∧ ∃ env', (if s_rel v (s_ev ρ X) (s_ev ρ Y) = true then Kt env' else Kf env') = true ∧ s_ek ρ env' ∧ env'.length = env.length := by
  match v, h with
  | 0, h =>
    refine ⟨by decide, ?_⟩
    rw [show s_cb 0 X Y env Kt Kf = (s_eq X Y env Kt && s_ne X Y env Kf) from rfl, Bool.and_eq_true] at h
    by_cases hc : s_ev ρ X = s_ev ρ Y
    · exact s_cbt (decide_eq_true hc) (s_eq_ok h.1 hE hc)
    · exact s_cbf (decide_eq_false hc) (s_ne_ok h.2 hE hc)
  | 1, h =>
    refine ⟨by decide, ?_⟩
    rw [show s_cb 1 X Y env Kt Kf = (s_ne X Y env Kt && s_eq X Y env Kf) from rfl, Bool.and_eq_true] at h
    by_cases hc : s_ev ρ X = s_ev ρ Y
    · exact s_cbf (decide_eq_false (fun hn => hn hc)) (s_eq_ok h.2 hE hc)
    · exact s_cbt (decide_eq_true hc) (s_ne_ok h.1 hE hc)
  | 2, h =>
    refine ⟨by decide, ?_⟩
    rw [show s_cb 2 X Y env Kt Kf = (s_lt X Y env Kt && s_le Y X env Kf) from rfl, Bool.and_eq_true] at h
    by_cases hc : s_ev ρ X < s_ev ρ Y
    · exact s_cbt (decide_eq_true hc) (s_lt_ok h.1 hE hc)
    · exact s_cbf (decide_eq_false hc) (s_le_ok h.2 hE (by omega))
  | 3, h =>
    refine ⟨by decide, ?_⟩
    rw [show s_cb 3 X Y env Kt Kf = (s_le Y X env Kt && s_lt X Y env Kf) from rfl, Bool.and_eq_true] at h
    by_cases hc : s_ev ρ Y ≤ s_ev ρ X
    · exact s_cbt (decide_eq_true hc) (s_le_ok h.1 hE hc)
    · exact s_cbf (decide_eq_false hc) (s_lt_ok h.2 hE (by omega))
  | 4, h =>
    refine ⟨by decide, ?_⟩
    rw [show s_cb 4 X Y env Kt Kf = (s_lt Y X env Kt && s_le X Y env Kf) from rfl, Bool.and_eq_true] at h
    by_cases hc : s_ev ρ Y < s_ev ρ X
    · exact s_cbt (decide_eq_true hc) (s_lt_ok h.1 hE hc)
    · exact s_cbf (decide_eq_false hc) (s_le_ok h.2 hE (by omega))
  | 5, h =>
    refine ⟨by decide, ?_⟩
    rw [show s_cb 5 X Y env Kt Kf = (s_le X Y env Kt && s_lt Y X env Kf) from rfl, Bool.and_eq_true] at h
    by_cases hc : s_ev ρ X ≤ s_ev ρ Y
    · exact s_cbt (decide_eq_true hc) (s_le_ok h.1 hE hc)
    · exact s_cbf (decide_eq_false hc) (s_lt_ok h.2 hE (by omega))
  | v + 6, h => simp [s_cb] at h
theorem s_psh_ok {ρ : Nat → Int} {env : List s_R} {lo hi z : Int} {K : List s_R → s_X → Bool} (h : s_psh env lo hi K = true) (hE : s_ek ρ env) (h1 : lo ≤ z) (h2 : z ≤ hi) : ∃ env' ρ', K env' (1, env.length, 0, 0) = true ∧ s_ek ρ' env' ∧ s_ag env.length ρ ρ' ∧ env'.length = env.length + 1 ∧ ρ' env.length = z := by
  unfold s_psh at h
  simp only [i_fZ_eq, i_fN_eq, q_app_eq] at h
  refine ⟨_, fun j => if j = env.length then z else ρ j, h, ?_, fun j hj => if_neg (Nat.ne_of_lt hj), by simp, if_pos rfl⟩
  intro j r hr
  by_cases hj : j = env.length
  · subst hj
    simp only [List.getElem?_concat_length, Option.some.injEq] at hr
    subst hr
    simp only [if_pos]
    exact ⟨h1, h2, fun hf => by cases hf⟩
  · have hlt : j < env.length := by
      have := (List.getElem?_eq_some_iff.mp hr).1
      simp at this
      omega
    rw [List.getElem?_append_left hlt] at hr
    have h3 := hE j r hr
    simp only [if_neg hj]
    refine ⟨h3.1, h3.2.1, ?_⟩
    intro hf
    obtain ⟨h4, D, q, p, h5, h6, h7⟩ := h3.2.2 hf
    refine ⟨by simp; omega, D, q, p, h5, ?_, h7⟩
    simp only [if_neg (Nat.ne_of_lt h4)]
    exact h6

section s_gos
variable {cal : Nat → List Value → q_H → Option (q_R Value q_H)} {fr : Nat} {mask : List Nat} {ρ : Nat → Int} {env : List s_R} {lo : List (Option s_S)} {st : List s_S} {mm : List s_M} {cl : List (Option Value)} {cs : List Value} {hp hp0 : q_H}
theorem s_cut_ok {j : Nat} {a b : Int} {K : List s_R → Bool} (hE : s_ek ρ env) (hb : ρ j ≤ b) : ∀ {cs : List Int} {lo : Int}, s_cut env j a b K lo cs = true → lo ≤ ρ j → ∃ env', K env' = true ∧ s_ek ρ env' ∧ env'.length = env.length
  | [], lo, h, h1 => s_rv_ok h hE h1 hb
  | c :: cs, lo, h, h1 => by
    rw [s_cut] at h
    cases c1 : i_ble c a with
    | true => rw [c1, cond_true] at h; exact s_cut_ok hE hb h h1
    | false =>
      rw [c1, cond_false] at h
      cases c2 : i_blt b c with
      | true => rw [c2, cond_true] at h; exact s_rv_ok h hE h1 hb
      | false =>
        rw [c2, cond_false, Bool.and_eq_true] at h
        by_cases h2 : ρ j ≤ c - 1
        · exact s_rv_ok h.1 hE h1 h2
        · exact s_cut_ok hE hb h.2 (by omega)
theorem s_cutx_ok {cs : List Int} {K : List s_R → Bool} {s : s_S} (hE : s_ek ρ env) (h : s_cutx env cs K s = true) : ∃ env', K env' = true ∧ s_ek ρ env' ∧ env'.length = env.length := by
  unfold s_cutx at h
  split at h
  · split at h
    · rename_i hr
      have := s_rg_ok hE hr
      exact s_cut_ok hE this.2.1 h this.1
    · exact ⟨env, h, hE, rfl⟩
  · exact ⟨env, h, hE, rfl⟩
theorem s_spl_ok {pc : Nat} {K : List s_R → Bool} (hE : s_ek ρ env) : ∀ {l : List s_Y}, s_spl pc env lo st mm K l = true → ∃ env', K env' = true ∧ s_ek ρ env' ∧ env'.length = env.length
  | [], h => ⟨env, h, hE, rfl⟩
  | (q, f, a, b, c, cs) :: l, h => by
    rw [s_spl.eq_def] at h
    simp only at h
    cases c1 : Nat.beq q pc with
    | false => rw [c1, cond_false] at h; exact s_spl_ok hE h
    | true =>
      rw [c1, cond_true] at h
      split at h
      · split at h
        · exact s_cutx_ok hE h
        · exact ⟨env, h, hE, rfl⟩
      · split at h
        · exact s_cutx_ok hE h
        · exact ⟨env, h, hE, rfl⟩
      · split at h
        · exact s_cutx_ok hE h
        · exact ⟨env, h, hE, rfl⟩
theorem s_pk_1 {p kd j : Nat} {lo hi : Int} {s : s_S} : s_pk p env (kd, 1, j, lo, hi) s = (Nat.beq s.1 kd && !Nat.beq kd 5 && (Nat.blt j p && s_xe s.2.1 (1, j, 0, 0))) := rfl
theorem s_pk_ne {p kd f j : Nat} {lo hi : Int} {s : s_S} (hf : f ≠ 1) : s_pk p env (kd, f, j, lo, hi) s = (Nat.beq s.1 kd && !Nat.beq kd 5 && (s_xk env s.2.1 fun a b => i_ble lo a && i_ble b hi)) := by
  match f, hf with
  | 0, _ => rfl
  | 1, hf => exact absurd rfl hf
  | f + 2, _ => rfl
theorem s_pk_ok {n p : Nat} {P : s_P} {s : s_S} {v : Value} (h : s_pk p env P s = true) (hE : s_ek ρ env) (hs : s_vs n ρ s v) : s_pat ρ p P v := by
  obtain ⟨kd, f, j, lo, hi⟩ := P
  by_cases hf : f = 1
  · subst hf
    rw [s_pk_1] at h
    simp only [Bool.and_eq_true] at h
    obtain ⟨⟨h1, h2⟩, h3, h5⟩ := h
    have h1 := s_beq h1
    have h4 := s_vs_k hs (by rw [h1]; exact s_nb h2)
    rw [h1] at h4
    refine ⟨_, h4, ?_⟩
    rw [if_pos rfl, s_xe_ok h5]
    exact ⟨s_blt h3, rfl⟩
  · rw [s_pk_ne hf, Bool.and_eq_true, Bool.and_eq_true] at h
    obtain ⟨⟨h1, h2⟩, h3⟩ := h
    have h1 := s_beq h1
    have h4 := s_vs_k hs (by rw [h1]; exact s_nb h2)
    rw [h1] at h4
    refine ⟨_, h4, ?_⟩
    rw [if_neg (show ¬ (kd, f, j, lo, hi).2.1 = 1 from hf)]
    obtain ⟨a, b, h5, h6⟩ := s_xk_some h3
    rw [Bool.and_eq_true, i_ble_iff, i_ble_iff] at h6
    have h7 := s_xi_ok hE h5
    show lo ≤ _ ∧ _ ≤ hi
    omega
theorem s_rs_ok (hE : s_ek ρ env) : ∀ {rs : List (Int × Int)} {i : Nat}, s_rs env rs i = true → ∀ (j : Nat) (a b : Int), rs[j]? = some (a, b) → a ≤ ρ (i + j) ∧ ρ (i + j) ≤ b
  | [], _, _, j, a, b, h => by cases h
  | (lo, hi) :: rs, i, h, j, a, b, hj => by
    rw [s_rs, Bool.and_eq_true] at h
    cases j with
    | zero =>
      cases hj
      obtain ⟨c, d, h1, h2⟩ := s_xk_some h.1
      rw [Bool.and_eq_true, i_ble_iff, i_ble_iff] at h2
      have h3 := s_xi_ok hE h1
      have h4 : c ≤ ρ i := h3.1
      have h5 : ρ i ≤ d := h3.2.1
      show _ ≤ ρ i ∧ ρ i ≤ _
      omega
    | succ j =>
      have := s_rs_ok hE h.2 j a b hj
      rwa [show i + 1 + j = i + (j + 1) by omega] at this
theorem s_pks_ok {n p : Nat} (hE : s_ek ρ env) (hM : s_mk n ρ hp mm) : ∀ {ms : List (Nat × Nat × Nat × s_P)}, s_pks p env mm ms = true → ∀ (t c pl : Nat) (P : s_P), (t, c, pl, P) ∈ ms → s_ct[c]? = some t ∧ ∃ (d : Nat × List Value) (v : Value), hp[c]? = some d ∧ d.2[pl]? = some v ∧ s_pat ρ p P v
  | [], _, t, c, pl, P, h => by cases h
  | (t', c', p', P') :: ms, h, t, c, pl, P, hm => by
    rw [s_pks, Bool.and_eq_true] at h
    rcases List.mem_cons.mp hm with hm | hm
    · cases hm
      have h1 := h.1
      cases hg : s_mg mm t' (0, 0, .ofNat c', 0) p' with
      | none => rw [hg] at h1; cases h1
      | some s =>
        rw [hg] at h1
        obtain ⟨-, c2, d, v, e1, e2, e3, e4, e5⟩ := hM _ (s_mg_some hg)
        have e1 : Int.ofNat c' = (c2 : Int) := e1
        have : c2 = c' := by have : (c' : Int) = (c2 : Int) := e1; omega
        subst this
        exact ⟨e2, d, v, e3, e4, s_pk_ok h1 hE e5⟩
    · exact s_pks_ok hE hM h.2 t c pl P hm
theorem s_rt_ok {n p : Nat} {r : Option s_S} {R : Option Value} (hE : s_ek ρ env) (hM : s_mk n ρ hp mm) (hr : (r = none ∧ R = none) ∨ ∃ s v, r = some s ∧ R = some v ∧ s_vs n ρ s v) : ∀ {os : List s_O}, s_rt p env mm r os = true → ∃ o ∈ os, s_eo ρ p o (R, hp)
  | [], h => by cases h
  | (rs, ret, ms) :: os, h => by
    rw [s_rt, Bool.or_eq_true] at h
    rcases h with h | h
    · simp only [Bool.and_eq_true] at h
      obtain ⟨⟨⟨h1, h2⟩, h3⟩, h4⟩ := h
      refine ⟨_, List.mem_cons_self, s_beq h1, fun j a b hj => ?_, ?_, s_pks_ok hE hM h3⟩
      · have := s_rs_ok hE h2 j a b hj
        rwa [Nat.zero_add] at this
      · rcases hr with ⟨rfl, rfl⟩ | ⟨s, v, rfl, rfl, hv⟩
        · cases ret with
          | none => exact trivial
          | some P => cases h4
        · cases ret with
          | none => cases h4
          | some P => exact s_pk_ok h4 hE hv
    · obtain ⟨o, h1, h2⟩ := s_rt_ok hE hM hr h
      exact ⟨o, List.mem_cons_of_mem _ h1, h2⟩
theorem s_ret_ok {p v : Nat} {os : List s_O} {c : Int} {x y nx : Nat} {tb : List Nat} (h : s_ret p os v env st mm = true) (G : s_g ρ env lo st mm cl cs hp) : ∃ R, (∀ KC : q_K Value q_H, q_step q_CO cal fr (4, v, c, x, y, nx, tb) cl cs hp KC = some (R, hp)) ∧ ∃ o ∈ os, s_eo ρ p o (R, hp) := by
  obtain ⟨hE, hl, hs, hm⟩ := G
  unfold s_ret at h
  cases hv : Nat.beq v 4 with
  | true =>
    rw [hv, cond_true] at h
    match st, cs, h, hs with
    | [], [], h, _ =>
      refine ⟨none, fun KC => ?_, s_rt_ok hE hm (Or.inl ⟨rfl, rfl⟩) h⟩
      show (bif Nat.beq v 4 then q_gd true (some (none, hp)) else _) = _
      rw [hv]
      rfl
    | [], _ :: _, _, hs => exact hs.elim
    | _ :: _, _, h, _ => cases h
  | false =>
    rw [hv, cond_false] at h
    match st, cs, h, hs with
    | [a], [u], h, hs =>
      rw [Bool.and_eq_true] at h
      refine ⟨some u, fun KC => ?_, s_rt_ok hE hm (Or.inr ⟨a, u, rfl, rfl, hs.1⟩) h.2⟩
      show (bif Nat.beq v 4 then _ else q_gd (true && q_fit v u) (some (some u, hp))) = _
      rw [hv, s_fv_ok h.1 hE hs.1]
      rfl
    | [], _, h, _ => cases h
    | _ :: _ :: _, _, h, _ => cases h
    | [_], [], _, hs => exact hs.elim
    | [_], _ :: _ :: _, _, hs => exact hs.2.elim
def s_r2 (p : Nat) (ρ : Nat → Int) (th : List s_X) (j : Nat) : Int := if j < p then ρ j else match th[j - p]? with
  | some x => s_ev ρ x
  | none => 0
def s_ti (p : Nat) (cenv : List s_R) (n : Nat) (ρ : Nat → Int) (th : List s_X) : Prop := ∀ (i : Nat) (x : s_X), th[i]? = some x → s_xs n x ∧ ∃ c d, s_rg cenv (p + i) = some (c, d) ∧ c ≤ s_ev ρ x ∧ s_ev ρ x ≤ d
theorem s_r2_lt {p : Nat} {th : List s_X} {j : Nat} (h : j < p) : s_r2 p ρ th j = ρ j := if_pos h
theorem s_r2_ge {p : Nat} {th : List s_X} {i : Nat} {x : s_X} (h : th[i]? = some x) : s_r2 p ρ th (p + i) = s_ev ρ x := by
  unfold s_r2
  rw [if_neg (by omega), Nat.add_sub_cancel_left, h]
theorem s_r2_ag {p : Nat} {th e : List s_X} : s_ag (p + th.length) (s_r2 p ρ th) (s_r2 p ρ (th ++ e)) := by
  intro j hj
  unfold s_r2
  by_cases h : j < p
  · rw [if_pos h, if_pos h]
  · rw [if_neg h, if_neg h, List.getElem?_append_left (by omega)]
theorem s_m1_0 {p : Nat} {cenv : List s_R} {kd j : Nat} {z : Int} {k : Nat} {x : s_X} {A : s_S} {th : List s_X} {K : List s_X → Bool} : s_m1 p cenv env (kd, (0, j, z, k), x) A th K = (Nat.beq A.1 kd && !Nat.beq kd 5 && ((bif Nat.ble 10 kd then s_xe A.2.1 (0, 0, z, 0) else s_xk env A.2.1 fun a b => i_beq a z && i_beq b z) && K th)) := rfl
theorem s_m1_1 {p : Nat} {cenv : List s_R} {kd j : Nat} {z : Int} {k : Nat} {x : s_X} {A : s_S} {th : List s_X} {K : List s_X → Bool} : s_m1 p cenv env (kd, (1, j, z, k), x) A th K = (Nat.beq A.1 kd && !Nat.beq kd 5 && (bif Nat.blt j p then s_xe A.2.1 (1, j, 0, 0) && K th else (match q_nth th (j - p) with
      | some e => s_xe A.2.1 e && K th
      | none => Nat.beq (j - p) th.length && (match s_rg cenv j with
        | some (c, d) => s_xk env A.2.1 fun a b => i_ble c a && i_ble b d && q_app th A.2.1 K
        | none => false)))) := rfl
theorem s_m1_ok {p : Nat} {cenv : List s_R} {P A : s_S} {th : List s_X} {K : List s_X → Bool} {v : Value} (h : s_m1 p cenv env P A th K = true) (hE : s_ek ρ env) (hT : s_ti p cenv env.length ρ th) (hA : s_vs env.length ρ A v) (hP : P.2.2 = s_x0) : ∃ e, K (th ++ e) = true ∧ s_ti p cenv env.length ρ (th ++ e) ∧ s_vs (p + (th ++ e).length) (s_r2 p ρ (th ++ e)) P v := by
  obtain ⟨kd, ⟨f, j, z, k⟩, P2⟩ := P
  have hP : P2 = s_x0 := hP
  subst hP
  match f, h with
  | 0, h =>
    rw [s_m1_0] at h
    rw [Bool.and_eq_true, Bool.and_eq_true] at h
    obtain ⟨⟨h1, h2⟩, h3⟩ := h
    have h1 := s_beq h1
    have h2 := s_nb h2
    have h4 := s_vs_k hA (by rw [h1]; exact h2)
    rw [h1] at h4
    rw [Bool.and_eq_true] at h3
    have hz : s_ev ρ A.2.1 = z := by
      have h5 := h3.1
      cases hk : Nat.ble 10 kd with
      | true =>
        rw [hk, cond_true] at h5
        rw [s_xe_ok h5]
        rfl
      | false =>
        rw [hk, cond_false] at h5
        obtain ⟨a, b, h6, h7⟩ := s_xk_some h5
        rw [Bool.and_eq_true, i_beq_iff, i_beq_iff] at h7
        have := s_xi_ok hE h6
        omega
    refine ⟨[], by rw [List.append_nil]; exact h3.2, by rw [List.append_nil]; exact hT, s_vs_mk trivial h2 ?_⟩
    rw [hz] at h4
    exact h4
  | 1, h =>
    rw [s_m1_1] at h
    rw [Bool.and_eq_true, Bool.and_eq_true] at h
    obtain ⟨⟨h1, h2⟩, h3⟩ := h
    have h1 := s_beq h1
    have h2 := s_nb h2
    have h4 := s_vs_k hA (by rw [h1]; exact h2)
    rw [h1] at h4
    cases hj : Nat.blt j p with
    | true =>
      rw [hj, cond_true, Bool.and_eq_true] at h3
      have hj := s_blt hj
      refine ⟨[], by rw [List.append_nil]; exact h3.2, by rw [List.append_nil]; exact hT, s_vs_mk (show j < _ by omega) h2 ?_⟩
      show s_vk kd (s_r2 p ρ (th ++ []) j) v
      rw [s_r2_lt hj]
      rw [s_xe_ok h3.1] at h4
      exact h4
    | false =>
      rw [hj, cond_false] at h3
      have hj : ¬ j < p := fun hlt => by
        have : Nat.blt j p = true := by simpa [Nat.blt_eq] using hlt
        rw [this] at hj
        cases hj
      rw [q_nth_eq] at h3
      cases hq : th[j - p]? with
      | some e =>
        rw [hq] at h3
        simp only [Bool.and_eq_true] at h3
        have hlt := (List.getElem?_eq_some_iff.mp hq).1
        refine ⟨[], by rw [List.append_nil]; exact h3.2, by rw [List.append_nil]; exact hT, s_vs_mk (show j < _ by rw [List.append_nil]; omega) h2 ?_⟩
        show s_vk kd (s_r2 p ρ (th ++ []) j) v
        rw [List.append_nil, show j = p + (j - p) by omega, s_r2_ge hq]
        rw [s_xe_ok h3.1] at h4
        exact h4
      | none =>
        rw [hq] at h3
        simp only [Bool.and_eq_true] at h3
        obtain ⟨h5, h6⟩ := h3
        have h5 := s_beq h5
        cases hr : s_rg cenv j with
        | none => rw [hr] at h6; cases h6
        | some cd =>
          rw [hr] at h6
          obtain ⟨c, d⟩ := cd
          simp only at h6
          obtain ⟨a, b, h7, h8⟩ := s_xk_some h6
          simp only [Bool.and_eq_true, i_ble_iff, q_app_eq] at h8
          have h9 := s_xi_ok hE h7
          refine ⟨[A.2.1], h8.2, ?_, s_vs_mk (show j < _ by simp only [List.length_append, List.length_singleton]; omega) h2 ?_⟩
          · intro i x hx
            rcases Nat.lt_or_ge i th.length with hi | hi
            · rw [List.getElem?_append_left hi] at hx
              exact hT i x hx
            · have hi2 := (List.getElem?_eq_some_iff.mp hx).1
              simp only [List.length_append, List.length_singleton] at hi2
              have : i = th.length := by omega
              subst this
              simp only [List.getElem?_concat_length, Option.some.injEq] at hx
              subst hx
              refine ⟨hA.1, c, d, ?_, by omega, by omega⟩
              rw [← hr]
              congr 1
              omega
          · show s_vk kd (s_r2 p ρ (th ++ [A.2.1]) j) v
            rw [show j = p + th.length by omega, s_r2_ge (x := A.2.1) (by simp)]
            exact h4
  | f + 2, h => simp [s_m1] at h
theorem s_z0_ok {x : s_X} (h : s_z0 x = true) : x = s_x0 := by
  obtain ⟨f, j, z, k⟩ := x
  simp only [s_z0, Bool.and_eq_true, i_beq_iff] at h
  obtain ⟨⟨⟨h1, h2⟩, h3⟩, h4⟩ := h
  cases s_beq h1
  cases s_beq h2
  subst h3
  cases s_beq h4
  rfl
theorem s_ml_ok {p : Nat} {cenv : List s_R} (hE : s_ek ρ env) : ∀ {P A : List (Option s_S)} {cl : List (Option Value)} {th : List s_X} {K : List s_X → Bool}, s_ml p cenv env P A th K = true → s_zl P = true → s_ti p cenv env.length ρ th → s_lk env.length ρ A cl → ∃ e, K (th ++ e) = true ∧ s_ti p cenv env.length ρ (th ++ e) ∧ s_lk (p + (th ++ e).length) (s_r2 p ρ (th ++ e)) P cl
  | [], [], cl, th, K, h, _, hT, hl => ⟨[], by rw [List.append_nil]; exact h, by rw [List.append_nil]; exact hT, hl.1, fun i s hs => by cases hs⟩
  | none :: P, a :: A, [], th, K, h, hz, hT, hl => by have := hl.1; cases this
  | none :: P, a :: A, c :: cl, th, K, h, hz, hT, hl => by
    obtain ⟨e, h1, h2, h3⟩ := s_ml_ok (P := P) (A := A) (cl := cl) hE h hz hT ⟨by have := hl.1; simpa using this, fun i s hs => hl.2 (i + 1) s hs⟩
    refine ⟨e, h1, h2, by simp [h3.1], fun i s hs => ?_⟩
    cases i with
    | zero => cases hs
    | succ i => exact h3.2 i s hs
  | some s :: P, some a :: A, [], th, K, h, hz, hT, hl => by have := hl.1; cases this
  | some s :: P, some a :: A, c :: cl, th, K, h, hz, hT, hl => by
    rw [s_ml] at h
    rw [s_zl, Bool.and_eq_true] at hz
    obtain ⟨v, g1, g2⟩ := hl.2 0 a rfl
    obtain ⟨e1, h1, h2, h3⟩ := s_m1_ok h hE hT g2 (s_z0_ok hz.1)
    obtain ⟨e2, h4, h5, h6⟩ := s_ml_ok (cl := cl) hE h1 hz.2 h2 ⟨by have := hl.1; simpa using this, fun i s hs => hl.2 (i + 1) s hs⟩
    rw [List.append_assoc] at h4 h5 h6
    refine ⟨e1 ++ e2, h4, h5, by simp [h6.1], fun i s' hs => ?_⟩
    cases i with
    | zero =>
      cases hs
      refine ⟨v, g1, ?_⟩
      rw [← List.append_assoc]
      exact s_vs_ag h3 s_r2_ag (by simp only [List.length_append]; omega)
    | succ i => exact h6.2 i s' hs
  | [], _ :: _, _, _, _, h, _, _, _ => by cases h
  | _ :: _, [], _, _, _, h, _, _, _ => by simp [s_ml] at h
  | some _ :: _, none :: _, _, _, _, h, _, _, _ => by simp [s_ml] at h
theorem s_ms_ok {p : Nat} {cenv : List s_R} (hE : s_ek ρ env) : ∀ {P A : List s_S} {cs : List Value} {th : List s_X} {K : List s_X → Bool}, s_ms p cenv env P A th K = true → s_zs P = true → s_ti p cenv env.length ρ th → s_sk env.length ρ A cs → ∃ e, K (th ++ e) = true ∧ s_ti p cenv env.length ρ (th ++ e) ∧ s_sk (p + (th ++ e).length) (s_r2 p ρ (th ++ e)) P cs
  | [], [], [], th, K, h, _, hT, hl => ⟨[], by rw [List.append_nil]; exact h, by rw [List.append_nil]; exact hT, trivial⟩
  | s :: P, a :: A, v :: cs, th, K, h, hz, hT, hl => by
    rw [s_ms] at h
    rw [s_zs, Bool.and_eq_true] at hz
    obtain ⟨e1, h1, h2, h3⟩ := s_m1_ok h hE hT hl.1 (s_z0_ok hz.1)
    obtain ⟨e2, h4, h5, h6⟩ := s_ms_ok hE h1 hz.2 h2 hl.2
    rw [List.append_assoc] at h4 h5 h6
    refine ⟨e1 ++ e2, h4, h5, ?_, h6⟩
    rw [← List.append_assoc]
    exact s_vs_ag h3 s_r2_ag (by simp only [List.length_append]; omega)
  | [], _ :: _, _, _, _, h, _, _, _ => by cases h
  | _ :: _, [], _, _, _, h, _, _, _ => by cases h
  | _, [], _ :: _, _, _, _, _, _, h => h.elim
  | _, _ :: _, [], _, _, _, _, _, h => h.elim
theorem s_me_ok {p : Nat} {th : List s_X} {x : s_X} {K : s_X → Bool} (h : s_me p th x K = true) : ∃ e, K e = true ∧ s_xs (p + th.length) x ∧ s_ev (s_r2 p ρ th) x = s_ev ρ e := by
  obtain ⟨f, j, z, k⟩ := x
  match f, h with
  | 0, h => exact ⟨_, h, trivial, rfl⟩
  | 1, h =>
    have h : (bif Nat.blt j p then K (1, j, 0, 0) else s_ob (q_nth th (j - p)) K) = true := h
    cases hj : Nat.blt j p with
    | true =>
      rw [hj, cond_true] at h
      have hj := s_blt hj
      exact ⟨_, h, show j < _ by omega, s_r2_lt hj⟩
    | false =>
      rw [hj, cond_false] at h
      obtain ⟨e, h1, h2⟩ := s_ob_some h
      rw [q_nth_eq] at h1
      have hj : ¬ j < p := fun hlt => by
        have : Nat.blt j p = true := by simpa [Nat.blt_eq] using hlt
        rw [this] at hj
        cases hj
      have hlt := (List.getElem?_eq_some_iff.mp h1).1
      refine ⟨e, h2, show j < _ by omega, ?_⟩
      show s_r2 p ρ th j = s_ev ρ e
      rw [show j = p + (j - p) by omega, s_r2_ge h1]
  | f + 2, h => cases h
theorem s_mw_ok {p : Nat} {cenv : List s_R} (hE : s_ek ρ env) (hM : s_mk env.length ρ hp mm) : ∀ {P : List s_M} {th : List s_X} {K : List s_X → Bool}, s_mw p cenv env mm P th K = true → s_zm P = true → s_ti p cenv env.length ρ th → ∃ e, K (th ++ e) = true ∧ s_ti p cenv env.length ρ (th ++ e) ∧ s_mk (p + (th ++ e).length) (s_r2 p ρ (th ++ e)) hp P
  | [], th, K, h, _, hT => ⟨[], by rw [List.append_nil]; exact h, by rw [List.append_nil]; exact hT, fun w hw => by cases hw⟩
  | (t, x, pl, s) :: P, th, K, h, hz, hT => by
    rw [s_mw] at h
    rw [s_zm, Bool.and_eq_true] at hz
    obtain ⟨e, h1, h2, h3⟩ := s_me_ok (ρ := ρ) h
    obtain ⟨a, h4, h5⟩ := s_ob_some h1
    obtain ⟨g1, c, d, v, g2, g3, g4, g5, g6⟩ := hM _ (s_mg_some h4)
    obtain ⟨e1, k1, k2, k3⟩ := s_m1_ok h5 hE hT g6 (s_z0_ok hz.1)
    obtain ⟨e2, k4, k5, k6⟩ := s_mw_ok hE hM k1 hz.2 k2
    rw [List.append_assoc] at k4 k5 k6
    refine ⟨e1 ++ e2, k4, k5, fun w hw => ?_⟩
    rcases List.mem_cons.mp hw with rfl | hw
    · have ha : s_ag (p + th.length) (s_r2 p ρ th) (s_r2 p ρ (th ++ (e1 ++ e2))) := s_r2_ag
      refine ⟨s_xs_mono h2 (by simp only [List.length_append]; omega), c, d, v, ?_, g3, g4, g5, ?_⟩
      · show s_ev (s_r2 p ρ (th ++ (e1 ++ e2))) x = (c : Int)
        rw [s_ev_ag h2 ha, h3]
        exact g2
      · rw [← List.append_assoc]
        exact s_vs_ag k3 s_r2_ag (by simp only [List.length_append]; omega)
    · exact k6 w hw
theorem s_m0_ok {p : Nat} {cenv : List s_R} (hE : s_ek ρ env) (h : s_m0 p cenv env = true) : ∀ j, j < p → ∃ c d, s_rg cenv j = some (c, d) ∧ c ≤ ρ j ∧ ρ j ≤ d := by
  induction p with
  | zero => intro j hj; exact absurd hj (Nat.not_lt_zero j)
  | succ p ih =>
    have h := Bool.and_eq_true_iff.mp h
    intro j hj
    rcases Nat.lt_succ_iff_lt_or_eq.mp hj with hl | rfl
    · exact ih h.1 j hl
    · have h2 := h.2
      cases hc : s_rg cenv j with
      | none => rw [hc] at h2; cases h2
      | some cd =>
        rw [hc] at h2
        obtain ⟨c, d⟩ := cd
        simp only at h2
        cases ha : s_rg env j with
        | none => rw [ha] at h2; cases h2
        | some ab =>
          rw [ha] at h2
          obtain ⟨a, b⟩ := ab
          simp only [Bool.and_eq_true, i_ble_iff] at h2
          have := s_rg_ok hE ha
          exact ⟨c, d, rfl, by omega, by omega⟩
theorem s_m9_ok : ∀ {env : List s_R}, s_m9 env = true → ∀ (j : Nat) (r : s_R), env[j]? = some r → r.1 = 0
  | [], _, j, r, h => by cases h
  | (f, q) :: l, h, j, r, hj => by
    rw [s_m9, Bool.and_eq_true] at h
    cases j with
    | zero => cases hj; exact s_beq h.1
    | succ j => exact s_m9_ok h.2 j r hj
/-- a sum of multiples of expressions -/
def s_sum (ρ : Nat → Int) : List (Int × s_X) → Int
  | [] => 0
  | (w, x) :: l => w * s_ev ρ x + s_sum ρ l
theorem s_sum_app (ρ : Nat → Int) : ∀ (A B : List (Int × s_X)), s_sum ρ (A ++ B) = s_sum ρ A + s_sum ρ B
  | [], B => (Int.zero_add _).symm
  | (w, x) :: A, B => by rw [List.cons_append, s_sum, s_sum, s_sum_app ρ A B, Int.add_assoc]
theorem s_sum_neg (ρ : Nat → Int) : ∀ (A : List (Int × s_X)), s_sum ρ (s_wn A) = - s_sum ρ A
  | [] => rfl
  | (w, x) :: A => by rw [s_wn, s_sum, s_sum, s_sum_neg ρ A, Int.neg_add, Int.neg_mul]
theorem s_lb_ok (hE : s_ek ρ env) : ∀ {L : List (Int × s_X)} {r : Int}, s_lb env L = some r → r ≤ s_sum ρ L
  | [], r, h => by cases h; exact Int.le_refl _
  | (w, x) :: l, r, h => by
    rw [s_lb] at h
    cases hx : s_xi env x with
    | none => rw [hx] at h; cases h
    | some ab =>
      rw [hx] at h
      obtain ⟨a, b⟩ := ab
      simp only at h
      cases hl : s_lb env l with
      | none => rw [hl] at h; cases h
      | some q =>
        rw [hl] at h
        cases h
        have h1 := s_xi_ok hE hx
        have h2 := s_lb_ok hE hl
        rw [s_sum]
        cases hw : i_ble 0 w with
        | true =>
          rw [i_ble_iff] at hw
          have := Int.mul_le_mul_of_nonneg_left h1.1 hw
          show w * a + q ≤ _
          omega
        | false =>
          have hw : ¬ 0 ≤ w := fun hh => by rw [i_ble_iff.mpr hh] at hw; cases hw
          have := Int.mul_le_mul_of_nonpos_left (show w ≤ 0 by omega) h1.2.1
          show w * b + q ≤ _
          omega
theorem s_lb2 (hE : s_ek ρ env) {A B : List (Int × s_X)} {r : Int} (h : s_lb env (A ++ s_wn B) = some r) : r ≤ s_sum ρ A - s_sum ρ B := by
  have := s_lb_ok hE h
  rw [s_sum_app, s_sum_neg] at this
  omega
theorem s_va_ev {x : s_X} {j : Nat} {z : Int} (h : s_va x = some (j, z)) : s_ev ρ x = ρ j + z := by
  obtain ⟨f, i, w, k⟩ := x
  match f, h with
  | 1, h =>
    simp only [s_va, Option.some.injEq, Prod.mk.injEq] at h
    obtain ⟨rfl, rfl⟩ := h
    exact (Int.add_zero _).symm
  | 2, h =>
    simp only [s_va, Option.some.injEq, Prod.mk.injEq] at h
    obtain ⟨rfl, rfl⟩ := h
    rfl
  | 0, h => simp [s_va] at h
  | f + 3, h => simp [s_va] at h
theorem s_rk_ok (hE : s_ek ρ env) : ∀ {A B : List (Int × s_X)} {r : Int}, s_rk env A B = some r → r ≤ s_sum ρ A - s_sum ρ B
  | [], [], r, h => s_lb2 (A := []) (B := []) hE h
  | [], b :: B, r, h => s_lb2 (A := []) (B := b :: B) hE h
  | (w, x) :: A, [], r, h => s_lb2 (A := (w, x) :: A) (B := []) hE h
  | (w, x) :: A, (w', x') :: B, r, h => by
    rw [s_rk] at h
    split at h
    · rename_i j y hx
      split at h
      · rename_i j' y' hx'
        cases hc : (Nat.beq j j' && i_beq w w') with
        | false => rw [hc, cond_false] at h; exact s_lb2 hE h
        | true =>
          rw [hc, cond_true] at h
          rw [Bool.and_eq_true, i_beq_iff] at hc
          cases hr : s_rk env A B with
          | none => rw [hr] at h; cases h
          | some q =>
            rw [hr] at h
            cases h
            have h1 := s_rk_ok hE hr
            have e1 : s_ev ρ x = ρ j + y := s_va_ev hx
            have e2 : s_ev ρ x' = ρ j' + y' := s_va_ev hx'
            have e3 := s_beq hc.1
            have e4 := hc.2
            subst e3 e4
            rw [s_sum, s_sum, e1, e2]
            have e5 : w * (ρ j + y) - w * (ρ j + y') = w * (y - y') := by
              rw [← Int.mul_sub]
              congr 1
              omega
            omega
      · exact s_lb2 hE h
    · exact s_lb2 hE h
end s_gos

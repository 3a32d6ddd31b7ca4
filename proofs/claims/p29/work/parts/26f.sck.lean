theorem s_lb_lt {env : List s_R} : ∀ {W : List (Int × Nat)} {r : Int}, s_lb env (s_wv W) = some r → ∀ w ∈ W, w.2 < env.length
  | [], _, _, w, hw => by cases hw
  | (w, j) :: W, r, h, u, hu => by
    rw [s_wv, s_lb] at h
    cases hx : s_xi env (1, j, 0, 0) with
    | none => rw [hx] at h; cases h
    | some ab =>
      rw [hx] at h
      obtain ⟨a, b⟩ := ab
      simp only at h
      cases hl : s_lb env (s_wv W) with
      | none => rw [hl] at h; cases h
      | some q =>
        rcases List.mem_cons.mp hu with rfl | hu
        · have hx : s_rg env j = some (a, b) := hx
          obtain ⟨-, -, -, -, h1⟩ := s_rg_some hx
          exact h1
        · exact s_lb_lt hl u hu
theorem s_cks_ok {sm : Nat → List s_U} {ins : Nat → Option q_MI} {dp p : Nat} {mask : List Nat} {os : List s_O} {cuts : List s_C} {spl : List s_Y} : ∀ {l : List s_C}, s_cks sm ins dp p mask os cuts spl l = true → ∀ C ∈ l, s_cgood p C ∧ s_go sm ins dp p mask os cuts spl C.2.2.2.2.2.1 C.2.2.2.2.2.2 3000 0 C.1 C.2.1 C.2.2.1 C.2.2.2.1 C.2.2.2.2.1 = true
  | [], _, C, hC => by cases hC
  | (pc, env, lo, st, mm, a, W) :: l, h, C, hC => by
    rw [s_cks] at h
    simp only [Bool.and_eq_true] at h
    obtain ⟨⟨⟨⟨⟨⟨⟨h1, h2⟩, h3⟩, h4⟩, h5⟩, h6⟩, h7⟩, h8⟩ := h
    rcases List.mem_cons.mp hC with rfl | hC
    · cases hl : s_lb env (s_wv W) with
      | none => rw [hl] at h6; cases h6
      | some r =>
        rw [hl] at h6
        simp only [i_ble_iff] at h6
        exact ⟨⟨h1, h2, h3, h4, s_ble h5, r, hl, h6⟩, h7⟩
    · exact s_cks_ok h8 C hC
theorem s_env1_get : ∀ (qs : List s_Q) (i : Nat), (s_env1 qs)[i]? = (qs[i]?).map fun q => (0, q.2.1, q.2.2, 0, 0, 0)
  | [], i => by rfl
  | q :: qs, 0 => rfl
  | q :: qs, i + 1 => by rw [s_env1, List.getElem?_cons_succ, List.getElem?_cons_succ]; exact s_env1_get qs i
theorem s_env1_len : ∀ (qs : List s_Q), (s_env1 qs).length = qs.length
  | [] => rfl
  | q :: qs => by rw [s_env1, List.length_cons, List.length_cons, s_env1_len qs]
theorem s_env2_get : ∀ (qs : List (Nat × Nat × Nat × s_Q)) (i : Nat), (s_env2 qs)[i]? = (qs[i]?).map fun q => (0, q.2.2.2.2.1, q.2.2.2.2.2, 0, 0, 0)
  | [], i => by rfl
  | q :: qs, 0 => rfl
  | (t, c, p, q) :: qs, i + 1 => by rw [s_env2, List.getElem?_cons_succ, List.getElem?_cons_succ]; exact s_env2_get qs i
theorem s_env2_len : ∀ (qs : List (Nat × Nat × Nat × s_Q)), (s_env2 qs).length = qs.length
  | [] => rfl
  | (t, c, p, q) :: qs => by rw [s_env2, List.length_cons, List.length_cons, s_env2_len qs]
theorem s_sy_ok {n i : Nat} {ρ : Nat → Int} {q : s_Q} {v : Value} (hi : i < n) (h : s_vk q.1 (ρ i) v) (h1 : q.2.1 ≤ ρ i) (h2 : ρ i ≤ q.2.2) : s_vs n ρ (s_sy q i) v := by
  unfold s_sy
  cases hb : i_beq q.2.1 q.2.2 with
  | true =>
    rw [i_beq_iff] at hb
    have : ρ i = q.2.1 := by omega
    rw [this] at h
    exact s_vs_mk trivial (s_vk5 h) h
  | false => exact s_vs_mk hi (s_vk5 h) h
theorem s_vk_k2 {kd : Nat} {z : Int} {v : Value} (h : s_vk kd z v) : q_ty v = s_k2 kd := by
  have h1 : s_vs 0 (fun _ => 0) (kd, (0, 0, z, 0), s_x0) v := s_vs_mk trivial (s_vk5 h) h
  exact s_k2_ok h1
theorem s_lo1_ok {n : Nat} {ρ : Nat → Int} : ∀ {qs : List s_Q} {as : List Value} {i : Nat}, as.length = qs.length → i + qs.length ≤ n → (∀ (k : Nat) (q : s_Q), qs[k]? = some q → ∃ v, as[k]? = some v ∧ s_vk q.1 (ρ (i + k)) v ∧ q.2.1 ≤ ρ (i + k) ∧ ρ (i + k) ≤ q.2.2) → (s_lo1 qs i).length = q_cats q_ty as ∧ ∀ (j : Nat) (s : s_S), (s_lo1 qs i)[j]? = some (some s) → ∃ v, (q_ent q_ty as)[j]? = some (some v) ∧ s_vs n ρ s v
  | [], [], i, _, _, _ => ⟨rfl, fun j s h => by cases h⟩
  | [], _ :: _, i, h, _, _ => by cases h
  | _ :: _, [], i, h, _, _ => by cases h
  | q :: qs, a :: as, i, hl, hn, h => by
    obtain ⟨v, h1, h2, h3, h4⟩ := h 0 q rfl
    cases h1
    obtain ⟨e1, e2⟩ := s_lo1_ok (n := n) (ρ := ρ) (qs := qs) (as := as) (i := i + 1) (by simpa using hl) (by simp only [List.length_cons] at hn; omega) (fun k q' hq => by
      have := h (k + 1) q' hq
      rwa [show i + (k + 1) = i + 1 + k by omega] at this)
    have hk := s_vk_k2 h2
    have hs : s_vs n ρ (s_sy q i) a := s_sy_ok (by simp only [List.length_cons] at hn; omega) h2 h3 h4
    cases hb : Nat.beq (s_k2 q.1) 1 with
    | true =>
      refine ⟨?_, fun j s hs' => ?_⟩
      · rw [s_lo1, hb, q_cats, hk, hb]
        simp only [cond_true, List.length_cons, e1]
        omega
      · rw [s_lo1, hb, cond_true] at hs'
        rw [q_ent, hk, hb, cond_true]
        match j, hs' with
        | 0, hs' => cases hs'; exact ⟨a, rfl, hs⟩
        | 1, hs' => cases hs'
        | j + 2, hs' => exact e2 j s hs'
    | false =>
      refine ⟨?_, fun j s hs' => ?_⟩
      · rw [s_lo1, hb, q_cats, hk, hb]
        simp only [cond_false, List.length_cons, e1]
        omega
      · rw [s_lo1, hb, cond_false] at hs'
        rw [q_ent, hk, hb, cond_false]
        match j, hs' with
        | 0, hs' => cases hs'; exact ⟨a, rfl, hs⟩
        | j + 1, hs' => exact e2 j s hs'
theorem s_fill_len {A : Type} : ∀ (n : Nat) (l : List (Option A)), (q_fill n l).length = n
  | 0, _ => by simp [q_fill]
  | n + 1, [] => by rw [q_fill, List.length_cons, s_fill_len n]
  | n + 1, a :: l => by rw [q_fill, List.length_cons, s_fill_len n]
theorem s_fill_put {A : Type} : ∀ (n : Nat) (l : List (Option A)) (j : Nat) (a : A), j < n → l[j]? = some (some a) → (q_fill n l)[j]? = some (some a)
  | 0, _, j, _, h, _ => absurd h (Nat.not_lt_zero j)
  | n + 1, [], j, a, _, h => by cases h
  | n + 1, b :: l, 0, a, _, h => by rw [q_fill]; exact h
  | n + 1, b :: l, j + 1, a, hj, h => by rw [q_fill, List.getElem?_cons_succ]; exact s_fill_put n l j a (by omega) h
theorem s_mm1_ok {n : Nat} {ρ : Nat → Int} {hp : q_H} : ∀ {ps : List (Nat × Nat × Nat × s_Q)} {i : Nat}, i + ps.length ≤ n → (∀ (k t c p : Nat) (q : s_Q), ps[k]? = some (t, c, p, q) → s_ct[c]? = some t ∧ ∃ (d : Nat × List Value) (v : Value), hp[c]? = some d ∧ d.2[p]? = some v ∧ s_vk q.1 (ρ (i + k)) v ∧ q.2.1 ≤ ρ (i + k) ∧ ρ (i + k) ≤ q.2.2) → s_mk n ρ hp (s_mm1 ps i)
  | [], i, _, _ => fun w hw => by cases hw
  | (t, c, p, q) :: ps, i, hn, h => by
    intro w hw
    rw [s_mm1] at hw
    rcases List.mem_cons.mp hw with rfl | hw
    · obtain ⟨h1, d, v, h2, h3, h4, h5, h6⟩ := h 0 t c p q rfl
      exact ⟨trivial, c, d, v, rfl, h1, h2, h3, s_sy_ok (by simp only [List.length_cons] at hn; omega) h4 h5 h6⟩
    · refine s_mm1_ok (ps := ps) (i := i + 1) (by simp only [List.length_cons] at hn; omega) (fun k t c p q hq => ?_) w hw
      have := h (k + 1) t c p q hq
      rwa [show i + (k + 1) = i + 1 + k by omega] at this
theorem s_ck_ok {sm : Nat → List s_U} {i : s_I} {d : Nat} (h : s_ck sm i = true) (hd : i.1.2.1 ≤ d) (hU : ∀ x, ∀ U ∈ sm x, U.2.1 < i.1.2.1 → U.1 = x ∧ s_holds (q_run q_CO q_I 1000000 (d - 1)) U) : s_holds (q_run q_CO q_I 1000000 d) i.1 := by
  obtain ⟨⟨k, dp, qs, ps, mask, os⟩, cuts, spl, a0⟩ := i
  intro ρ as hp H hpre
  obtain ⟨p1, p2, p3⟩ := hpre
  simp only at p1 p2 p3 hd hU
  have h : (match q_I k with
    | (mx, ins) => Nat.blt k q_nm && Nat.blt 0 dp && Nat.ble (s_lo1 qs 0).length mx && i_ble a0 1000000 && s_go sm ins dp (qs.length + ps.length) mask os cuts spl a0 [] 3000 0 0 (s_env1 qs ++ s_env2 ps) (q_fill mx (s_lo1 qs 0)) [] (s_mm1 ps qs.length) && s_cks sm ins dp (qs.length + ps.length) mask os cuts spl cuts) = true := h
  cases hI : q_I k with
  | mk mx ins =>
    rw [hI] at h
    simp only [Bool.and_eq_true, i_ble_iff] at h
    obtain ⟨⟨⟨⟨⟨h1, h2⟩, h3⟩, h4⟩, h5⟩, h6⟩ := h
    have h2 := s_blt h2
    have h3 := s_ble h3
    obtain ⟨d', rfl⟩ : ∃ d', d = d' + 1 := ⟨d - 1, by omega⟩
    rw [Nat.add_sub_cancel] at hU
    have hlen : (s_env1 qs ++ s_env2 ps).length = qs.length + ps.length := by rw [List.length_append, s_env1_len, s_env2_len]
    obtain ⟨e1, e2⟩ := s_lo1_ok (n := (s_env1 qs ++ s_env2 ps).length) (ρ := ρ) (qs := qs) (as := as) (i := 0) p1 (by omega) (fun k q hq => by rw [Nat.zero_add]; exact p2 k q hq)
    have G : s_g ρ (s_env1 qs ++ s_env2 ps) (q_fill mx (s_lo1 qs 0)) [] (s_mm1 ps qs.length) (q_fill mx (q_ent q_ty as)) [] hp := by
      refine ⟨?_, ⟨by rw [s_fill_len, s_fill_len], fun j s hs => ?_⟩, trivial, s_mm1_ok (by omega) p3⟩
      · intro j r hr
        rcases Nat.lt_or_ge j qs.length with hj | hj
        · rw [List.getElem?_append_left (by rw [s_env1_len]; exact hj), s_env1_get, List.getElem?_eq_getElem hj] at hr
          cases hr
          obtain ⟨v, -, -, g1, g2⟩ := p2 j _ (List.getElem?_eq_getElem hj)
          exact ⟨g1, g2, fun h0 => by cases h0⟩
        · rw [List.getElem?_append_right (by rw [s_env1_len]; exact hj), s_env1_len, s_env2_get] at hr
          cases hq : ps[j - qs.length]? with
          | none => rw [hq] at hr; cases hr
          | some w =>
            rw [hq] at hr
            cases hr
            obtain ⟨t, c, p, q⟩ := w
            obtain ⟨-, d, v, -, -, -, g1, g2⟩ := p3 _ t c p q hq
            rw [show qs.length + (j - qs.length) = j by omega] at g1 g2
            exact ⟨g1, g2, fun h0 => by cases h0⟩
      · have hj := (List.getElem?_eq_some_iff.mp hs).1
        rw [s_fill_len] at hj
        obtain ⟨v, g1, g2⟩ := e2 j s (q_fill_get _ _ _ _ hs)
        exact ⟨v, s_fill_put _ _ _ _ hj g1, g2⟩
    have hC := s_cks_ok h6
    have hfr : dp ≤ d' + 1 := hd
    obtain ⟨m, hcase⟩ := s_go_ok (cal := q_run q_CO q_I 1000000 d') (fr := d') (n0 := qs.length + ps.length) hfr hU (fun C hm => (hC C hm).1) (fun w hw => by cases hw) (Nat.le_refl _) 3000 0 0 ρ _ _ _ _ _ _ hp h5 G H (by omega)
    have hrun : q_run q_CO q_I 1000000 (d' + 1) k as hp = q_steps q_CO ins (q_run q_CO q_I 1000000 d') d' 1000000 0 (q_fill mx (q_ent q_ty as)) [] hp := by
      rw [q_run_succ, hI]
      show q_gd (Nat.ble (q_cats q_ty as) mx) (q_frc (q_fill mx (q_ent q_ty as)) fun lo => q_steps q_CO ins (q_run q_CO q_I 1000000 d') d' 1000000 0 lo [] hp) = _
      rw [← e1, Nat.ble_eq_true_of_le h3, q_frc_eq]
      rfl
    show ∃ r, q_run q_CO q_I 1000000 (d' + 1) k as hp = some r ∧ s_good ρ (qs.length + ps.length) mask os hp r
    rw [hrun]
    have hr0 : s_rank ρ a0 [] = a0 := by unfold s_rank; rw [s_wv, s_sum]; omega
    rcases hcase with ⟨m1, R, m2, m3⟩ | ⟨m0, D, m1, ρ', cl', cs', hp', m2, m3, m4, m5, m6, m7⟩
    · refine ⟨R, ?_, m3⟩
      rw [hr0] at m1
      have h9 := m2 (1000000 - (m + 1))
      rwa [show (1000000 - (m + 1)) + m + 1 = 1000000 by omega] at h9
    · have h0 := s_rank_ge (hC D m1).1 m2.1
      rw [hr0] at m6
      obtain ⟨R, r1, r2, r3, o, r4, r5⟩ := s_cuts_ok (cal := q_run q_CO q_I 1000000 d') (fr := d') hfr hU (fun C hm => (hC C hm).1) (fun C hm => by
        obtain ⟨-, -, -, -, -, r, g1, -⟩ := (hC C hm).1
        exact s_lb_lt g1) (fun C hm => (hC C hm).2) (1000000 - m) D m1 ρ' cl' cs' hp' m2 m3 (by omega)
      refine ⟨R, ?_, r2, m4.trans r3, o, r4, s_eo_ag m5 r5⟩
      have h9 := m7 (1000000 - m)
      rw [show (1000000 - m) + m = 1000000 by omega] at h9
      exact h9.trans r1
/-- all that is in the table holds, with frames enough -/
theorem s_tab_ok {sm : Nat → List s_U} (hsm : ∀ x, ∀ U ∈ sm x, U.1 = x ∧ ((∃ i : s_I, i.1 = U ∧ s_ck sm i = true) ∨ ∀ d, U.2.1 ≤ d → s_holds (q_run q_CO q_I 1000000 d) U)) : ∀ (d x : Nat) (U : s_U), U ∈ sm x → U.2.1 ≤ d → s_holds (q_run q_CO q_I 1000000 d) U := by
  intro d
  induction d with
  | zero =>
    intro x U hU hd
    obtain ⟨-, ⟨i, rfl, h⟩ | h⟩ := hsm x U hU
    · exact s_ck_ok h hd fun y V hV hlt => by omega
    · exact h 0 hd
  | succ d ih =>
    intro x U hU hd
    obtain ⟨-, ⟨i, rfl, h⟩ | h⟩ := hsm x U hU
    · refine s_ck_ok h hd fun y V hV hlt => ⟨(hsm y V hV).1, ?_⟩
      rw [Nat.add_sub_cancel]
      exact ih y V hV (by omega)
    · exact h _ hd
/-- a long check in pieces -/
noncomputable def s_cki (sm : Nat → List s_U) (i : s_I) (l : List s_C) : Bool := match i with
  | ((k, dp, qs, ps, mask, os), cuts, spl, _) => match q_I k with
    | (_, ins) => s_cks sm ins dp (qs.length + ps.length) mask os cuts spl l
noncomputable def s_cke (sm : Nat → List s_U) (i : s_I) : Bool := match i with
  | ((k, dp, qs, ps, mask, os), cuts, spl, a0) => match q_I k with
    | (mx, ins) => Nat.blt k q_nm && Nat.blt 0 dp && Nat.ble (s_lo1 qs 0).length mx && i_ble a0 1000000 && s_go sm ins dp (qs.length + ps.length) mask os cuts spl a0 [] 3000 0 0 (s_env1 qs ++ s_env2 ps) (q_fill mx (s_lo1 qs 0)) [] (s_mm1 ps qs.length)
theorem s_ck_of {sm : Nat → List s_U} {i : s_I} (h1 : s_cke sm i = true) (h2 : s_cki sm i i.2.1 = true) : s_ck sm i = true := by
  obtain ⟨⟨k, dp, qs, ps, mask, os⟩, cuts, spl, a0⟩ := i
  show (match q_I k with
    | (mx, ins) => Nat.blt k q_nm && Nat.blt 0 dp && Nat.ble (s_lo1 qs 0).length mx && i_ble a0 1000000 && s_go sm ins dp (qs.length + ps.length) mask os cuts spl a0 [] 3000 0 0 (s_env1 qs ++ s_env2 ps) (q_fill mx (s_lo1 qs 0)) [] (s_mm1 ps qs.length) && s_cks sm ins dp (qs.length + ps.length) mask os cuts spl cuts) = true
  have h1 : (match q_I k with
    | (mx, ins) => Nat.blt k q_nm && Nat.blt 0 dp && Nat.ble (s_lo1 qs 0).length mx && i_ble a0 1000000 && s_go sm ins dp (qs.length + ps.length) mask os cuts spl a0 [] 3000 0 0 (s_env1 qs ++ s_env2 ps) (q_fill mx (s_lo1 qs 0)) [] (s_mm1 ps qs.length)) = true := h1
  have h2 : (match q_I k with
    | (_, ins) => s_cks sm ins dp (qs.length + ps.length) mask os cuts spl cuts) = true := h2
  cases hI : q_I k with
  | mk mx ins =>
    rw [hI] at h1 h2
    exact Bool.and_eq_true_iff.mpr ⟨h1, h2⟩
theorem s_cks_app {sm : Nat → List s_U} {ins : Nat → Option q_MI} {dp p : Nat} {mask : List Nat} {os : List s_O} {cuts : List s_C} {spl : List s_Y} {m : List s_C} (hm : s_cks sm ins dp p mask os cuts spl m = true) : ∀ {l : List s_C}, s_cks sm ins dp p mask os cuts spl l = true → s_cks sm ins dp p mask os cuts spl (l ++ m) = true
  | [], _ => hm
  | (pc, env, lo, st, mm, a, W) :: l, h => by
    rw [s_cks, Bool.and_eq_true] at h
    rw [List.cons_append, s_cks, Bool.and_eq_true]
    exact ⟨h.1, s_cks_app hm h.2⟩
theorem s_cki_app {sm : Nat → List s_U} {i : s_I} {l m : List s_C} (hl : s_cki sm i l = true) (hm : s_cki sm i m = true) : s_cki sm i (l ++ m) = true := by
  obtain ⟨⟨k, dp, qs, ps, mask, os⟩, cuts, spl, a0⟩ := i
  have hl : (match q_I k with
    | (_, ins) => s_cks sm ins dp (qs.length + ps.length) mask os cuts spl l) = true := hl
  have hm : (match q_I k with
    | (_, ins) => s_cks sm ins dp (qs.length + ps.length) mask os cuts spl m) = true := hm
  show (match q_I k with
    | (_, ins) => s_cks sm ins dp (qs.length + ps.length) mask os cuts spl (l ++ m)) = true
  cases hI : q_I k with
  | mk mx ins =>
    rw [hI] at hl hm
    exact s_cks_app hm hl

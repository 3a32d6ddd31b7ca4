theorem s_vk5 {kd : Nat} {z : Int} {v : Value} (h : s_vk kd z v) : kd ≠ 5 := by
  cases v with
  | int x => have := h.1; omega
  | long x => have := h.1; omega
  | float x => have := h.1; omega
  | ref c => obtain ⟨t, h1, -⟩ := h; omega
  | _ => exact h.elim
def s_pat (ρ : Nat → Int) (n : Nat) (P : s_P) (v : Value) : Prop := ∃ z, s_vk P.1 z v ∧ (if P.2.1 = 1 then P.2.2.1 < n ∧ z = ρ P.2.2.1 else P.2.2.2.1 ≤ z ∧ z ≤ P.2.2.2.2)
def s_rtn (ρ : Nat → Int) (n : Nat) (o : Option s_P) (r : Option Value) : Prop := match o, r with
  | none, none => True
  | some P, some v => s_pat ρ n P v
  | _, _ => False
/-- a run ended so -/
def s_eo (ρ : Nat → Int) (n : Nat) (o : s_O) (r : q_R Value q_H) : Prop := o.1.length = n ∧ (∀ (j : Nat) (a b : Int), o.1[j]? = some (a, b) → a ≤ ρ j ∧ ρ j ≤ b) ∧ s_rtn ρ n o.2.1 r.1 ∧ ∀ (t c p : Nat) (P : s_P), (t, c, p, P) ∈ o.2.2 → s_ct[c]? = some t ∧ ∃ (d : Nat × List Value) (v : Value), r.2[c]? = some d ∧ d.2[p]? = some v ∧ s_pat ρ n P v
def s_pre (ρ : Nat → Int) (qs : List s_Q) (ps : List (Nat × Nat × Nat × s_Q)) (as : List Value) (hp : q_H) : Prop := as.length = qs.length ∧ (∀ (i : Nat) (q : s_Q), qs[i]? = some q → ∃ v, as[i]? = some v ∧ s_vk q.1 (ρ i) v ∧ q.2.1 ≤ ρ i ∧ ρ i ≤ q.2.2) ∧ ∀ (i t c p : Nat) (q : s_Q), ps[i]? = some (t, c, p, q) → s_ct[c]? = some t ∧ ∃ (d : Nat × List Value) (v : Value), hp[c]? = some d ∧ d.2[p]? = some v ∧ s_vk q.1 (ρ (qs.length + i)) v ∧ q.2.1 ≤ ρ (qs.length + i) ∧ ρ (qs.length + i) ≤ q.2.2
def s_good (ρ : Nat → Int) (n : Nat) (mask : List Nat) (os : List s_O) (hp : q_H) (r : q_R Value q_H) : Prop := s_hok r.2 ∧ s_fm mask hp r.2 ∧ ∃ o ∈ os, s_eo ρ n o r
def s_holds (cal : Nat → List Value → q_H → Option (q_R Value q_H)) (U : s_U) : Prop := ∀ (ρ : Nat → Int) (as : List Value) (hp : q_H), s_hok hp → s_pre ρ U.2.2.1 U.2.2.2.1 as hp → ∃ r, cal U.1 as hp = some r ∧ s_good ρ (U.2.2.1.length + U.2.2.2.1.length) U.2.2.2.2.1 U.2.2.2.2.2 hp r
section s_calls
variable {cal : Nat → List Value → q_H → Option (q_R Value q_H)} {fr : Nat} {mi : q_MI} {mask : List Nat} {ρ : Nat → Int} {env : List s_R} {lo : List (Option s_S)} {st : List s_S} {mm : List s_M} {cl cl0 : List (Option Value)} {cs cs0 : List Value} {hp hp0 : q_H} {K : s_KK} {nx : Nat} {r : Value}
theorem s_nb {a : Nat} (h : (!Nat.beq a 5) = true) : a ≠ 5 := by
  rintro rfl
  cases h
theorem s_am_ok {n : Nat} (hE : s_ek ρ env) : ∀ {qs : List s_Q} {as : List s_S} {vs : List Value}, s_am env qs as = true → s_sk n ρ as vs → vs.length = qs.length ∧ as.length = qs.length ∧ ∀ (i : Nat) (q : s_Q), qs[i]? = some q → ∃ s v, as[i]? = some s ∧ vs[i]? = some v ∧ s_vk q.1 (s_ev ρ s.2.1) v ∧ q.2.1 ≤ s_ev ρ s.2.1 ∧ s_ev ρ s.2.1 ≤ q.2.2 ∧ s_xs n s.2.1
  | [], [], [], _, _ => ⟨rfl, rfl, fun i q h => by cases h⟩
  | q :: qs, s :: as, v :: vs, h, hs => by
    rw [s_am] at h
    simp only [Bool.and_eq_true] at h
    obtain ⟨⟨⟨h1, h2⟩, h3⟩, h4⟩ := h
    obtain ⟨e1, e2, e3⟩ := s_am_ok hE h4 hs.2
    refine ⟨by simp [e1], by simp [e2], fun i q' hq => ?_⟩
    cases i with
    | zero =>
      cases hq
      obtain ⟨a, b, h5, h6⟩ := s_xk_some h3
      rw [Bool.and_eq_true, i_ble_iff, i_ble_iff] at h6
      have h7 := s_xi_ok hE h5
      have h1 := s_beq h1
      have h8 := s_vs_k hs.1 (by rw [h1]; exact s_nb h2)
      rw [h1] at h8
      exact ⟨s, v, rfl, rfl, h8, by omega, by omega, hs.1.1⟩
    | succ i => exact e3 i q' hq
  | [], _ :: _, _, h, _ => by cases h
  | _ :: _, [], _, h, _ => by cases h
  | _, [], _ :: _, _, h => h.elim
  | _, _ :: _, [], _, h => h.elim
theorem s_th1_get : ∀ (as : List s_S) (i : Nat), (s_th1 as)[i]? = (as[i]?).map fun s => s.2.1
  | [], i => by rfl
  | s :: as, 0 => rfl
  | s :: as, i + 1 => by rw [s_th1, List.getElem?_cons_succ, List.getElem?_cons_succ]; exact s_th1_get as i
theorem s_th1_len : ∀ (as : List s_S), (s_th1 as).length = as.length
  | [] => rfl
  | s :: as => by rw [s_th1, List.length_cons, List.length_cons, s_th1_len as]
theorem s_th2_len {mm : List s_M} : ∀ (ps : List (Nat × Nat × Nat × s_Q)), (s_th2 mm ps).length = ps.length
  | [] => rfl
  | (t, c, p, q) :: ps => by rw [s_th2, List.length_cons, List.length_cons, s_th2_len ps]
theorem s_pm_ok {n : Nat} (hE : s_ek ρ env) (hM : s_mk n ρ hp mm) : ∀ {ps : List (Nat × Nat × Nat × s_Q)}, s_pm env mm ps = true → ∀ (i t c p : Nat) (q : s_Q), ps[i]? = some (t, c, p, q) → ∃ x, (s_th2 mm ps)[i]? = some x ∧ s_xs n x ∧ s_ct[c]? = some t ∧ ∃ (d : Nat × List Value) (v : Value), hp[c]? = some d ∧ d.2[p]? = some v ∧ s_vk q.1 (s_ev ρ x) v ∧ q.2.1 ≤ s_ev ρ x ∧ s_ev ρ x ≤ q.2.2
  | [], _, i, t, c, p, q, h => by cases h
  | (t', c', p', q') :: ps, h, i, t, c, p, q, hi => by
    rw [s_pm, Bool.and_eq_true] at h
    cases i with
    | succ i => exact s_pm_ok hE hM h.2 i t c p q hi
    | zero =>
      cases hi
      have h1 := h.1
      cases hg : s_mg mm t' (0, 0, .ofNat c', 0) p' with
      | none => rw [hg] at h1; cases h1
      | some s =>
        rw [hg] at h1
        simp only [Bool.and_eq_true] at h1
        obtain ⟨⟨h2, h3⟩, h4⟩ := h1
        obtain ⟨a, b, h5, h6⟩ := s_xk_some h4
        rw [Bool.and_eq_true, i_ble_iff, i_ble_iff] at h6
        have h7 := s_xi_ok hE h5
        obtain ⟨-, c2, d, v, e1, e2, e3, e4, e5⟩ := hM _ (s_mg_some hg)
        have e1 : Int.ofNat c' = (c2 : Int) := e1
        have : c2 = c' := by have : (c' : Int) = (c2 : Int) := e1; omega
        subst this
        have h2 := s_beq h2
        have h8 := s_vs_k e5 (by show s.1 ≠ 5; rw [h2]; exact s_nb h3)
        have h8 : s_vk s.1 (s_ev ρ s.2.1) v := h8
        rw [h2] at h8
        refine ⟨s.2.1, ?_, e5.1, e2, d, v, e3, e4, h8, by omega, by omega⟩
        show (s_th2 mm ((t', c2, p', q') :: ps))[0]? = some s.2.1
        rw [s_th2, hg]
        rfl
theorem s_rl_ok : ∀ {th : List s_X} {rs : List (Int × Int)} {env : List s_R} {K : List s_R → Bool}, s_rl th rs env K = true → s_ek ρ env → (∀ (j : Nat) (x : s_X) (a b : Int), th[j]? = some x → rs[j]? = some (a, b) → a ≤ s_ev ρ x ∧ s_ev ρ x ≤ b) → ∃ env', K env' = true ∧ s_ek ρ env' ∧ env'.length = env.length
  | [], [], env, K, h, hE, _ => ⟨env, h, hE, rfl⟩
  | x :: th, (a, b) :: rs, env, K, h, hE, hr => by
    rw [s_rl] at h
    obtain ⟨env1, h1, h2, h3⟩ := s_rx_ok h hE (hr 0 x a b rfl rfl).1 (hr 0 x a b rfl rfl).2
    obtain ⟨env2, h4, h5, h6⟩ := s_rl_ok h1 h2 (fun j x a b hx ha => hr (j + 1) x a b hx ha)
    exact ⟨env2, h4, h5, h6.trans h3⟩
  | [], _ :: _, _, _, h, _, _ => by cases h
  | _ :: _, [], _, _, h, _, _ => by cases h
theorem s_pv_ne {th : List s_X} {kd f j : Nat} {lo hi : Int} {K : List s_R → s_S → Bool} (hf : f ≠ 1) : s_pv th env (kd, f, j, lo, hi) K = (bif i_beq lo hi then K env (kd, (0, 0, lo, 0), s_x0) else s_psh env lo hi fun env x => K env (kd, x, s_x0)) := by
  match f, hf with
  | 0, _ => rfl
  | 1, hf => exact absurd rfl hf
  | f + 2, _ => rfl
theorem s_pv_ok {th : List s_X} {P : s_P} {n : Nat} {ρc : Nat → Int} {K : List s_R → s_S → Bool} {v : Value} (h : s_pv th env P K = true) (hE : s_ek ρ env) (hp : s_pat ρc n P v) (hth : ∀ (j : Nat) (x : s_X), th[j]? = some x → ρc j = s_ev ρ x ∧ s_xs env.length x) : s_out ρ env K v := by
  obtain ⟨kd, f, j, lo, hi⟩ := P
  obtain ⟨z, h1, h2⟩ := hp
  have h1 : s_vk kd z v := h1
  by_cases hf : f = 1
  · subst hf
    obtain ⟨x, h3, h4⟩ := s_ob_some h
    rw [q_nth_eq] at h3
    rw [if_pos rfl] at h2
    have h5 := hth j x h3
    refine ⟨env, ρ, _, h4, hE, s_ag.rfl', Nat.le_refl _, s_vs_mk h5.2 (s_vk5 h1) ?_⟩
    rw [← h5.1, ← h2.2]
    exact h1
  · rw [if_neg (show ¬ (kd, f, j, lo, hi).2.1 = 1 from hf)] at h2
    have h2 : lo ≤ z ∧ z ≤ hi := h2
    rw [s_pv_ne hf] at h
    cases hb : i_beq lo hi with
    | true =>
      rw [hb, cond_true] at h
      rw [i_beq_iff] at hb
      have : z = lo := by omega
      subst this
      exact ⟨env, ρ, _, h, hE, s_ag.rfl', Nat.le_refl _, s_vs_mk trivial (s_vk5 h1) h1⟩
    | false =>
      rw [hb, cond_false] at h
      exact s_psh_out h hE (s_vk5 h1) h1 h2.1 h2.2
theorem s_th_ag {th : List s_X} {n m : Nat} {ρ ρ' ρc : Nat → Int} (hth : ∀ (j : Nat) (x : s_X), th[j]? = some x → ρc j = s_ev ρ x ∧ s_xs n x) (ha : s_ag n ρ ρ') (hn : n ≤ m) : ∀ (j : Nat) (x : s_X), th[j]? = some x → ρc j = s_ev ρ' x ∧ s_xs m x := by
  intro j x hx
  have h1 := hth j x hx
  exact ⟨by rw [s_ev_ag h1.2 ha]; exact h1.1, s_xs_mono h1.2 hn⟩
theorem s_pms_ok {th : List s_X} {n : Nat} {ρc : Nat → Int} : ∀ {ms : List (Nat × Nat × Nat × s_P)} {ρ : Nat → Int} {env : List s_R} {mm : List s_M} {K : List s_R → List s_M → Bool}, s_pms th ms env mm K = true → s_ek ρ env → s_mk env.length ρ hp mm → (∀ (j : Nat) (x : s_X), th[j]? = some x → ρc j = s_ev ρ x ∧ s_xs env.length x) → (∀ (t c p : Nat) (P : s_P), (t, c, p, P) ∈ ms → s_ct[c]? = some t ∧ ∃ (d : Nat × List Value) (v : Value), hp[c]? = some d ∧ d.2[p]? = some v ∧ s_pat ρc n P v) → ∃ env' ρ' mm', K env' mm' = true ∧ s_ek ρ' env' ∧ s_ag env.length ρ ρ' ∧ env.length ≤ env'.length ∧ s_mk env'.length ρ' hp mm'
  | [], ρ, env, mm, K, h, hE, hM, _, _ => ⟨env, ρ, mm, h, hE, s_ag.rfl', Nat.le_refl _, hM⟩
  | (t, c, p, P) :: ms, ρ, env, mm, K, h, hE, hM, hth, hms => by
    rw [s_pms] at h
    obtain ⟨h1, d, v, h2, h3, h4⟩ := hms t c p P List.mem_cons_self
    obtain ⟨env1, ρ1, s, h5, h6, h7, h8, h9⟩ := s_pv_ok h hE h4 hth
    have hM1 : s_mk env1.length ρ1 hp ((t, (0, 0, .ofNat c, 0), p, s) :: mm) := by
      intro w hw
      rcases List.mem_cons.mp hw with rfl | hw
      · exact ⟨trivial, c, d, v, rfl, h1, h2, h3, h9⟩
      · exact s_mo_ag (hM w hw) h7 h8
    obtain ⟨env2, ρ2, mm2, e1, e2, e3, e4, e5⟩ := s_pms_ok h5 h6 hM1 (s_th_ag hth h7 h8) (fun t c p P hm => hms t c p P (List.mem_cons_of_mem _ hm))
    exact ⟨env2, ρ2, mm2, e1, e2, h7.trans h8 e3, Nat.le_trans h8 e4, e5⟩
theorem s_end_ok {th : List s_X} {wm : List Nat} {o : s_O} {n : Nat} {ρc : Nat → Int} {R : q_R Value q_H} (h : s_end th wm nx env lo st mm K o = true) (G : s_g ρ env lo st mm cl cs hp) (hth : ∀ (j : Nat) (x : s_X), th[j]? = some x → ρc j = s_ev ρ x ∧ s_xs env.length x) (ho : s_eo ρc n o R) (hH : s_hok R.2) (hf : s_fm wm hp R.2) : ∃ env' ρ' st' mm' cs', K nx env' lo st' mm' = true ∧ s_g ρ' env' lo st' mm' cl cs' R.2 ∧ s_ag env.length ρ ρ' ∧ env.length ≤ env'.length ∧ ∀ KC : q_K Value q_H, q_ret R nx cl cs KC = KC nx cl cs' R.2 := by
  obtain ⟨hE, hl, hs, hm⟩ := G
  obtain ⟨rs, ret, ms⟩ := o
  obtain ⟨ho1, ho2, ho3, ho4⟩ := ho
  unfold s_end at h
  simp only at h
  obtain ⟨env1, h1, h2, h3⟩ := s_rl_ok (ρ := ρ) h hE (fun j x a b hx ha => by rw [← (hth j x hx).1]; exact ho2 j a b ha)
  obtain ⟨mm1, h4, h5⟩ := s_kl_ok h1
  have hM1 : s_mk env1.length ρ R.2 mm1 := by
    intro w hw
    obtain ⟨h6, h7⟩ := h5 w hw
    obtain ⟨e1, c, d, v, e2, e3, e4, e5, e6⟩ := hm w h6
    rw [h3]
    exact ⟨e1, c, d, v, e2, e3, by rw [hf c w.1 e3 h7]; exact e4, e5, e6⟩
  rw [← h3] at hl hs hth ⊢
  obtain ⟨env2, ρ2, mm2, f1, f2, f3, f4, f5⟩ := s_pms_ok h4 h2 hM1 hth ho4
  obtain ⟨R1, R2⟩ := R
  cases ret with
  | none =>
    cases R1 with
    | none => exact ⟨env2, ρ2, st, mm2, cs, f1, ⟨f2, s_lk_ag hl f3 f4, s_sk_ag f3 f4 hs, f5⟩, f3, f4, fun KC => rfl⟩
    | some v => exact ho3.elim
  | some P =>
    cases R1 with
    | none => exact ho3.elim
    | some v =>
      have ho3 : s_pat ρc n P v := ho3
      obtain ⟨env3, ρ3, s, g1, g2, g3, g4, g5⟩ := s_pv_ok f1 f2 ho3 (s_th_ag hth f3 f4)
      have g6 := f3.trans f4 g3
      have g7 := Nat.le_trans f4 g4
      exact ⟨env3, ρ3, s :: st, mm2, v :: cs, g1, ⟨g2, s_lk_ag hl g6 g7, ⟨g5, s_sk_ag g6 g7 hs⟩, s_mk_ag f5 g3 g4⟩, g6, g7, fun KC => rfl⟩
theorem s_ends_ok {f : s_O → Bool} : ∀ {l : List s_O}, s_ends f l = true → ∀ o ∈ l, f o = true
  | [], _, o, ho => by cases ho
  | a :: l, h, o, ho => by
    rw [s_ends, Bool.and_eq_true] at h
    rcases List.mem_cons.mp ho with rfl | ho
    · exact h.1
    · exact s_ends_ok h.2 o ho
theorem s_all_ok {f : Nat → Bool} : ∀ {l : List Nat}, s_all l f = true → ∀ t, s_in l t = true → f t = true
  | [], _, t, ht => by cases ht
  | a :: l, h, t, ht => by
    rw [s_all, Bool.and_eq_true] at h
    rw [s_in, Bool.or_eq_true] at ht
    rcases ht with ht | ht
    · cases s_beq ht
      exact h.1
    · exact s_all_ok h.2 t ht
theorem s_call_ok {x dp : Nat} {as : List s_S} {vs : List Value} : ∀ {l : List s_U}, s_call dp mask nx env lo as st mm K l = true → (∀ U ∈ l, U.2.1 < dp → U.1 = x ∧ s_holds cal U) → s_g ρ env lo st mm cl cs hp → s_hok hp → s_sk env.length ρ as vs → ∃ R, cal x vs hp = some R ∧ s_hok R.2 ∧ s_fm mask hp R.2 ∧ ∃ env' ρ' st' mm' cs', K nx env' lo st' mm' = true ∧ s_g ρ' env' lo st' mm' cl cs' R.2 ∧ s_ag env.length ρ ρ' ∧ env.length ≤ env'.length ∧ ∀ KC : q_K Value q_H, q_ret R nx cl cs KC = KC nx cl cs' R.2
  | [], h, _, _, _, _ => by cases h
  | (k, dq, qs, ps, wm, os) :: l, h, hU, G, H, ha => by
    rw [s_call] at h
    cases hc : (s_am env qs as && s_pm env mm ps) with
    | false =>
      rw [hc, cond_false] at h
      exact s_call_ok h (fun U hm => hU U (List.mem_cons_of_mem _ hm)) G H ha
    | true =>
      rw [hc, cond_true] at h
      rw [Bool.and_eq_true] at hc
      simp only [Bool.and_eq_true] at h
      obtain ⟨⟨h1, h2⟩, h3⟩ := h
      obtain ⟨h4, h5⟩ := hU _ List.mem_cons_self (s_blt h1)
      have h4 : k = x := h4
      subst h4
      obtain ⟨e1, e2, e3⟩ := s_am_ok G.1 hc.1 ha
      have e4 := s_pm_ok G.1 G.2.2.2 hc.2
      have hlen : (s_th1 as).length = qs.length := by rw [s_th1_len, e2]
      have hth : ∀ (j : Nat) (y : s_X), (s_th1 as ++ s_th2 mm ps)[j]? = some y → (fun j => match (s_th1 as ++ s_th2 mm ps)[j]? with
          | some y => s_ev ρ y
          | none => 0) j = s_ev ρ y ∧ s_xs env.length y := by
        intro j y hy
        refine ⟨by simp only [hy], ?_⟩
        rcases Nat.lt_or_ge j (s_th1 as).length with hj | hj
        · rw [List.getElem?_append_left hj, s_th1_get] at hy
          rw [hlen] at hj
          obtain ⟨s, v, g1, -, -, -, -, g2⟩ := e3 j _ (List.getElem?_eq_getElem hj)
          rw [g1] at hy
          cases hy
          exact g2
        · rw [List.getElem?_append_right hj] at hy
          have hps : j - (s_th1 as).length < ps.length := by
            have := (List.getElem?_eq_some_iff.mp hy).1
            rwa [s_th2_len] at this
          obtain ⟨y', g1, g2, -⟩ := e4 _ _ _ _ _ (List.getElem?_eq_getElem hps)
          rw [g1] at hy
          cases hy
          exact g2
      have hpre : s_pre (fun j => match (s_th1 as ++ s_th2 mm ps)[j]? with
          | some y => s_ev ρ y
          | none => 0) qs ps vs hp := by
        refine ⟨e1, fun i q hq => ?_, fun i t c p q hq => ?_⟩
        · obtain ⟨s, v, g1, g2, g3, g4, g5, -⟩ := e3 i q hq
          have hi : i < qs.length := (List.getElem?_eq_some_iff.mp hq).1
          have : (s_th1 as ++ s_th2 mm ps)[i]? = some s.2.1 := by
            rw [List.getElem?_append_left (by rw [hlen]; exact hi), s_th1_get, g1]
            rfl
          simp only [this]
          exact ⟨v, g2, g3, g4, g5⟩
        · obtain ⟨y, g1, -, g2, d, v, g3, g4, g5, g6, g7⟩ := e4 i t c p q hq
          have : (s_th1 as ++ s_th2 mm ps)[qs.length + i]? = some y := by
            rw [List.getElem?_append_right (by rw [hlen]; omega), hlen, Nat.add_sub_cancel_left]
            exact g1
          simp only [this]
          exact ⟨g2, d, v, g3, g4, g5, g6, g7⟩
      obtain ⟨R, r1, r2, r3, o, r4, r5⟩ := h5 _ vs hp H hpre
      have r3 : s_fm wm hp R.2 := r3
      obtain ⟨env', ρ', st', mm', cs', q1, q2, q3, q4, q5⟩ := s_end_ok (s_ends_ok h3 o r4) G hth r5 r2 r3
      refine ⟨R, r1, r2, fun c t g1 g2 => r3 c t g1 ?_, env', ρ', st', mm', cs', q1, q2, q3, q4, q5⟩
      cases g3 : s_in wm t with
      | false => rfl
      | true =>
        have := s_all_ok h2 t g3
        rw [g2] at this
        cases this
theorem s_pop_some {n : Nat} : ∀ {k : Nat} {st acc : List s_S} {cs cacc : List Value} {f : List s_S → List s_S → Bool}, s_pop k st acc f = true → s_sk n ρ st cs → s_sk n ρ acc cacc → ∃ as st' vs cs', f as st' = true ∧ s_sk n ρ as vs ∧ s_sk n ρ st' cs' ∧ ∀ (B : Type) (g : List Value → List Value → Option B), q_pop k cs cacc g = g vs cs'
  | 0, st, acc, cs, cacc, f, h, hs, ha => ⟨acc, st, cacc, cs, h, ha, hs, fun B g => rfl⟩
  | k + 1, [], acc, cs, cacc, f, h, hs, ha => by cases h
  | k + 1, s :: st, acc, [], cacc, f, h, hs, ha => hs.elim
  | k + 1, s :: st, acc, v :: cs, cacc, f, h, hs, ha => by
    rw [s_pop] at h
    obtain ⟨as, st', vs, cs', h1, h2, h3, h4⟩ := s_pop_some (cacc := v :: cacc) h hs.2 ⟨hs.1, ha⟩
    exact ⟨as, st', vs, cs', h1, h2, h3, fun B g => h4 B g⟩
theorem s_vk_txt {z : Int} {v : Value} (h : s_vk 4 z v) : ∃ n : UInt32, v = .float n ∧ (n.toNat : Int) = z := by
  cases v with
  | ref c => obtain ⟨t, h1, -⟩ := h; omega
  | int x => cases h.1
  | long x => cases h.1
  | float n => exact ⟨n, rfl, h.2⟩
  | _ => exact h.elim
theorem s_tx_some {n : Nat} {a : s_S} {f : Nat → List Int → Bool} {v : Value} (h : s_tx a f = true) (ha : s_vs n ρ a v) : ∃ (m : UInt32) (l : List Int), v = .float m ∧ q_txs m.toNat = some l ∧ f m.toNat l = true := by
  obtain ⟨kd, ⟨g, j, z, k⟩, a2⟩ := a
  match g, z, h, ha with
  | 0, .ofNat q, h, ha =>
    rw [show s_tx (kd, (0, j, .ofNat q, k), a2) f = (Nat.beq kd 4 && s_ob (q_txs (q)) (f q)) from rfl, Bool.and_eq_true] at h
    have hk : kd = 4 := s_beq h.1
    subst hk
    obtain ⟨m, rfl, hm⟩ := s_vk_txt (s_vs_k ha (show (4 : Nat) ≠ 5 by decide))
    have hm : (m.toNat : Int) = (q : Int) := hm
    have e : m.toNat = q := by omega
    obtain ⟨l, h1, h2⟩ := s_ob_some h.2
    exact ⟨m, l, rfl, by rw [e]; exact h1, by rw [e]; exact h2⟩
  | 0, .negSucc q, h, _ => simp [s_tx] at h
  | g + 1, z, h, _ => simp [s_tx] at h
set_option maxRecDepth 20000 in
theorem s_tb_some {n : Nat} {a : s_S} {f : List Int → Bool} {v : Value} (h : s_tb a f = true) (ha : s_vs n ρ a v) : ∃ (m : UInt32) (l : List Int), v = .float m ∧ q_txs (m.toNat - 1000) = some l ∧ f l = true := by
  obtain ⟨kd, ⟨g, j, z, k⟩, a2⟩ := a
  match g, z, h, ha with
  | 0, .ofNat q, h, ha =>
    rw [show s_tb (kd, (0, j, .ofNat q, k), a2) f = (Nat.beq kd 4 && s_ob (q_txs (q - 1000)) f) from rfl, Bool.and_eq_true] at h
    have hk : kd = 4 := s_beq h.1
    subst hk
    obtain ⟨m, rfl, hm⟩ := s_vk_txt (s_vs_k ha (show (4 : Nat) ≠ 5 by decide))
    have hm : (m.toNat : Int) = (q : Int) := hm
    have e : m.toNat = q := by omega
    obtain ⟨l, h1, h2⟩ := s_ob_some h.2
    exact ⟨m, l, rfl, by rw [e]; exact h1, h2⟩
  | 0, .negSucc q, h, _ => simp [s_tb] at h
  | g + 1, z, h, _ => simp [s_tb] at h
theorem s_txs_len {n : Nat} {l : List Int} (h : q_txs n = some l) : n < 1000 ∧ l.length < 10 := by
  unfold q_txs at h
  split at h
  · cases h; decide
  · cases h; decide
  · cases h; decide
  · cases h
theorem s_txs_rng {n i : Nat} {l : List Int} (h : q_txs n = some l) (hi : i < l.length) : 46 ≤ (Int32.ofInt (l.getD i 0)).toInt ∧ (Int32.ofInt (l.getD i 0)).toInt ≤ 119 := by
  have key : ∀ l : List Int, (l = [110, 101, 115, 119] ∨ l = [103, 115, 116, 104, 112] ∨ l = [110, 101, 115, 119, 46]) → ∀ i, i < l.length → 46 ≤ (Int32.ofInt (l.getD i 0)).toInt ∧ (Int32.ofInt (l.getD i 0)).toInt ≤ 119 := by
    intro l hl
    rcases hl with rfl | rfl | rfl <;> decide
  unfold q_txs at h
  split at h
  · cases h; exact key _ (Or.inl rfl) i hi
  · cases h; exact key _ (Or.inr (Or.inl rfl)) i hi
  · cases h; exact key _ (Or.inr (Or.inr rfl)) i hi
  · cases h
theorem s_op27 {v : Nat} {c : Int} {x y : Nat} {tb : List Nat} (h : (i_fZ c fun c => s_i32 c c && K nx env lo ((0, (0, 0, c, 0), s_x0) :: st) mm) = true) (G : s_g ρ env lo st mm cl cs hp) (H : s_hok hp) : s_res cal fr (27, v, c, x, y, nx, tb) mask ρ env.length cl cs hp K := by
  obtain ⟨hE, hl, hs, hm⟩ := G
  rw [i_fZ_eq, Bool.and_eq_true, s_i32_iff] at h
  refine s_same (cs := .int (Int32.ofInt c) :: cs) h.2 ⟨hE, hl, ⟨s_vs_mk trivial (by decide) (v := .int (Int32.ofInt c)) ⟨rfl, ?_⟩, hs⟩, hm⟩ H s_fm.rfl' fun KC => rfl
  rw [Int32.toInt_ofInt]
  exact q_bm h.1.1 h.1.2
theorem s_op28 {v : Nat} {c : Int} {x y : Nat} {tb : List Nat} (h : (s_p1 st fun a st => s_tx a fun n _ => match v with
      | 8 => K nx env lo ((4, (0, 0, .ofNat (n + 1000), 0), s_x0) :: st) mm
      | 9 => K nx env lo ((0, s_x0, s_x0) :: st) mm
      | _ => false) = true) (G : s_g ρ env lo st mm cl cs hp) (H : s_hok hp) : s_res cal fr (28, v, c, x, y, nx, tb) mask ρ env.length cl cs hp K := by
  obtain ⟨hE, hl, hs, hm⟩ := G
  obtain ⟨a, st', va, cs', rfl, rfl, h, ha, hz⟩ := s_p1_some h hs
  obtain ⟨n, l, rfl, ht, h⟩ := s_tx_some h ha
  have hn := (s_txs_len ht).1
  split at h
  · refine s_same (cs := .float (UInt32.ofNat (n.toNat + 1000)) :: cs') h ⟨hE, hl, ⟨s_vs_mk trivial (by decide) ⟨rfl, ?_⟩, hz⟩, hm⟩ H s_fm.rfl' fun KC => ?_
    · show ((UInt32.ofNat (n.toNat + 1000)).toNat : Int) = Int.ofNat (n.toNat + 1000)
      rw [UInt32.toNat_ofNat_of_lt' (by show _ < 4294967296; omega)]
      rfl
    · show q_ob (q_tval n) (fun r => KC nx cl (r :: cs') hp) = _
      unfold q_tval
      rw [ht]
      rfl
  · refine s_same (cs := .int 0 :: cs') h ⟨hE, hl, ⟨s_vs_mk trivial (by decide) ⟨rfl, show (0 : Int32).toInt = 0 by decide⟩, hz⟩, hm⟩ H s_fm.rfl' fun KC => ?_
    show q_ob (q_tcod n) (fun r => KC nx cl (r :: cs') hp) = _
    unfold q_tcod
    rw [ht]
    rfl
  · cases h
set_option maxRecDepth 20000 in
theorem s_op29 {v : Nat} {c : Int} {x y : Nat} {tb : List Nat} (h : (s_p1 st fun a st => Nat.beq v 10 && s_tb a fun l => K nx env lo ((0, (0, 0, .ofNat l.length, 0), s_x0) :: st) mm) = true) (G : s_g ρ env lo st mm cl cs hp) (H : s_hok hp) : s_res cal fr (29, v, c, x, y, nx, tb) mask ρ env.length cl cs hp K := by
  obtain ⟨hE, hl, hs, hm⟩ := G
  obtain ⟨a, st', va, cs', rfl, rfl, h, ha, hz⟩ := s_p1_some h hs
  rw [Bool.and_eq_true] at h
  have hv := s_beq h.1
  subst hv
  obtain ⟨n, l, rfl, ht, h⟩ := s_tb_some h.2 ha
  have hn := (s_txs_len ht).2
  refine s_same (cs := .int (Int32.ofNat l.length) :: cs') h ⟨hE, hl, ⟨s_vs_mk trivial (by decide) ⟨rfl, ?_⟩, hz⟩, hm⟩ H s_fm.rfl' fun KC => ?_
  · show (Int32.ofNat l.length).toInt = Int.ofNat l.length
    exact Int32.toInt_ofNat_of_lt (by show _ < 2147483648; omega)
  · show q_ob (q_tlen n.toNat) (fun r => KC nx cl (r :: cs') hp) = _
    unfold q_tlen
    rw [ht]
    rfl
set_option maxRecDepth 20000 in
theorem s_op30 {v : Nat} {c : Int} {x y : Nat} {tb : List Nat} (h : (s_p1 st fun i st => s_p1 st fun a st => Nat.beq v 22 && s_tb a fun l => s_ix env i l.length fun _ _ => s_psk 0 env 46 119 fun env r => K nx env lo (r :: st) mm) = true) (G : s_g ρ env lo st mm cl cs hp) (H : s_hok hp) : s_res cal fr (30, v, c, x, y, nx, tb) mask ρ env.length cl cs hp K := by
  obtain ⟨hE, hl, hs, hm⟩ := G
  obtain ⟨i, st1, vi, cs1, rfl, rfl, h, hi, hs1⟩ := s_p1_some h hs
  obtain ⟨a, st', va, cs', rfl, rfl, h, ha, hz⟩ := s_p1_some h hs1
  rw [Bool.and_eq_true] at h
  have hv := s_beq h.1
  subst hv
  obtain ⟨n, l, rfl, ht, h⟩ := s_tb_some h.2 ha
  obtain ⟨p, pa, pb, e1, e2, e3, e4, e5, e6⟩ := s_ix_ok h hE hi
  cases vi with
  | int z =>
    have e1 : (if z < 0 then none else some z.toNatClampNeg) = some p := e1
    by_cases h0 : z < 0
    · rw [if_pos h0] at e1; cases e1
    · rw [if_neg h0] at e1
      have e1 : z.toNatClampNeg = p := Option.some.inj e1
      refine s_push (r := .int (Int32.ofInt (l.getD z.toNatClampNeg 0))) (s_psk_ok (kd := 0) (z := _) e6 hE (by decide) ⟨rfl, rfl⟩ fun _ => s_txs_rng ht (by omega)) hl hz hm H fun KC => ?_
      show q_ob (q_tget n.toNat z) (fun r => KC nx cl (r :: cs') hp) = _
      unfold q_tget
      rw [ht]
      show q_ob (if z < 0 then none else if z.toNatClampNeg < l.length then some (Value.int (Int32.ofInt (l.getD z.toNatClampNeg 0))) else none) (fun r => KC nx cl (r :: cs') hp) = _
      rw [if_neg h0, if_pos (by omega)]
      rfl
  | _ => cases e1
theorem s_rcv_ok {v n : Nat} {tb : List Nat} {as : List s_S} {vs : List Value} (h : s_rcv v tb as = true) (ha : s_sk n ρ as vs) (H : s_hok hp) : q_rcv q_CO v tb vs hp = true := by
  match v, h with
  | 0, h =>
    match as, vs, h, ha with
    | s :: as, u :: vs, h, ha =>
      match tb, h with
      | a :: ci :: tb, h =>
        obtain ⟨t, D, h1, h2, h3⟩ := s_tg_some (f := fun _ tag _ => Nat.beq tag ci) h
        obtain ⟨c, d, rfl, h4, h5, h6, h7⟩ := s_ref ha.1 h1 h2 H
        have e : c_tag hp c = some D.1 := by
          unfold c_tag
          rw [q_nth_eq, h6]
          exact congrArg some h7.1
        show (match c_tag hp c with
          | some t => Nat.beq t ci
          | none => false) = true
        rw [e]
        exact h3
      | [], h =>
        obtain ⟨t, D, h1, h2, h3⟩ := s_tg_some (f := fun _ _ _ => false) h
        cases h3
      | [_], h =>
        obtain ⟨t, D, h1, h2, h3⟩ := s_tg_some (f := fun _ _ _ => false) h
        cases h3
    | [], _, h, _ => cases h
    | _ :: _, [], _, ha => exact ha.elim
  | 1, h => rfl
  | 4, h =>
    match as, vs, h, ha with
    | s :: as, u :: vs, h, ha =>
      obtain ⟨n, l, rfl, ht, -⟩ := s_tx_some (f := fun _ _ => true) h ha.1
      have e9 : o_un q_CO 9 (.float n) = some (.int 0) := by
        show q_tcod n = some (.int 0)
        unfold q_tcod
        rw [ht]
      unfold q_rcv
      simp only [e9]
    | [], _, h, _ => cases h
    | _ :: _, [], _, ha => exact ha.elim
  | 2, h =>
    match as, vs, h, ha with
    | s :: as, u :: vs, h, ha =>
      have h : Nat.ble 10 s.1 = true := h
      obtain ⟨c, t, rfl, -⟩ := s_vk_ref (s_vs_k ha.1 (by have := s_ble h; omega)) (s_ble h)
      rfl
    | [], _, h, _ => cases h
    | _ :: _, [], _, ha => exact ha.elim
  | 3, h =>
    match as, vs, h, ha with
    | s :: as, u :: vs, h, ha =>
      have h : Nat.ble 10 s.1 = true := h
      obtain ⟨c, t, rfl, -⟩ := s_vk_ref (s_vs_k ha.1 (by have := s_ble h; omega)) (s_ble h)
      rfl
    | [], _, h, _ => cases h
    | _ :: _, [], _, ha => exact ha.elim
  | v + 5, h =>
    match as, vs, h, ha with
    | s :: as, u :: vs, h, ha =>
      have h : Nat.ble 10 s.1 = true := h
      obtain ⟨c, t, rfl, -⟩ := s_vk_ref (s_vs_k ha.1 (by have := s_ble h; omega)) (s_ble h)
      rfl
    | [], _, h, _ => cases h
    | _ :: _, [], _, ha => exact ha.elim
theorem s_op3 {sm : Nat → List s_U} {v dp : Nat} {c : Int} {x y : Nat} {tb : List Nat} (hU : ∀ U ∈ sm x, U.2.1 < dp → U.1 = x ∧ s_holds cal U) (h : (s_pop y st [] fun as st => Nat.ble (s_cats st) 8 && s_rcv v tb as && s_call dp mask nx env lo as st mm K (sm x)) = true) (G : s_g ρ env lo st mm cl cs hp) (H : s_hok hp) : s_res cal fr (3, v, c, x, y, nx, tb) mask ρ env.length cl cs hp K := by
  obtain ⟨hE, hl, hs, hm⟩ := G
  obtain ⟨as, st', vs, cs', h1, h2, h3, h4⟩ := s_pop_some (cacc := []) h hs trivial
  simp only [Bool.and_eq_true] at h1
  obtain ⟨⟨h5, h6⟩, h7⟩ := h1
  obtain ⟨R, r1, r2, r3, env', ρ', st2, mm', cs2, q1, q2, q3, q4, q5⟩ := s_call_ok (x := x) h7 hU ⟨hE, hl, h3, hm⟩ H h2
  refine ⟨nx, env', lo, st2, mm', ρ', cl, cs2, R.2, q1, q2, r2, q3, q4, r3, fun KC => ?_⟩
  show q_pop y cs [] (fun as st => q_gd (Nat.ble (q_cats q_ty st) 8) (q_gd (q_rcv q_CO v tb as hp) (q_ob (cal x as hp) fun r => q_ret r nx cl st KC))) = _
  rw [h4, s_cats_ok h3, h5, s_rcv_ok h6 h2 H, r1]
  exact q5 KC
theorem s_op25 {v dp : Nat} {c : Int} {x y : Nat} {tb : List Nat} (hfr : dp ≤ fr + 1) (h : (s_p1 st fun a st => Nat.blt 1 dp && Nat.ble (s_cats st) 8 && Nat.beq a.1 0 && s_full 0 env fun env r => K nx env lo (r :: st) mm) = true) (G : s_g ρ env lo st mm cl cs hp) (H : s_hok hp) : s_res cal fr (25, v, c, x, y, nx, tb) mask ρ env.length cl cs hp K := by
  obtain ⟨hE, hl, hs, hm⟩ := G
  obtain ⟨a, st', va, cs', rfl, rfl, h, ha, hz⟩ := s_p1_some h hs
  rw [Bool.and_eq_true, Bool.and_eq_true, Bool.and_eq_true] at h
  obtain ⟨⟨⟨h1, h2⟩, h3⟩, h4⟩ := h
  obtain ⟨z, rfl, -⟩ := s_vs_int ha (s_beq h3)
  have h1 := s_blt h1
  refine s_push (r := .int (if 0 ≤ z then z else 0 - z)) (s_full_ok (kd := 0) (z := _) h4 hE (by decide) ⟨rfl, rfl⟩) hl hz hm H fun KC => ?_
  show q_gd (Nat.blt 0 fr && Nat.ble (q_cats q_ty cs') 8) (KC nx cl (.int (if 0 ≤ z then z else 0 - z) :: cs') hp) = _
  rw [s_cats_ok hz, h2, show Nat.blt 0 fr = true by simp only [Nat.blt_eq]; omega]
  rfl
theorem s_op26 {v dp : Nat} {c : Int} {x y : Nat} {tb : List Nat} (hfr : dp ≤ fr + 1) (h : (s_p1 st fun b st => s_p1 st fun a st => Nat.blt 1 dp && Nat.ble (s_cats st) 8 && Nat.beq a.1 0 && Nat.beq b.1 0 && (Nat.beq v 20 || Nat.beq v 21) && s_oth v 0 env a.2.1 b.2.1 fun env r => K nx env lo (r :: st) mm) = true) (G : s_g ρ env lo st mm cl cs hp) (H : s_hok hp) : s_res cal fr (26, v, c, x, y, nx, tb) mask ρ env.length cl cs hp K := by
  obtain ⟨hE, hl, hs, hm⟩ := G
  obtain ⟨b, st1, vb, cs1, rfl, rfl, h, hb, hs1⟩ := s_p1_some h hs
  obtain ⟨a, st', va, cs', rfl, rfl, h, ha, hz⟩ := s_p1_some h hs1
  rw [Bool.and_eq_true, Bool.and_eq_true, Bool.and_eq_true, Bool.and_eq_true, Bool.and_eq_true, Bool.or_eq_true] at h
  obtain ⟨⟨⟨⟨⟨h1, h2⟩, h3⟩, h4⟩, h5⟩, h6⟩ := h
  have ka := s_vs_k ha (by rw [s_beq h3]; decide)
  have kb := s_vs_k hb (by rw [s_beq h4]; decide)
  rw [s_beq h3] at ka
  rw [s_beq h4] at kb
  have h1 := s_blt h1
  have h0 : Nat.blt 0 fr = true := by simp only [Nat.blt_eq]; omega
  have hd : ∃ r w, q_bin v va vb = some r ∧ s_vk 0 w r := by
    rcases h5 with h5 | h5
    · cases s_beq h5
      exact s_o0 ka kb (fun x y => if x < y then y else x) fun _ _ => rfl
    · cases s_beq h5
      exact s_o0 ka kb (fun x y => if y < x then y else x) fun _ _ => rfl
  obtain ⟨r, e1, e2⟩ := s_oth_ok h6 hE (by decide) ka kb hd
  refine s_push e2 hl hz hm H fun KC => ?_
  show q_gd (Nat.blt 0 fr && Nat.ble (q_cats q_ty cs') 8) (q_ob (q_bin v va vb) fun r => KC nx cl (r :: cs') hp) = _
  rw [s_cats_ok hz, h2, h0, e1]
  rfl
theorem s_step_ok {sm : Nat → List s_U} {dp : Nat} (hfr : dp ≤ fr + 1) (hU : ∀ x, ∀ U ∈ sm x, U.2.1 < dp → U.1 = x ∧ s_holds cal U) (h : s_step sm dp mask mi env lo st mm K = true) (G : s_g ρ env lo st mm cl cs hp) (H : s_hok hp) : s_res cal fr mi mask ρ env.length cl cs hp K := by
  obtain ⟨op, v, c, x, y, nx, tb⟩ := mi
  match op, h with
  | 0, h => exact s_op0 h G H
  | 1, h => exact s_op1 h G H
  | 2, h => exact s_op2 h G H
  | 3, h => exact s_op3 (hU x) h G H
  | 5, h => exact s_op5 h G H
  | 6, h => exact s_op6 h G H
  | 7, h => exact s_op7 h G H
  | 8, h => exact s_op8 h G H
  | 9, h => exact s_op9 h G H
  | 10, h => exact s_op10 h G H
  | 11, h => exact s_op11 h G H
  | 12, h => exact s_op12 h G H
  | 13, h => exact s_op13 h G H
  | 14, h => exact s_op14 h G H
  | 15, h => exact s_op15 h G H
  | 16, h => exact s_op16 h G H
  | 17, h => exact s_op17 h G H
  | 18, h => exact s_op18 h G H
  | 19, h => exact s_op19 hfr h G H
  | 24, h => exact s_op24 h G H
  | 4, h => simp [s_step] at h
  | 20, h => simp [s_step] at h
  | 21, h => simp [s_step] at h
  | 22, h => simp [s_step] at h
  | 23, h => simp [s_step] at h
  | 25, h => exact s_op25 hfr h G H
  | 26, h => exact s_op26 hfr h G H
  | 27, h => exact s_op27 h G H
  | 28, h => exact s_op28 h G H
  | 29, h => exact s_op29 h G H
  | 30, h => exact s_op30 h G H
  | op + 31, h => simp [s_step] at h
end s_calls

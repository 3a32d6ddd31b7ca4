theorem s_blt {a b : Nat} (h : Nat.blt a b = true) : a < b := by
  simpa [Nat.blt_eq] using h
theorem s_ble {a b : Nat} (h : Nat.ble a b = true) : a ≤ b := Nat.le_of_ble_eq_true h
theorem s_beq {a b : Nat} (h : Nat.beq a b = true) : a = b := Nat.eq_of_beq_eq_true h
theorem s_ct_ok : s_ct.length = 146 := by decide +kernel
noncomputable def s_sng : Bool := Nat.rec (motive := fun _ => Bool) true (fun h r => r && (match q_nth s_ct h with
  | some t => (match s_td t with
    | some D => (match D.2.2.2 with
      | some c => Nat.beq c h
      | none => true)
    | none => false)
  | none => false)) 146
theorem s_sng_ok : s_sng = true := by decide +kernel
theorem s_sngs : ∀ n : Nat, Nat.rec (motive := fun _ => Bool) true (fun h r => r && (match q_nth s_ct h with
  | some t => (match s_td t with
    | some D => (match D.2.2.2 with
      | some c => Nat.beq c h
      | none => true)
    | none => false)
  | none => false)) n = true → ∀ h, h < n → ∀ t, s_ct[h]? = some t → ∃ D, s_td t = some D ∧ ∀ c, D.2.2.2 = some c → c = h
  | 0, _, h, hh, _, _ => absurd hh (Nat.not_lt_zero h)
  | n + 1, hn, h, hh, t, ht => by
    have hn := Bool.and_eq_true_iff.mp hn
    rcases Nat.lt_succ_iff_lt_or_eq.mp hh with hl | rfl
    · exact s_sngs n hn.1 h hl t ht
    · have h2 := hn.2
      rw [q_nth_eq, ht] at h2
      simp only at h2
      cases hD : s_td t with
      | none => rw [hD] at h2; cases h2
      | some D =>
        rw [hD] at h2
        simp only at h2
        refine ⟨D, rfl, fun c hc => ?_⟩
        rw [hc] at h2
        exact s_beq h2
theorem s_ct_lt {h t : Nat} (ht : s_ct[h]? = some t) : h < 146 := by
  have := (List.getElem?_eq_some_iff.mp ht).1
  rwa [s_ct_ok] at this
theorem s_single {h t c : Nat} {D : s_D} (ht : s_ct[h]? = some t) (hD : s_td t = some D) (hc : D.2.2.2 = some c) : c = h := by
  obtain ⟨D', h1, h2⟩ := s_sngs 146 s_sng_ok h (s_ct_lt ht) t ht
  rw [hD] at h1
  cases h1
  exact h2 c hc
theorem s_vk_ref {kd : Nat} {z : Int} {v : Value} (h : s_vk kd z v) (hk : 10 ≤ kd) : ∃ c t, v = .ref c ∧ kd = 10 + t ∧ z = (c : Int) ∧ s_ct[c]? = some t := by
  cases v with
  | ref c => obtain ⟨t, h1, h2, h3⟩ := h; exact ⟨c, t, rfl, h1, h2.symm, h3⟩
  | int x => have := h.1; omega
  | long x => have := h.1; omega
  | float x => have := h.1; omega
  | _ => exact h.elim
theorem s_vk_int {z : Int} {v : Value} (h : s_vk 0 z v) : ∃ x : Int32, v = .int x ∧ x.toInt = z := by
  cases v with
  | ref c => obtain ⟨t, h1, -⟩ := h; omega
  | int x => exact ⟨x, rfl, h.2⟩
  | long x => cases h.1
  | float x => cases h.1
  | _ => exact h.elim
theorem s_vk_long {z : Int} {v : Value} (h : s_vk 1 z v) : ∃ x : Int64, v = .long x ∧ x.toInt = z := by
  cases v with
  | ref c => obtain ⟨t, h1, -⟩ := h; omega
  | int x => cases h.1
  | long x => exact ⟨x, rfl, h.2⟩
  | float x => cases h.1
  | _ => exact h.elim
theorem s_vs_k {n : Nat} {ρ : Nat → Int} {s : s_S} {v : Value} (h : s_vs n ρ s v) (hk : s.1 ≠ 5) : s_vk s.1 (s_ev ρ s.2.1) v := by
  have := h.2.2
  rwa [if_neg hk] at this
theorem s_vs_mk {n : Nat} {ρ : Nat → Int} {kd : Nat} {x : s_X} {v : Value} (hx : s_xs n x) (hk : kd ≠ 5) (h : s_vk kd (s_ev ρ x) v) : s_vs n ρ (kd, x, s_x0) v := by
  refine ⟨hx, trivial, ?_⟩
  rw [if_neg hk]
  exact h
theorem s_vs_int {n : Nat} {ρ : Nat → Int} {s : s_S} {v : Value} (h : s_vs n ρ s v) (hk : s.1 = 0) : ∃ x : Int32, v = .int x ∧ x.toInt = s_ev ρ s.2.1 := by
  have := s_vs_k h (by rw [hk]; decide)
  rw [hk] at this
  exact s_vk_int this
theorem s_vs_long {n : Nat} {ρ : Nat → Int} {s : s_S} {v : Value} (h : s_vs n ρ s v) (hk : s.1 = 1) : ∃ x : Int64, v = .long x ∧ x.toInt = s_ev ρ s.2.1 := by
  have := s_vs_k h (by rw [hk]; decide)
  rw [hk] at this
  exact s_vk_long this
/-- a run goes on with the value r -/
def s_out (ρ : Nat → Int) (env : List s_R) (K : List s_R → s_S → Bool) (r : Value) : Prop := ∃ (env' : List s_R) (ρ' : Nat → Int) (s : s_S), K env' s = true ∧ s_ek ρ' env' ∧ s_ag env.length ρ ρ' ∧ env.length ≤ env'.length ∧ s_vs env'.length ρ' s r
theorem s_psh_out {ρ : Nat → Int} {env : List s_R} {kd : Nat} {lo hi z : Int} {K : List s_R → s_S → Bool} {r : Value} (h : s_psh env lo hi (fun env x => K env (kd, x, s_x0)) = true) (hE : s_ek ρ env) (hk : kd ≠ 5) (hr : s_vk kd z r) (h1 : lo ≤ z) (h2 : z ≤ hi) : s_out ρ env K r := by
  obtain ⟨env', ρ', h3, h4, h5, h6, h7⟩ := s_psh_ok h hE h1 h2
  refine ⟨env', ρ', _, h3, h4, h5, by omega, s_vs_mk (show env.length < env'.length by omega) hk ?_⟩
  show s_vk kd (ρ' env.length) r
  rw [h7]
  exact hr
theorem s_fr_ok {ρ : Nat → Int} {env : List s_R} {q : s_Q} {K : List s_R → s_S → Bool} {v : Value} (h : s_fr env q K = true) (hE : s_ek ρ env) (hv : s_inq q v) : s_out ρ env K v := by
  obtain ⟨kd, lo, hi⟩ := q
  obtain ⟨z, h1, h2⟩ := hv
  unfold s_fr at h
  simp only at h h1 h2
  cases hk : Nat.ble 10 kd with
  | true =>
    rw [hk, cond_true] at h
    obtain ⟨c, t, rfl, rfl, rfl, h3⟩ := s_vk_ref h1 (s_ble hk)
    rw [Nat.add_sub_cancel_left] at h
    cases hD : s_td t with
    | none => rw [hD] at h; cases h
    | some D =>
      rw [hD] at h
      simp only at h
      cases hc : D.2.2.2 with
      | none =>
        rw [hc] at h
        have := s_ct_lt h3
        exact s_psh_out h hE (by omega) h1 (by omega) (by omega)
      | some c' =>
        rw [hc] at h
        have := s_single h3 hD hc
        subst this
        exact ⟨env, ρ, _, h, hE, s_ag.rfl', Nat.le_refl _, s_vs_mk trivial (by omega) h1⟩
  | false =>
    rw [hk, cond_false] at h
    have hk2 : ¬ 10 ≤ kd := fun hh => by rw [Nat.ble_eq_true_of_le hh] at hk; cases hk
    cases hb : Nat.blt kd 2 with
    | false => rw [hb] at h; cases h
    | true =>
      rw [hb, cond_true] at h
      have := s_blt hb
      have h3 := h2 (by omega)
      exact s_psh_out h hE (by omega) h1 h3.1 h3.2
theorem s_xe_ok {x y : s_X} (h : s_xe x y = true) : x = y := by
  obtain ⟨f, j, z, k⟩ := x
  obtain ⟨f', j', z', k'⟩ := y
  simp only [s_xe, Bool.and_eq_true, i_beq_iff] at h
  obtain ⟨⟨⟨h1, h2⟩, rfl⟩, h4⟩ := h
  cases s_beq h1
  cases s_beq h2
  cases s_beq h4
  rfl
theorem s_mg_some : ∀ {mm : List s_M} {t : Nat} {e : s_X} {p : Nat} {s : s_S}, s_mg mm t e p = some s → (t, e, p, s) ∈ mm
  | [], _, _, _, _, h => by cases h
  | (t', e', p', s') :: mm, t, e, p, s, h => by
    rw [s_mg] at h
    cases hc : (Nat.beq t' t && Nat.beq p' p && s_xe e' e) with
    | false => rw [hc, cond_false] at h; exact List.mem_cons_of_mem _ (s_mg_some h)
    | true =>
      rw [hc, cond_true] at h
      cases h
      simp only [Bool.and_eq_true] at hc
      cases s_beq hc.1.1
      cases s_beq hc.1.2
      cases s_xe_ok hc.2
      exact List.mem_cons_self
theorem s_kl_ok {f : s_M → Bool} : ∀ {mm : List s_M} {K : List s_M → Bool}, s_kl f mm K = true → ∃ mm', K mm' = true ∧ ∀ m ∈ mm', m ∈ mm ∧ f m = false
  | [], K, h => ⟨[], h, fun m hm => by cases hm⟩
  | m :: l, K, h => by
    rw [s_kl] at h
    cases hf : f m with
    | true =>
      rw [hf, cond_true] at h
      obtain ⟨mm', h1, h2⟩ := s_kl_ok h
      exact ⟨mm', h1, fun w hw => ⟨List.mem_cons_of_mem _ (h2 w hw).1, (h2 w hw).2⟩⟩
    | false =>
      rw [hf, cond_false] at h
      obtain ⟨mm', h1, h2⟩ := s_kl_ok h
      refine ⟨m :: mm', h1, fun w hw => ?_⟩
      rcases List.mem_cons.mp hw with rfl | hw
      · exact ⟨List.mem_cons_self, hf⟩
      · exact ⟨List.mem_cons_of_mem _ (h2 w hw).1, (h2 w hw).2⟩
theorem s_ob_some {A : Type} {o : Option A} {f : A → Bool} (h : s_ob o f = true) : ∃ a, o = some a ∧ f a = true := by
  cases o with
  | none => cases h
  | some a => exact ⟨a, rfl, h⟩
/-- the cell of a reference -/
theorem s_cell {hp : q_H} {c t : Nat} (hH : s_hok hp) (ht : s_ct[c]? = some t) : ∃ (D : s_D) (d : Nat × List Value), s_td t = some D ∧ hp[c]? = some d ∧ s_cok D d := hH.2.2 c t ht
theorem s_rd_ok {ρ : Nat → Int} {env : List s_R} {mm : List s_M} {t p c : Nat} {e : s_X} {K : List s_R → List s_M → s_S → Bool} {hp : q_H} {D : s_D} {d : Nat × List Value} (h : s_rd env mm t e p K = true) (hE : s_ek ρ env) (hM : s_mk env.length ρ hp mm) (hc : s_ev ρ e = (c : Int)) (hx : s_xs env.length e) (ht : s_ct[c]? = some t) (hD : s_td t = some D) (hd : hp[c]? = some d) (hk : s_cok D d) : ∃ v, d.2[p]? = some v ∧ ∃ (env' : List s_R) (ρ' : Nat → Int) (mm' : List s_M) (s : s_S), K env' mm' s = true ∧ s_ek ρ' env' ∧ s_ag env.length ρ ρ' ∧ env.length ≤ env'.length ∧ s_mk env'.length ρ' hp mm' ∧ s_vs env'.length ρ' s v := by
  unfold s_rd at h
  cases hg : s_mg mm t e p with
  | some s =>
    rw [hg] at h
    obtain ⟨-, c', d', v, h2, h3, h4, h5, h6⟩ := hM _ (s_mg_some hg)
    have h2 : s_ev ρ e = (c' : Int) := h2
    have : c' = c := by omega
    subst this
    rw [hd] at h4
    cases h4
    exact ⟨v, h5, env, ρ, mm, s, h, hE, s_ag.rfl', Nat.le_refl _, hM, h6⟩
  | none =>
    rw [hg] at h
    simp only at h
    obtain ⟨D', h1, h⟩ := s_ob_some h
    rw [hD] at h1
    cases h1
    obtain ⟨q, h2, h⟩ := s_ob_some h
    rw [Bool.and_eq_true] at h
    have hp' : p < d.2.length := by rw [hk.2.1]; exact s_blt h.1
    obtain ⟨q', h3, h4⟩ := hk.2.2 p _ (List.getElem?_eq_getElem hp')
    rw [h2] at h3
    cases h3
    obtain ⟨env', ρ', s, h5, h6, h7, h8, h9⟩ := s_fr_ok h.2 hE h4
    refine ⟨_, List.getElem?_eq_getElem hp', env', ρ', _, s, h5, h6, h7, h8, ?_, h9⟩
    cases s_cv e with
    | false => exact s_mk_ag hM h7 h8
    | true =>
      intro w hw
      rcases List.mem_cons.mp hw with rfl | hw
      · exact ⟨s_xs_mono hx h8, c, d, _, by rw [s_ev_ag hx h7]; exact hc, ht, hd, List.getElem?_eq_getElem hp', h9⟩
      · exact s_mk_ag hM h7 h8 w hw
theorem s_fit_ok {n : Nat} {ρ : Nat → Int} {env : List s_R} {s : s_S} {q : s_Q} {v : Value} (h : s_fit env s q = true) (hE : s_ek ρ env) (hv : s_vs n ρ s v) : s_inq q v := by
  unfold s_fit at h
  rw [Bool.and_eq_true] at h
  have h1 := s_beq h.1
  have h2 := h.2
  rw [Bool.or_eq_true] at h2
  rcases h2 with h2 | h2
  · have h3 := s_ble h2
    have h4 := s_vs_k hv (by omega)
    rw [h1] at h4
    exact ⟨_, h4, fun h5 => by omega⟩
  · rw [Bool.and_eq_true] at h2
    have h3 := s_blt h2.1
    obtain ⟨a, b, h4, h5⟩ := s_xk_some h2.2
    rw [Bool.and_eq_true, i_ble_iff, i_ble_iff] at h5
    have h6 := s_xi_ok hE h4
    have h7 := s_vs_k hv (by omega)
    rw [h1] at h7
    exact ⟨_, h7, fun _ => by omega⟩
theorem s_hok_set {hp : q_H} {c t : Nat} {D : s_D} {d d' : Nat × List Value} (hH : s_hok hp) (ht : s_ct[c]? = some t) (hD : s_td t = some D) (hd : hp[c]? = some d) (hk : s_cok D d) (hk' : s_cok D d') : s_hok (hp.set c d') := by
  refine ⟨by rw [List.length_set]; exact hH.1, ?_, fun c2 t2 h2 => ?_⟩
  · rw [q_sl_set hp c d d' hd (by rw [hk.2.1, hk'.2.1])]
    exact hH.2.1
  · by_cases hcc : c2 = c
    · subst hcc
      rw [ht] at h2
      cases h2
      have hlt := (List.getElem?_eq_some_iff.mp hd).1
      exact ⟨D, d', hD, List.getElem?_set_self hlt, hk'⟩
    · obtain ⟨D2, d2, h3, h4, h5⟩ := hH.2.2 c2 t2 h2
      exact ⟨D2, d2, h3, by rw [List.getElem?_set_ne (Ne.symm hcc)]; exact h4, h5⟩
theorem s_mo_set {n : Nat} {ρ : Nat → Int} {hp : q_H} {c : Nat} {d d' : Nat × List Value} {m : s_M} (h : s_mo n ρ hp m) (hd : hp[c]? = some d) (hk : ∀ v, s_ct[c]? = some m.1 → d.2[m.2.2.1]? = some v → d'.2[m.2.2.1]? = some v) : s_mo n ρ (hp.set c d') m := by
  obtain ⟨h1, c2, d2, v, h2, h3, h4, h5, h6⟩ := h
  by_cases hcc : c2 = c
  · subst hcc
    rw [hd] at h4
    cases h4
    have hlt := (List.getElem?_eq_some_iff.mp hd).1
    exact ⟨h1, c2, d', v, h2, h3, List.getElem?_set_self hlt, hk v h3 h5, h6⟩
  · exact ⟨h1, c2, d2, v, h2, h3, by rw [List.getElem?_set_ne (Ne.symm hcc)]; exact h4, h5, h6⟩
theorem s_fm_set {mask : List Nat} {hp : q_H} {c t : Nat} {d' : Nat × List Value} (ht : s_ct[c]? = some t) (hm : s_in mask t = true) : s_fm mask hp (hp.set c d') := by
  intro c2 t2 h2 h3
  by_cases hcc : c2 = c
  · subst hcc
    rw [ht] at h2
    cases h2
    rw [hm] at h3
    cases h3
  · exact List.getElem?_set_ne (Ne.symm hcc)
theorem s_cok_set {D : s_D} {d : Nat × List Value} {p : Nat} {q : s_Q} {v : Value} (hk : s_cok D d) (hq : s_sg D.2.2.1 p = some q) (hv : s_inq q v) : s_cok D (d.1, d.2.set p v) := by
  refine ⟨hk.1, by rw [List.length_set]; exact hk.2.1, fun i w hw => ?_⟩
  by_cases hip : i = p
  · subst hip
    have hlt := (List.getElem?_eq_some_iff.mp hw).1
    rw [List.length_set] at hlt
    rw [List.getElem?_set_self hlt] at hw
    cases hw
    exact ⟨q, hq, hv⟩
  · rw [List.getElem?_set_ne (Ne.symm hip)] at hw
    exact hk.2.2 i w hw
theorem s_wr_ok {ρ : Nat → Int} {env : List s_R} {mask : List Nat} {mm : List s_M} {t p c : Nat} {e : s_X} {s : s_S} {K : List s_M → Bool} {hp : q_H} {D : s_D} {d : Nat × List Value} {v : Value} (h : s_wr mask env mm t e p s K = true) (hE : s_ek ρ env) (hM : s_mk env.length ρ hp mm) (hH : s_hok hp) (hc : s_ev ρ e = (c : Int)) (hx : s_xs env.length e) (ht : s_ct[c]? = some t) (hD : s_td t = some D) (hd : hp[c]? = some d) (hk : s_cok D d) (hv : s_vs env.length ρ s v) : ∃ mm', K mm' = true ∧ p < d.2.length ∧ s_hok (hp.set c (d.1, d.2.set p v)) ∧ s_fm mask hp (hp.set c (d.1, d.2.set p v)) ∧ s_mk env.length ρ (hp.set c (d.1, d.2.set p v)) mm' := by
  unfold s_wr at h
  obtain ⟨D', h1, h⟩ := s_ob_some h
  rw [hD] at h1
  cases h1
  obtain ⟨q, h2, h⟩ := s_ob_some h
  simp only [Bool.and_eq_true] at h
  obtain ⟨⟨⟨h3, h4⟩, h5⟩, h6⟩ := h
  obtain ⟨mm', h7, h8⟩ := s_kl_ok h6
  have hlt : p < d.2.length := by rw [hk.2.1]; exact s_blt h3
  have hcl := (List.getElem?_eq_some_iff.mp hd).1
  refine ⟨_, h7, hlt, s_hok_set hH ht hD hd hk (s_cok_set hk h2 (s_fit_ok h4 hE hv)), s_fm_set ht h5, ?_⟩
  have hM' : s_mk env.length ρ (hp.set c (d.1, d.2.set p v)) mm' := by
    intro w hw
    obtain ⟨h9, h10⟩ := h8 w hw
    refine s_mo_set (hM w h9) hd fun u h11 h12 => ?_
    rw [ht] at h11
    have h13 : w.2.2.1 ≠ p := by
      rintro rfl
      rw [Bool.and_eq_false_iff] at h10
      rcases h10 with h10 | h10
      · rw [Option.some.inj h11, Nat.beq_refl] at h10; cases h10
      · rw [Nat.beq_refl] at h10; cases h10
    rw [List.getElem?_set_ne (Ne.symm h13)]
    exact h12
  cases s_cv e with
  | false => exact hM'
  | true =>
    intro w hw
    rcases List.mem_cons.mp hw with rfl | hw
    · exact ⟨hx, c, _, v, hc, ht, List.getElem?_set_self hcl, List.getElem?_set_self hlt, hv⟩
    · exact hM' w hw
theorem s_al_ok {P : s_Q → Bool} : ∀ {L : List s_G} {a b i : Nat} {q : s_Q}, s_al L a b P = true → a ≤ i → i ≤ b → s_sg L i = some q → P q = true
  | [], _, _, _, _, _, _, _, h => by cases h
  | (c, d, r) :: L, a, b, i, q, h, h1, h2, h3 => by
    rw [s_al] at h
    rw [s_sg] at h3
    cases hc : (Nat.ble c i && Nat.ble i d) with
    | true =>
      rw [hc, cond_true] at h3
      cases h3
      rw [Bool.and_eq_true] at hc
      have h4 := s_ble hc.1
      have h5 := s_ble hc.2
      rw [Nat.ble_eq_true_of_le (show a ≤ d by omega), Nat.ble_eq_true_of_le (show c ≤ b by omega)] at h
      simp only [Bool.and_true, cond_true, Bool.and_eq_true] at h
      exact h.1
    | false =>
      rw [hc, cond_false] at h3
      cases hb : (Nat.ble a d && Nat.ble c b) with
      | true =>
        rw [hb, cond_true, Bool.and_eq_true] at h
        exact s_al_ok h.2 h1 h2 h3
      | false =>
        rw [hb, cond_false] at h
        exact s_al_ok h h1 h2 h3
theorem s_sub_ok {q h : s_Q} {v : Value} (hs : s_sub q h = true) (hv : s_inq q v) : s_inq h v := by
  unfold s_sub at hs
  rw [Bool.and_eq_true, Bool.or_eq_true, Bool.and_eq_true, i_ble_iff, i_ble_iff] at hs
  have h1 := s_beq hs.1
  obtain ⟨z, h2, h3⟩ := hv
  rw [h1] at h2
  refine ⟨z, h2, fun h4 => ?_⟩
  rcases hs.2 with h5 | h5
  · have := s_ble h5
    omega
  · have := h3 (by omega)
    omega

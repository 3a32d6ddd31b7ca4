section s_gos2
variable {cal : Nat → List Value → q_H → Option (q_R Value q_H)} {fr : Nat} {mask : List Nat} {ρ : Nat → Int} {env : List s_R} {lo : List (Option s_S)} {st : List s_S} {mm : List s_M} {cl : List (Option Value)} {cs : List Value} {hp hp0 : q_H}
def s_rank (ρ : Nat → Int) (a : Int) (W : List (Int × Nat)) : Int := a + s_sum ρ (s_wv W)
theorem s_wt_sum {p : Nat} {th : List s_X} : ∀ (W : List (Int × Nat)), s_sum ρ (s_wt p th W) = s_sum (s_r2 p ρ th) (s_wv W)
  | [] => rfl
  | (w, j) :: W => by
    rw [s_wt, s_wv, s_sum, s_sum, s_wt_sum W]
    congr 2
    cases hj : Nat.blt j p with
    | true =>
      have hj := s_blt hj
      exact (s_r2_lt hj).symm
    | false =>
      have hj : ¬ j < p := fun hlt => by
        have : Nat.blt j p = true := by simpa [Nat.blt_eq] using hlt
        rw [this] at hj
        cases hj
      rw [cond_false, q_nth_eq]
      show _ = s_r2 p ρ th j
      unfold s_r2
      rw [if_neg hj]
      cases th[j - p]? with
      | none => rfl
      | some x => rfl
theorem s_wv_ag {ρ ρ' : Nat → Int} {n : Nat} (ha : s_ag n ρ ρ') : ∀ {W : List (Int × Nat)}, (∀ w ∈ W, w.2 < n) → s_sum ρ' (s_wv W) = s_sum ρ (s_wv W)
  | [], _ => rfl
  | (w, j) :: W, h => by
    rw [s_wv, s_sum, s_sum, s_wv_ag ha fun w hw => h w (List.mem_cons_of_mem _ hw)]
    show w * ρ' j + _ = w * ρ j + _
    rw [ha j (h _ List.mem_cons_self)]
/-- a cut's own checks -/
def s_cgood (p : Nat) (C : s_C) : Prop := s_m9 C.2.1 = true ∧ s_zl C.2.2.1 = true ∧ s_zs C.2.2.2.1 = true ∧ s_zm C.2.2.2.2.1 = true ∧ p ≤ C.2.1.length ∧ ∃ r, s_lb C.2.1 (s_wv C.2.2.2.2.2.2) = some r ∧ 0 ≤ C.2.2.2.2.2.1 + r
theorem s_cm_ok {p t : Nat} {a0 : Int} {W0 : List (Int × Nat)} {C : s_C} (h : s_cm p a0 W0 t env lo st mm C = true) (hC : s_cgood p C) (G : s_g ρ env lo st mm cl cs hp) : ∃ ρ', s_g ρ' C.2.1 C.2.2.1 C.2.2.2.1 C.2.2.2.2.1 cl cs hp ∧ s_ag p ρ ρ' ∧ s_rank ρ' C.2.2.2.2.2.1 C.2.2.2.2.2.2 + (t : Int) ≤ s_rank ρ a0 W0 := by
  obtain ⟨pc, cenv, clo, cst, cmm, a, W⟩ := C
  obtain ⟨hE, hl, hs, hm⟩ := G
  obtain ⟨c1, c2, c3, c4, c5, -⟩ := hC
  simp only at c1 c2 c3 c4 c5
  unfold s_cm at h
  simp only at h
  rw [Bool.and_eq_true] at h
  have h0 := s_m0_ok hE h.1
  obtain ⟨e1, h1, t1, g1⟩ := s_ml_ok hE h.2 c2 (fun i x hx => by cases hx) hl
  obtain ⟨e2, h2, t2, g2⟩ := s_ms_ok hE h1 c3 t1 hs
  obtain ⟨e3, h3, t3, g3⟩ := s_mw_ok hE hm h2 c4 t2
  rw [Bool.and_eq_true] at h3
  have hlen := s_beq h3.1
  have h4 := h3.2
  cases hr : s_rk env (s_wv W0) (s_wt p ([] ++ e1 ++ e2 ++ e3) W) with
  | none => rw [hr] at h4; cases h4
  | some r =>
    rw [hr] at h4
    simp only [i_ble_iff] at h4
    have h5 := s_rk_ok hE hr
    rw [s_wt_sum] at h5
    have hag12 : s_ag (p + ([] ++ e1).length) (s_r2 p ρ ([] ++ e1)) (s_r2 p ρ ([] ++ e1 ++ e2 ++ e3)) := by
      rw [List.append_assoc ([] ++ e1)]
      exact s_r2_ag
    have hag23 : s_ag (p + ([] ++ e1 ++ e2).length) (s_r2 p ρ ([] ++ e1 ++ e2)) (s_r2 p ρ ([] ++ e1 ++ e2 ++ e3)) := s_r2_ag
    refine ⟨s_r2 p ρ ([] ++ e1 ++ e2 ++ e3), ⟨?_, ?_, ?_, ?_⟩, fun j hj => s_r2_lt hj, ?_⟩
    · intro j q hq
      have hq : cenv[j]? = some q := hq
      have hj : j < cenv.length := (List.getElem?_eq_some_iff.mp hq).1
      have hf := s_m9_ok c1 j q hq
      have key : ∃ c d, s_rg cenv j = some (c, d) ∧ c ≤ s_r2 p ρ ([] ++ e1 ++ e2 ++ e3) j ∧ s_r2 p ρ ([] ++ e1 ++ e2 ++ e3) j ≤ d := by
        rcases Nat.lt_or_ge j p with hjp | hjp
        · rw [s_r2_lt hjp]
          exact h0 j hjp
        · have hi : j - p < ([] ++ e1 ++ e2 ++ e3).length := by omega
          obtain ⟨-, c, d, k1, k2, k3⟩ := t3 (j - p) _ (List.getElem?_eq_getElem hi)
          have k4 := s_r2_ge (p := p) (ρ := ρ) (List.getElem?_eq_getElem hi)
          rw [show p + (j - p) = j by omega] at k1 k4
          rw [k4]
          exact ⟨c, d, k1, k2, k3⟩
      obtain ⟨c, d, k1, k2, k3⟩ := key
      obtain ⟨q', k4, k5, k6, -⟩ := s_rg_some k1
      rw [hq] at k4
      cases k4
      refine ⟨by rw [k5]; exact k2, by rw [k6]; exact k3, fun h1 => ?_⟩
      rw [hf] at h1
      cases h1
    · show s_lk cenv.length _ clo cl
      rw [← hlen]
      exact s_lk_ag g1 hag12 (by simp only [List.length_append]; omega)
    · show s_sk cenv.length _ cst cs
      rw [← hlen]
      exact s_sk_ag hag23 (by simp only [List.length_append]; omega) g2
    · show s_mk cenv.length _ hp cmm
      rw [← hlen]
      exact g3
    · unfold s_rank
      have : Int.ofNat t = (t : Int) := rfl
      show a + s_sum _ (s_wv W) + (t : Int) ≤ a0 + s_sum ρ (s_wv W0)
      omega
theorem s_cms_ok {f : s_C → Bool} {pc : Nat} : ∀ {l : List s_C}, s_cms f pc l = true → ∃ C ∈ l, C.1 = pc ∧ f C = true
  | [], h => by cases h
  | C :: l, h => by
    rw [s_cms, Bool.or_eq_true, Bool.and_eq_true] at h
    rcases h with h | h
    · exact ⟨C, List.mem_cons_self, s_beq h.1, h.2⟩
    · obtain ⟨D, h1, h2⟩ := s_cms_ok h
      exact ⟨D, List.mem_cons_of_mem _ h1, h2⟩
theorem s_eo_ag {n : Nat} {ρ ρ' : Nat → Int} {o : s_O} {R : q_R Value q_H} (ha : s_ag n ρ ρ') (h : s_eo ρ' n o R) : s_eo ρ n o R := by
  obtain ⟨h1, h2, h3, h4⟩ := h
  have hpat : ∀ (P : s_P) (v : Value), s_pat ρ' n P v → s_pat ρ n P v := by
    intro P v hp
    obtain ⟨z, e1, e2⟩ := hp
    refine ⟨z, e1, ?_⟩
    split at e2
    · rename_i hf
      rw [if_pos hf]
      exact ⟨e2.1, by rw [e2.2]; exact ha _ e2.1⟩
    · rename_i hf
      rw [if_neg hf]
      exact e2
  refine ⟨h1, fun j a b hj => ?_, ?_, fun t c p P hm => ?_⟩
  · have hlt := (List.getElem?_eq_some_iff.mp hj).1
    rw [h1] at hlt
    rw [← ha j hlt]
    exact h2 j a b hj
  · cases ho : o.2.1 with
    | none => rw [ho] at h3; cases hR : R.1 with
      | none => exact trivial
      | some v => rw [hR] at h3; exact h3
    | some P => rw [ho] at h3; cases hR : R.1 with
      | none => rw [hR] at h3; exact h3
      | some v => rw [hR] at h3; exact hpat P v h3
  · obtain ⟨e1, d, v, e2, e3, e4⟩ := h4 t c p P hm
    exact ⟨e1, d, v, e2, e3, hpat P v e4⟩
theorem s_steps_one {ins : Nat → Option q_MI} {pc : Nat} {mi : q_MI} {pc' : Nat} {cl' : List (Option Value)} {cs' : List Value} {hp' : q_H} (h1 : ins pc = some mi) (h2 : ∀ KC : q_K Value q_H, q_step q_CO cal fr mi cl cs hp KC = KC pc' cl' cs' hp') (f : Nat) : q_steps q_CO ins cal fr (f + 1) pc cl cs hp = q_steps q_CO ins cal fr f pc' cl' cs' hp' := by
  rw [q_steps_succ, h1]
  exact h2 _
/-- a symbolic run is a run: to an end, or to a cut -/
theorem s_go_ok {sm : Nat → List s_U} {ins : Nat → Option q_MI} {dp p : Nat} {os : List s_O} {cuts : List s_C} {spl : List s_Y} {a0 : Int} {W0 : List (Int × Nat)} {n0 : Nat} (hfr : dp ≤ fr + 1) (hU : ∀ x, ∀ U ∈ sm x, U.2.1 < dp → U.1 = x ∧ s_holds cal U) (hC : ∀ C ∈ cuts, s_cgood p C) (hW : ∀ w ∈ W0, w.2 < n0) (hpn : p ≤ n0) : ∀ (n t pc : Nat) (ρ : Nat → Int) (env : List s_R) (lo : List (Option s_S)) (st : List s_S) (mm : List s_M) (cl : List (Option Value)) (cs : List Value) (hp : q_H), s_go sm ins dp p mask os cuts spl a0 W0 n t pc env lo st mm = true → s_g ρ env lo st mm cl cs hp → s_hok hp → n0 ≤ env.length → ∃ m : Nat, (((m + t + 1 : Nat) : Int) ≤ s_rank ρ a0 W0 ∧ ∃ R, (∀ f, q_steps q_CO ins cal fr (f + m + 1) pc cl cs hp = some R) ∧ s_good ρ p mask os hp R) ∨ (0 < m + t ∧ ∃ C ∈ cuts, ∃ (ρ' : Nat → Int) (cl' : List (Option Value)) (cs' : List Value) (hp' : q_H), s_g ρ' C.2.1 C.2.2.1 C.2.2.2.1 C.2.2.2.2.1 cl' cs' hp' ∧ s_hok hp' ∧ s_fm mask hp hp' ∧ s_ag p ρ ρ' ∧ s_rank ρ' C.2.2.2.2.2.1 C.2.2.2.2.2.2 + ((m + t : Nat) : Int) ≤ s_rank ρ a0 W0 ∧ ∀ f, q_steps q_CO ins cal fr (f + m) pc cl cs hp = q_steps q_CO ins cal fr f C.1 cl' cs' hp')
  | 0, t, pc, ρ, env, lo, st, mm, cl, cs, hp, h, _, _, _ => by cases h
  | n + 1, t, pc, ρ, env, lo, st, mm, cl, cs, hp, h, G, H, hn => by
    have h : (bif Nat.blt 0 t && s_cpc pc cuts then s_cms (s_cm p a0 W0 t env lo st mm) pc cuts else s_ob (ins pc) fun mi => s_spl pc env lo st mm (fun env => bif Nat.beq mi.1 4 then (match s_lb env (s_wv W0) with
      | some r => i_ble (.ofNat (t + 1)) (a0 + r)
      | none => false) && s_ret p os mi.2.1 env st mm else s_step sm dp mask mi env lo st mm fun pc env lo st mm => s_go sm ins dp p mask os cuts spl a0 W0 n (t + 1) pc env lo st mm) spl) = true := h
    cases hc : (Nat.blt 0 t && s_cpc pc cuts) with
    | true =>
      rw [hc, cond_true] at h
      rw [Bool.and_eq_true] at hc
      obtain ⟨C, h1, h2, h3⟩ := s_cms_ok h
      obtain ⟨ρ', h4, h5, h6⟩ := s_cm_ok h3 (hC C h1) G
      have ht := s_blt hc.1
      exact ⟨0, Or.inr ⟨by omega, C, h1, ρ', cl, cs, hp, h4, H, s_fm.rfl', h5, by rw [Nat.zero_add]; exact h6, fun f => by rw [h2]; rfl⟩⟩
    | false =>
      rw [hc, cond_false] at h
      obtain ⟨mi, h1, h2⟩ := s_ob_some h
      obtain ⟨env1, h3, h4, h5⟩ := s_spl_ok G.1 h2
      have G1 : s_g ρ env1 lo st mm cl cs hp := by
        obtain ⟨-, g2, g3, g4⟩ := G
        rw [← h5] at g2 g3 g4
        exact ⟨h4, g2, g3, g4⟩
      cases hop : Nat.beq mi.1 4 with
      | true =>
        rw [hop, cond_true, Bool.and_eq_true] at h3
        obtain ⟨h6, h7⟩ := h3
        obtain ⟨op, v, c, x, y, nx, tb⟩ := mi
        have hop : op = 4 := s_beq hop
        subst hop
        obtain ⟨R, k1, o, k2, k3⟩ := s_ret_ok (cal := cal) (fr := fr) (c := c) (x := x) (y := y) (nx := nx) (tb := tb) h7 G1
        refine ⟨0, Or.inl ⟨?_, (R, hp), fun f => ?_, H, s_fm.rfl', o, k2, k3⟩⟩
        · cases hl : s_lb env1 (s_wv W0) with
          | none => rw [hl] at h6; cases h6
          | some r =>
            rw [hl] at h6
            simp only [i_ble_iff] at h6
            have := s_lb_ok h4 hl
            unfold s_rank
            have e : Int.ofNat (t + 1) = ((t + 1 : Nat) : Int) := rfl
            rw [e] at h6
            rw [Nat.zero_add]
            omega
        · rw [Nat.add_zero, q_steps_succ, h1]
          exact k1 _
      | false =>
        rw [hop, cond_false] at h3
        obtain ⟨pc', env2, lo2, st2, mm2, ρ2, cl2, cs2, hp2, k1, k2, k3, k4, k5, k6, k7⟩ := s_step_ok hfr hU h3 G1 H
        rw [h5] at k4 k5
        have hrk : s_rank ρ2 a0 W0 = s_rank ρ a0 W0 := by
          unfold s_rank
          rw [s_wv_ag k4 (fun w hw => Nat.lt_of_lt_of_le (hW w hw) hn)]
        have hagp : s_ag p ρ ρ2 := fun j hj => k4 j (by omega)
        obtain ⟨m, hm⟩ := s_go_ok hfr hU hC hW hpn n (t + 1) pc' ρ2 env2 lo2 st2 mm2 cl2 cs2 hp2 k1 k2 k3 (by omega)
        refine ⟨m + 1, ?_⟩
        rcases hm with ⟨m1, R, m2, m3, m4, o, m5, m6⟩ | ⟨m0, C, m1, ρ', cl', cs', hp', m2, m3, m4, m5, m6, m7⟩
        · refine Or.inl ⟨?_, R, fun f => ?_, m3, k6.trans m4, o, m5, s_eo_ag hagp m6⟩
          · rw [hrk] at m1
            rw [show m + 1 + t + 1 = m + (t + 1) + 1 by omega]
            exact m1
          · rw [show f + (m + 1) + 1 = (f + m + 1) + 1 by omega, s_steps_one h1 k7]
            exact m2 f
        · refine Or.inr ⟨by omega, C, m1, ρ', cl', cs', hp', m2, m3, k6.trans m4, fun j hj => (m5 j hj).trans (hagp j hj), ?_, fun f => ?_⟩
          · rw [hrk] at m6
            rw [show m + 1 + t = m + (t + 1) by omega]
            exact m6
          · rw [show f + (m + 1) = (f + m) + 1 by omega, s_steps_one h1 k7]
            exact m7 f
theorem s_rank_ge {p : Nat} {C : s_C} (hC : s_cgood p C) (hE : s_ek ρ C.2.1) : 0 ≤ s_rank ρ C.2.2.2.2.2.1 C.2.2.2.2.2.2 := by
  obtain ⟨-, -, -, -, -, r, h1, h2⟩ := hC
  have := s_lb_ok hE h1
  unfold s_rank
  omega
/-- from a cut on -/
theorem s_cuts_ok {sm : Nat → List s_U} {ins : Nat → Option q_MI} {dp p : Nat} {os : List s_O} {cuts : List s_C} {spl : List s_Y} (hfr : dp ≤ fr + 1) (hU : ∀ x, ∀ U ∈ sm x, U.2.1 < dp → U.1 = x ∧ s_holds cal U) (hC : ∀ C ∈ cuts, s_cgood p C) (hW : ∀ C ∈ cuts, ∀ w ∈ C.2.2.2.2.2.2, w.2 < C.2.1.length) (hgo : ∀ C ∈ cuts, s_go sm ins dp p mask os cuts spl C.2.2.2.2.2.1 C.2.2.2.2.2.2 3000 0 C.1 C.2.1 C.2.2.1 C.2.2.2.1 C.2.2.2.2.1 = true) : ∀ (F : Nat) (C : s_C), C ∈ cuts → ∀ (ρ : Nat → Int) (cl : List (Option Value)) (cs : List Value) (hp : q_H), s_g ρ C.2.1 C.2.2.1 C.2.2.2.1 C.2.2.2.2.1 cl cs hp → s_hok hp → s_rank ρ C.2.2.2.2.2.1 C.2.2.2.2.2.2 ≤ (F : Int) → ∃ R, q_steps q_CO ins cal fr F C.1 cl cs hp = some R ∧ s_good ρ p mask os hp R := by
  intro F
  induction F using Nat.strongRecOn with
  | ind F ih =>
    intro C hm ρ cl cs hp G H hF
    obtain ⟨m, hcase⟩ := s_go_ok hfr hU hC (hW C hm) (hC C hm).2.2.2.2.1 3000 0 C.1 ρ _ _ _ _ cl cs hp (hgo C hm) G H (Nat.le_refl _)
    rcases hcase with ⟨m1, R, m2, m3⟩ | ⟨m0, D, m1, ρ', cl', cs', hp', m2, m3, m4, m5, m6, m7⟩
    · refine ⟨R, ?_, m3⟩
      have : F = (F - (m + 1)) + m + 1 := by omega
      rw [this]
      exact m2 _
    · have h0 := s_rank_ge (hC D m1) m2.1
      obtain ⟨R, r1, r2, r3, o, r4, r5⟩ := ih (F - m) (by omega) D m1 ρ' cl' cs' hp' m2 m3 (by omega)
      refine ⟨R, ?_, r2, m4.trans r3, o, r4, s_eo_ag m5 r5⟩
      have : F = (F - m) + m := by omega
      rw [this, m7]
      exact r1
end s_gos2
